set_option maxHeartbeats 4000000 in
set_option maxRecDepth 100000 in
theorem c_X10_isNoMore (l : Launch) (D : va_G) (cs : Nat → ClassId) (ad : Nat → Nat) (F : ZF) (A : ZA) (T : Int64) (a0 a1 a2 a3 : Int32) (q : Int32) (h : f_X10_isNoMore a0 a1 a2 a3 = q) : zMi l D cs (XWc cs ad 10 11) yX10_isNoMore cX10_isNoMore 4 (some .boolean) rm_X10_isNoMore ([.int a0, .int a1, .int a2, .int a3] : List Value) F A T ((q, F, A, T) : Int32 × ZS) (((q, F, A, T) : Int32 × ZS).1 &&& 1 = ((q, F, A, T) : Int32 × ZS).1) := by
  refine z_enteri (by decide) (Nat.le_of_ble_eq_true rfl) ?_
  intro p e s m below meth c A0 ls S K w hA hr hlk hl
  have S : CallFix p m c cX10_isNoMore 4 s ([.int a0, .int a1, .int a2, .int a3] : List Value).toArray zWs RX10 := S
  have hl : lv_has ls 4 [(0, .int a0), (1, .int a1), (2, .int a2), (3, .int a3)] := hl
  unfold f_X10_isNoMore at h
  refine lv_iload_n S.1 S.2.1 dX10_isNoMore_0 rfl (lv_at hl 1 rfl) ?_
  refine lv_if_eq (tgt := 13) S.1 S.2.1 dX10_isNoMore_1 (by decide) (fun c1 => ?_) (fun c1 => ?_)
  · have h := og_t c1 h
    refine lv_iconst (v := 1) S.1 S.2.1 dX10_isNoMore_13 (by decide) ?_
    refine lv_goto (tgt := 18) S.1 S.2.1 dX10_isNoMore_14 (by decide) ?_
    exact z_retz S w hr hlk dX10_isNoMore_18 (by decide) (by rw [← h])
  · have h := og_f c1 h
    refine lv_iload_n S.1 S.2.1 dX10_isNoMore_4 rfl (lv_at hl 0 rfl) ?_
    refine lv_iload_n S.1 S.2.1 dX10_isNoMore_5 rfl (lv_at hl 3 rfl) ?_
    refine lv_imul S.1 S.2.1 dX10_isNoMore_6 ?_
    refine lv_iload_n S.1 S.2.1 dX10_isNoMore_7 rfl (lv_at hl 2 rfl) ?_
    refine lv_iload_n S.1 S.2.1 dX10_isNoMore_8 rfl (lv_at hl 1 rfl) ?_
    refine lv_imul S.1 S.2.1 dX10_isNoMore_9 ?_
    refine lv_icmp_gt (tgt := 17) S.1 S.2.1 dX10_isNoMore_10 (by decide) (fun c2 => ?_) (fun c2 => ?_)
    · have h := og_t c2 h
      refine lv_iconst (v := 0) S.1 S.2.1 dX10_isNoMore_17 (by decide) ?_
      exact z_retz S w hr hlk dX10_isNoMore_18 (by decide) (by rw [← h])
    · have h := og_f c2 h
      refine lv_iconst (v := 1) S.1 S.2.1 dX10_isNoMore_13 (by decide) ?_
      refine lv_goto (tgt := 18) S.1 S.2.1 dX10_isNoMore_14 (by decide) ?_
      exact z_retz S w hr hlk dX10_isNoMore_18 (by decide) (by rw [← h])
set_option maxHeartbeats 4000000 in
set_option maxRecDepth 100000 in
theorem c_X10_isNoLess (l : Launch) (D : va_G) (cs : Nat → ClassId) (ad : Nat → Nat) (F : ZF) (A : ZA) (T : Int64) (a0 a1 a2 a3 : Int32) (q : Int32) (h : f_X10_isNoLess a0 a1 a2 a3 = q) : zMi l D cs (XWc cs ad 10 11) yX10_isNoLess cX10_isNoLess 4 (some .boolean) rm_X10_isNoLess ([.int a0, .int a1, .int a2, .int a3] : List Value) F A T ((q, F, A, T) : Int32 × ZS) (((q, F, A, T) : Int32 × ZS).1 &&& 1 = ((q, F, A, T) : Int32 × ZS).1) := by
  refine z_enteri (by decide) (Nat.le_of_ble_eq_true rfl) ?_
  intro p e s m below meth c A0 ls S K w hA hr hlk hl
  have S : CallFix p m c cX10_isNoLess 4 s ([.int a0, .int a1, .int a2, .int a3] : List Value).toArray zWs RX10 := S
  have hl : lv_has ls 4 [(0, .int a0), (1, .int a1), (2, .int a2), (3, .int a3)] := hl
  unfold f_X10_isNoLess at h
  refine lv_iload_n S.1 S.2.1 dX10_isNoLess_0 rfl (lv_at hl 1 rfl) ?_
  refine lv_if_eq (tgt := 17) S.1 S.2.1 dX10_isNoLess_1 (by decide) (fun c1 => ?_) (fun c1 => ?_)
  · have h := og_t c1 h
    refine lv_iconst (v := 0) S.1 S.2.1 dX10_isNoLess_17 (by decide) ?_
    exact z_retz S w hr hlk dX10_isNoLess_18 (by decide) (by rw [← h])
  · have h := og_f c1 h
    refine lv_iload_n S.1 S.2.1 dX10_isNoLess_4 rfl (lv_at hl 0 rfl) ?_
    refine lv_iload_n S.1 S.2.1 dX10_isNoLess_5 rfl (lv_at hl 3 rfl) ?_
    refine lv_imul S.1 S.2.1 dX10_isNoLess_6 ?_
    refine lv_iload_n S.1 S.2.1 dX10_isNoLess_7 rfl (lv_at hl 2 rfl) ?_
    refine lv_iload_n S.1 S.2.1 dX10_isNoLess_8 rfl (lv_at hl 1 rfl) ?_
    refine lv_imul S.1 S.2.1 dX10_isNoLess_9 ?_
    refine lv_icmp_lt (tgt := 17) S.1 S.2.1 dX10_isNoLess_10 (by decide) (fun c2 => ?_) (fun c2 => ?_)
    · have h := og_t c2 h
      refine lv_iconst (v := 0) S.1 S.2.1 dX10_isNoLess_17 (by decide) ?_
      exact z_retz S w hr hlk dX10_isNoLess_18 (by decide) (by rw [← h])
    · have h := og_f c2 h
      refine lv_iconst (v := 1) S.1 S.2.1 dX10_isNoLess_13 (by decide) ?_
      refine lv_goto (tgt := 18) S.1 S.2.1 dX10_isNoLess_14 (by decide) ?_
      exact z_retz S w hr hlk dX10_isNoLess_18 (by decide) (by rw [← h])
set_option maxHeartbeats 4000000 in
set_option maxRecDepth 100000 in
theorem c_X10_cheapest (l : Launch) (D : va_G) (cs : Nat → ClassId) (ad : Nat → Nat) (F : ZF) (A : ZA) (T : Int64) (a0 a1 a2 a3 : Int32) (q : (Int32 × ZS)) (h : f_X10_cheapest a0 a1 a2 a3 F A T = some q) : zMi l D cs (XWc cs ad 10 11) yX10_cheapest cX10_cheapest 10 (some .int) rm_X10_cheapest ([.ref (ad 0), .int a0, .int a1, .int a2, .int a3] : List Value) F A T q True := by
  refine z_enteri (by decide) (Nat.le_of_ble_eq_true rfl) ?_
  intro p e s m below meth c A0 ls S K w hA hr hlk hl
  have S : CallFix p m c cX10_cheapest 10 s ([.ref (ad 0), .int a0, .int a1, .int a2, .int a3] : List Value).toArray zWs RX10 := S
  have hl : lv_has ls 10 [(0, .ref (ad 0)), (1, .int a0), (2, .int a1), (3, .int a2), (4, .int a3)] := hl
  unfold f_X10_cheapest at h
  have j28 : ∀ (n28 : Nat) (x1 x2 x3 x4 x5 x6 x7 : Int32) (F : ZF) (A : ZA) (T : Int64), f_X10_cheapest_28 n28 x1 x2 x3 x4 x5 x6 x7 F A T = some q → ∀ (H : Heap) (locs : List Loc) (ls : Array Slot), lv_has ls 10 [(0, .ref (ad 0)), (1, .int x1), (2, .int x2), (3, .int x3), (4, .int x4), (5, .int x5), (6, .int x6), (7, .int x7)] → ZW D A0 s.heap (XWc cs ad 10 11 F A T) H locs → W p l e rm_X10_cheapest s m ([.ref (ad 0), .int a0, .int a1, .int a2, .int a3] : List Value).toArray below meth c H locs 0 0 (zQi (XWc cs ad 10 11) D A0 below ([.ref (ad 0), .int a0, .int a1, .int a2, .int a3] : List Value) s q True) (F0 m 28 ls []) := by
    intro n28
    induction n28 with
    | zero =>
      intro x1 x2 x3 x4 x5 x6 x7 F A T h H locs ls hl w
      have h : (none : Option (Int32 × ZS)) = some q := h
      cases h
    | succ n28 ih28 =>
      intro x1 x2 x3 x4 x5 x6 x7 F A T h H locs ls hl w
      rw [f_X10_cheapest_28_s] at h
      have j86 : ∀ (x1 x2 x3 x4 x5 x6 x7 x8 : Int32) (F : ZF) (A : ZA) (T : Int64), f_X10_cheapest_86 (f_X10_cheapest_28 n28) x1 x2 x3 x4 x5 x6 x7 x8 F A T = some q → ∀ (H : Heap) (locs : List Loc) (ls : Array Slot), lv_has ls 10 [(0, .ref (ad 0)), (1, .int x1), (2, .int x2), (3, .int x3), (4, .int x4), (5, .int x5), (6, .int x6), (7, .int x7), (8, .int x8)] → ZW D A0 s.heap (XWc cs ad 10 11 F A T) H locs → W p l e rm_X10_cheapest s m ([.ref (ad 0), .int a0, .int a1, .int a2, .int a3] : List Value).toArray below meth c H locs 0 0 (zQi (XWc cs ad 10 11) D A0 below ([.ref (ad 0), .int a0, .int a1, .int a2, .int a3] : List Value) s q True) (F0 m 86 ls []) := by
        intro x1 x2 x3 x4 x5 x6 x7 x8 F A T h H locs ls hl w
        unfold f_X10_cheapest_86 at h
        refine lv_aload_n S.1 S.2.1 dX10_cheapest_86 rfl (lv_at hl 0 rfl) ?_
        refine gX_0_1 S K w w312 dX10_cheapest_87 ?_
        refine lv_aload_n S.1 S.2.1 dX10_cheapest_90 rfl (lv_at hl 0 rfl) ?_
        refine gX_0_11 S K w w330 dX10_cheapest_91 ?_
        refine lv_iload S.1 S.2.1 dX10_cheapest_94 (lv_at hl 7 rfl) ?_
        refine lv_aload_n S.1 S.2.1 dX10_cheapest_96 rfl (lv_at hl 0 rfl) ?_
        refine gX_0_2 S K w w314 dX10_cheapest_97 ?_
        refine gX_3_0 S K w w154 dX10_cheapest_100 ?_
        refine lv_ior S.1 S.2.1 dX10_cheapest_103 ?_
        obtain ⟨q8, e9, h⟩ := og_b h
        refine z_callVv S K w hA (c_X5_weigh l D cs ad F A T (x7 ||| (F 10)) q8 e9) (cw_X10_260 S.2.2.2.2 ⟨Nat.le_of_ble_eq_true rfl, Nat.le_of_ble_eq_true rfl⟩) (z_recv K w 2 5 rfl rfl) rfl hl.1 rfl (Nat.le_of_ble_eq_true rfl) ⟨Nat.zero_le _, Nat.zero_le _⟩ dX10_cheapest_104 (fun H locs w => ?_)
        refine lv_aload_n S.1 S.2.1 dX10_cheapest_107 rfl (lv_at hl 0 rfl) ?_
        refine gX_0_1 S K w w312 dX10_cheapest_108 ?_
        refine gX_2_0 S K w w124 dX10_cheapest_111 ?_
        refine lv_iload_n S.1 S.2.1 dX10_cheapest_114 rfl (lv_at hl 1 rfl) ?_
        obtain ⟨g10, h⟩ := og_g h
        refine aX_14 S K w g10 dX10_cheapest_115 ?_
        refine lv_istore (lv' := [(9, .int (q8.2.1 14 (x1).toNatClampNeg)), (0, .ref (ad 0)), (1, .int x1), (2, .int x2), (3, .int x3), (4, .int x4), (5, .int x5), (6, .int x6), (7, .int x7), (8, .int x8)]) S.1 S.2.1 dX10_cheapest_116 hl (by decide) rfl (fun ls hl => ?_)
        refine lv_iload S.1 S.2.1 dX10_cheapest_118 (lv_at hl 5 rfl) ?_
        refine lv_if_eq (tgt := 143) S.1 S.2.1 dX10_cheapest_120 (by decide) (fun c11 => ?_) (fun c11 => ?_)
        · have h := og_t c11 h
          refine lv_iload S.1 S.2.1 dX10_cheapest_143 (lv_at hl 0 rfl) ?_
          refine lv_aload_n S.1 S.2.1 dX10_cheapest_145 rfl (lv_at hl 1 rfl) ?_
          refine gX_0_1 S K w w312 dX10_cheapest_146 ?_
          refine gX_2_3 S K w w130 dX10_cheapest_149 ?_
          refine lv_iload_n S.1 S.2.1 dX10_cheapest_152 rfl (lv_at hl 3 rfl) ?_
          refine lv_iload_n S.1 S.2.1 dX10_cheapest_153 rfl (lv_at hl 4 rfl) ?_
          refine z_callSr S K w hA (c_X10_isNoMore l D cs ad q8.1 q8.2.1 q8.2.2 (q8.2.1 14 (x1).toNatClampNeg) (q8.1 8) x2 x3 (f_X10_isNoMore (q8.2.1 14 (x1).toNatClampNeg) (q8.1 8) x2 x3) rfl) (cw_X10_209 S.2.2.2.2 ⟨Nat.le_of_ble_eq_true rfl, Nat.le_of_ble_eq_true rfl⟩) rfl hl.1 rfl (Nat.le_of_ble_eq_true rfl) ⟨Nat.zero_le _, Nat.zero_le _⟩ dX10_cheapest_154 (fun b12 H locs w => ?_)
          refine lv_if_eq (tgt := 168) S.1 S.2.1 dX10_cheapest_157 (by decide) (fun c13 => ?_) (fun c13 => ?_)
          · have h := og_t c13 h
            refine lv_iinc (v := (x7 + (1 : Int32))) (lv' := [(7, .int (x7 + (1 : Int32))), (9, .int (q8.2.1 14 (x1).toNatClampNeg)), (0, .ref (ad 0)), (1, .int x1), (2, .int x2), (3, .int x3), (4, .int x4), (5, .int x5), (6, .int x6), (8, .int x8)]) S.1 S.2.1 dX10_cheapest_168 hl (k := 8) rfl rfl (by decide) rfl (fun ls hl => ?_)
            refine lv_goto (tgt := 28) S.1 S.2.1 dX10_cheapest_171 (by decide) ?_
            exact ih28 _ _ _ _ _ _ _ _ _ _ h _ _ _ (lv_sub hl [2, 3, 4, 5, 6, 7, 8, 0] rfl) w
          · have h := og_f c13 h
            refine lv_iload S.1 S.2.1 dX10_cheapest_160 (lv_at hl 8 rfl) ?_
            refine lv_istore (lv' := [(5, .int x7), (9, .int (q8.2.1 14 (x1).toNatClampNeg)), (0, .ref (ad 0)), (1, .int x1), (2, .int x2), (3, .int x3), (4, .int x4), (6, .int x6), (7, .int x7), (8, .int x8)]) S.1 S.2.1 dX10_cheapest_162 hl (by decide) rfl (fun ls hl => ?_)
            refine lv_iload S.1 S.2.1 dX10_cheapest_164 (lv_at hl 9 rfl) ?_
            refine lv_istore (lv' := [(6, .int x8), (5, .int x7), (9, .int (q8.2.1 14 (x1).toNatClampNeg)), (0, .ref (ad 0)), (1, .int x1), (2, .int x2), (3, .int x3), (4, .int x4), (7, .int x7), (8, .int x8)]) S.1 S.2.1 dX10_cheapest_166 hl (by decide) rfl (fun ls hl => ?_)
            refine lv_iinc (v := (x7 + (1 : Int32))) (lv' := [(7, .int (x7 + (1 : Int32))), (6, .int x8), (5, .int x7), (9, .int (q8.2.1 14 (x1).toNatClampNeg)), (0, .ref (ad 0)), (1, .int x1), (2, .int x2), (3, .int x3), (4, .int x4), (8, .int x8)]) S.1 S.2.1 dX10_cheapest_168 hl (k := 8) rfl rfl (by decide) rfl (fun ls hl => ?_)
            refine lv_goto (tgt := 28) S.1 S.2.1 dX10_cheapest_171 (by decide) ?_
            exact ih28 _ _ _ _ _ _ _ _ _ _ h _ _ _ (lv_sub hl [4, 5, 6, 7, 8, 2, 1, 0] rfl) w
        · have h := og_f c11 h
          refine lv_iload S.1 S.2.1 dX10_cheapest_123 (lv_at hl 0 rfl) ?_
          refine lv_aload_n S.1 S.2.1 dX10_cheapest_125 rfl (lv_at hl 1 rfl) ?_
          refine gX_0_1 S K w w312 dX10_cheapest_126 ?_
          refine gX_2_3 S K w w130 dX10_cheapest_129 ?_
          refine lv_iload_n S.1 S.2.1 dX10_cheapest_132 rfl (lv_at hl 3 rfl) ?_
          refine lv_iload_n S.1 S.2.1 dX10_cheapest_133 rfl (lv_at hl 4 rfl) ?_
          refine z_callSr S K w hA (c_X10_isNoLess l D cs ad q8.1 q8.2.1 q8.2.2 (q8.2.1 14 (x1).toNatClampNeg) (q8.1 8) x2 x3 (f_X10_isNoLess (q8.2.1 14 (x1).toNatClampNeg) (q8.1 8) x2 x3) rfl) (cw_X10_269 S.2.2.2.2 ⟨Nat.le_of_ble_eq_true rfl, Nat.le_of_ble_eq_true rfl⟩) rfl hl.1 rfl (Nat.le_of_ble_eq_true rfl) ⟨Nat.zero_le _, Nat.zero_le _⟩ dX10_cheapest_134 (fun b14 H locs w => ?_)
          refine lv_if_eq (tgt := 168) S.1 S.2.1 dX10_cheapest_137 (by decide) (fun c15 => ?_) (fun c15 => ?_)
          · have h := og_t c15 h
            refine lv_iinc (v := (x7 + (1 : Int32))) (lv' := [(7, .int (x7 + (1 : Int32))), (9, .int (q8.2.1 14 (x1).toNatClampNeg)), (0, .ref (ad 0)), (1, .int x1), (2, .int x2), (3, .int x3), (4, .int x4), (5, .int x5), (6, .int x6), (8, .int x8)]) S.1 S.2.1 dX10_cheapest_168 hl (k := 8) rfl rfl (by decide) rfl (fun ls hl => ?_)
            refine lv_goto (tgt := 28) S.1 S.2.1 dX10_cheapest_171 (by decide) ?_
            exact ih28 _ _ _ _ _ _ _ _ _ _ h _ _ _ (lv_sub hl [2, 3, 4, 5, 6, 7, 8, 0] rfl) w
          · have h := og_f c15 h
            refine lv_goto (tgt := 160) S.1 S.2.1 dX10_cheapest_140 (by decide) ?_
            refine lv_iload S.1 S.2.1 dX10_cheapest_160 (lv_at hl 8 rfl) ?_
            refine lv_istore (lv' := [(5, .int x7), (9, .int (q8.2.1 14 (x1).toNatClampNeg)), (0, .ref (ad 0)), (1, .int x1), (2, .int x2), (3, .int x3), (4, .int x4), (6, .int x6), (7, .int x7), (8, .int x8)]) S.1 S.2.1 dX10_cheapest_162 hl (by decide) rfl (fun ls hl => ?_)
            refine lv_iload S.1 S.2.1 dX10_cheapest_164 (lv_at hl 9 rfl) ?_
            refine lv_istore (lv' := [(6, .int x8), (5, .int x7), (9, .int (q8.2.1 14 (x1).toNatClampNeg)), (0, .ref (ad 0)), (1, .int x1), (2, .int x2), (3, .int x3), (4, .int x4), (7, .int x7), (8, .int x8)]) S.1 S.2.1 dX10_cheapest_166 hl (by decide) rfl (fun ls hl => ?_)
            refine lv_iinc (v := (x7 + (1 : Int32))) (lv' := [(7, .int (x7 + (1 : Int32))), (6, .int x8), (5, .int x7), (9, .int (q8.2.1 14 (x1).toNatClampNeg)), (0, .ref (ad 0)), (1, .int x1), (2, .int x2), (3, .int x3), (4, .int x4), (8, .int x8)]) S.1 S.2.1 dX10_cheapest_168 hl (k := 8) rfl rfl (by decide) rfl (fun ls hl => ?_)
            refine lv_goto (tgt := 28) S.1 S.2.1 dX10_cheapest_171 (by decide) ?_
            exact ih28 _ _ _ _ _ _ _ _ _ _ h _ _ _ (lv_sub hl [4, 5, 6, 7, 8, 2, 1, 0] rfl) w
      refine lv_iload S.1 S.2.1 dX10_cheapest_28 (lv_at hl 7 rfl) ?_
      refine lv_iconst (v := 1) S.1 S.2.1 dX10_cheapest_30 (by decide) ?_
      refine lv_aload_n S.1 S.2.1 dX10_cheapest_31 rfl (lv_at hl 0 rfl) ?_
      refine gX_0_11 S K w w330 dX10_cheapest_32 ?_
      refine gX_10_1 S K w w231 dX10_cheapest_35 ?_
      refine lv_ishl S.1 S.2.1 dX10_cheapest_38 ?_
      refine lv_icmp_ge (tgt := 174) S.1 S.2.1 dX10_cheapest_39 (by decide) (fun c1 => ?_) (fun c1 => ?_)
      · have h := og_t c1 h
        refine lv_iload S.1 S.2.1 dX10_cheapest_174 (lv_at hl 5 rfl) ?_
        exact z_reti S w hr hlk dX10_cheapest_176 trivial (Option.some.inj h).symm
      · have h := og_f c1 h
        refine lv_iload S.1 S.2.1 dX10_cheapest_42 (lv_at hl 7 rfl) ?_
        refine lv_aload_n S.1 S.2.1 dX10_cheapest_44 rfl (lv_at hl 0 rfl) ?_
        refine gX_0_2 S K w w314 dX10_cheapest_45 ?_
        refine gX_3_0 S K w w154 dX10_cheapest_48 ?_
        refine lv_iand S.1 S.2.1 dX10_cheapest_51 ?_
        refine lv_if_eq (tgt := 58) S.1 S.2.1 dX10_cheapest_52 (by decide) (fun c2 => ?_) (fun c2 => ?_)
        · have h := og_t c2 h
          refine lv_aload_n S.1 S.2.1 dX10_cheapest_58 rfl (lv_at hl 0 rfl) ?_
          refine gX_0_11 S K w w330 dX10_cheapest_59 ?_
          refine lv_iload S.1 S.2.1 dX10_cheapest_62 (lv_at hl 7 rfl) ?_
          obtain ⟨q4, e5, h⟩ := og_b h
          refine z_callVr S K w hA (c_X1_costOf l D cs ad F A T x7 q4 e5) (cw_X10_266 S.2.2.2.2 ⟨Nat.le_of_ble_eq_true rfl, Nat.le_of_ble_eq_true rfl⟩) (z_recv K w 10 1 rfl rfl) rfl hl.1 rfl (Nat.le_of_ble_eq_true rfl) ⟨Nat.zero_le _, Nat.zero_le _⟩ dX10_cheapest_64 (fun b3 H locs w => ?_)
          refine lv_istore (lv' := [(8, .int q4), (0, .ref (ad 0)), (1, .int x1), (2, .int x2), (3, .int x3), (4, .int x4), (5, .int x5), (6, .int x6), (7, .int x7)]) S.1 S.2.1 dX10_cheapest_67 hl (by decide) rfl (fun ls hl => ?_)
          refine lv_iload S.1 S.2.1 dX10_cheapest_69 (lv_at hl 6 rfl) ?_
          refine lv_bipush (v := -9) S.1 S.2.1 dX10_cheapest_71 (by decide) ?_
          refine lv_icmp_eq (tgt := 86) S.1 S.2.1 dX10_cheapest_73 (by decide) (fun c6 => ?_) (fun c6 => ?_)
          · have h := og_t c6 h
            exact j86 _ _ _ _ _ _ _ _ _ _ _ h _ _ _ (lv_sub hl [1, 2, 3, 4, 5, 6, 7, 8, 0] rfl) w
          · have h := og_f c6 h
            refine lv_iload S.1 S.2.1 dX10_cheapest_76 (lv_at hl 0 rfl) ?_
            refine lv_iload S.1 S.2.1 dX10_cheapest_78 (lv_at hl 7 rfl) ?_
            refine lv_icmp_lt (tgt := 86) S.1 S.2.1 dX10_cheapest_80 (by decide) (fun c7 => ?_) (fun c7 => ?_)
            · have h := og_t c7 h
              exact j86 _ _ _ _ _ _ _ _ _ _ _ h _ _ _ (lv_sub hl [1, 2, 3, 4, 5, 6, 7, 8, 0] rfl) w
            · have h := og_f c7 h
              refine lv_goto (tgt := 168) S.1 S.2.1 dX10_cheapest_83 (by decide) ?_
              refine lv_iinc (v := (x7 + (1 : Int32))) (lv' := [(7, .int (x7 + (1 : Int32))), (8, .int q4), (0, .ref (ad 0)), (1, .int x1), (2, .int x2), (3, .int x3), (4, .int x4), (5, .int x5), (6, .int x6)]) S.1 S.2.1 dX10_cheapest_168 hl (k := 8) rfl rfl (by decide) rfl (fun ls hl => ?_)
              refine lv_goto (tgt := 28) S.1 S.2.1 dX10_cheapest_171 (by decide) ?_
              exact ih28 _ _ _ _ _ _ _ _ _ _ h _ _ _ (lv_sub hl [2, 3, 4, 5, 6, 7, 8, 0] rfl) w
        · have h := og_f c2 h
          refine lv_goto (tgt := 168) S.1 S.2.1 dX10_cheapest_55 (by decide) ?_
          refine lv_iinc (v := (x7 + (1 : Int32))) (lv' := [(7, .int (x7 + (1 : Int32))), (0, .ref (ad 0)), (1, .int x1), (2, .int x2), (3, .int x3), (4, .int x4), (5, .int x5), (6, .int x6)]) S.1 S.2.1 dX10_cheapest_168 hl (k := 7) rfl rfl (by decide) rfl (fun ls hl => ?_)
          refine lv_goto (tgt := 28) S.1 S.2.1 dX10_cheapest_171 (by decide) ?_
          exact ih28 _ _ _ _ _ _ _ _ _ _ h _ _ _ (lv_sub hl [1, 2, 3, 4, 5, 6, 7, 0] rfl) w
  refine lv_aload_n S.1 S.2.1 dX10_cheapest_0 rfl (lv_at hl 0 rfl) ?_
  refine gX_0_1 S K w w312 dX10_cheapest_1 ?_
  refine lv_aload_n S.1 S.2.1 dX10_cheapest_4 rfl (lv_at hl 0 rfl) ?_
  refine gX_0_11 S K w w330 dX10_cheapest_5 ?_
  refine lv_aload_n S.1 S.2.1 dX10_cheapest_8 rfl (lv_at hl 0 rfl) ?_
  refine gX_0_2 S K w w314 dX10_cheapest_9 ?_
  refine gX_3_1 S K w w156 dX10_cheapest_12 ?_
  obtain ⟨q16, e17, h⟩ := og_b h
  refine z_callVv S K w hA (c_X5_countHours l D cs ad F A T (F 11) q16 e17) (cw_X10_235 S.2.2.2.2 ⟨Nat.le_of_ble_eq_true rfl, Nat.le_of_ble_eq_true rfl⟩) (z_recv K w 2 5 rfl rfl) rfl hl.1 rfl (Nat.le_of_ble_eq_true rfl) ⟨Nat.zero_le _, Nat.zero_le _⟩ dX10_cheapest_15 (fun H locs w => ?_)
  refine lv_bipush (v := -9) S.1 S.2.1 dX10_cheapest_18 (by decide) ?_
  refine lv_istore (lv' := [(5, .int (-9 : Int32)), (0, .ref (ad 0)), (1, .int a0), (2, .int a1), (3, .int a2), (4, .int a3)]) S.1 S.2.1 dX10_cheapest_20 hl (by decide) rfl (fun ls hl => ?_)
  refine lv_iconst (v := 0) S.1 S.2.1 dX10_cheapest_22 (by decide) ?_
  refine lv_istore (lv' := [(6, .int (0 : Int32)), (5, .int (-9 : Int32)), (0, .ref (ad 0)), (1, .int a0), (2, .int a1), (3, .int a2), (4, .int a3)]) S.1 S.2.1 dX10_cheapest_23 hl (by decide) rfl (fun ls hl => ?_)
  refine lv_iconst (v := 0) S.1 S.2.1 dX10_cheapest_25 (by decide) ?_
  refine lv_istore (lv' := [(7, .int (0 : Int32)), (6, .int (0 : Int32)), (5, .int (-9 : Int32)), (0, .ref (ad 0)), (1, .int a0), (2, .int a1), (3, .int a2), (4, .int a3)]) S.1 S.2.1 dX10_cheapest_26 hl (by decide) rfl (fun ls hl => ?_)
  exact j28 1000 _ _ _ _ _ _ _ _ _ _ h _ _ _ (lv_sub hl [3, 4, 5, 6, 7, 2, 1, 0] rfl) w
set_option maxHeartbeats 4000000 in
set_option maxRecDepth 100000 in
theorem c_X10_costOrSet (l : Launch) (D : va_G) (cs : Nat → ClassId) (ad : Nat → Nat) (F : ZF) (A : ZA) (T : Int64) (a0 a1 : Int32) (q : Int32) (h : f_X10_costOrSet a0 a1 F A T = some q) : zMi l D cs (XWc cs ad 10 11) yX10_costOrSet cX10_costOrSet 3 (some .int) rm_X10_costOrSet ([.ref (ad 0), .int a0, .int a1] : List Value) F A T ((q, F, A, T) : Int32 × ZS) True := by
  refine z_enteri (by decide) (Nat.le_of_ble_eq_true rfl) ?_
  intro p e s m below meth c A0 ls S K w hA hr hlk hl
  have S : CallFix p m c cX10_costOrSet 3 s ([.ref (ad 0), .int a0, .int a1] : List Value).toArray zWs RX10 := S
  have hl : lv_has ls 3 [(0, .ref (ad 0)), (1, .int a0), (2, .int a1)] := hl
  unfold f_X10_costOrSet at h
  refine lv_iload_n S.1 S.2.1 dX10_costOrSet_0 rfl (lv_at hl 1 rfl) ?_
  refine lv_bipush (v := -9) S.1 S.2.1 dX10_costOrSet_1 (by decide) ?_
  refine lv_icmp_eq (tgt := 11) S.1 S.2.1 dX10_costOrSet_3 (by decide) (fun c1 => ?_) (fun c1 => ?_)
  · have h := og_t c1 h
    refine lv_iload_n S.1 S.2.1 dX10_costOrSet_11 rfl (lv_at hl 1 rfl) ?_
    exact z_reti S w hr hlk dX10_costOrSet_12 trivial (by rw [← Option.some.inj h])
  · have h := og_f c1 h
    refine lv_iload_n S.1 S.2.1 dX10_costOrSet_6 rfl (lv_at hl 2 rfl) ?_
    refine lv_iconst (v := 1) S.1 S.2.1 dX10_costOrSet_7 (by decide) ?_
    refine lv_icmp_ne (tgt := 13) S.1 S.2.1 dX10_costOrSet_8 (by decide) (fun c2 => ?_) (fun c2 => ?_)
    · have h := og_f c2 h
      refine lv_aload_n S.1 S.2.1 dX10_costOrSet_13 rfl (lv_at hl 0 rfl) ?_
      refine gX_0_11 S K w w330 dX10_costOrSet_14 ?_
      refine lv_iload_n S.1 S.2.1 dX10_costOrSet_17 rfl (lv_at hl 1 rfl) ?_
      obtain ⟨q4, e5, h⟩ := og_b h
      refine z_callVr S K w hA (c_X1_costOf l D cs ad F A T a0 q4 e5) (cw_X10_266 S.2.2.2.2 ⟨Nat.le_of_ble_eq_true rfl, Nat.le_of_ble_eq_true rfl⟩) (z_recv K w 10 1 rfl rfl) rfl hl.1 rfl (Nat.le_of_ble_eq_true rfl) ⟨Nat.zero_le _, Nat.zero_le _⟩ dX10_costOrSet_18 (fun b3 H locs w => ?_)
      exact z_reti S w hr hlk dX10_costOrSet_21 trivial (by rw [← Option.some.inj h])
    · have h := og_t c2 h
      refine lv_iload_n S.1 S.2.1 dX10_costOrSet_11 rfl (lv_at hl 1 rfl) ?_
      exact z_reti S w hr hlk dX10_costOrSet_12 trivial (by rw [← Option.some.inj h])
set_option maxHeartbeats 4000000 in
set_option maxRecDepth 100000 in
theorem c_X10_proof (l : Launch) (D : va_G) (cs : Nat → ClassId) (ad : Nat → Nat) (F : ZF) (A : ZA) (T : Int64) (a0 a1 a2 a3 : Int32) (q : (Int32 × ZS)) (h : f_X10_proof a0 a1 a2 a3 F A T = some q) : zMi l D cs (XWc cs ad 10 11) yX10_proof cX10_proof 5 (some .int) rm_X10_proof ([.ref (ad 0), .int a0, .int a1, .int a2, .int a3] : List Value) F A T q True := by
  refine z_enteri (by decide) (Nat.le_of_ble_eq_true rfl) ?_
  intro p e s m below meth c A0 ls S K w hA hr hlk hl
  have S : CallFix p m c cX10_proof 5 s ([.ref (ad 0), .int a0, .int a1, .int a2, .int a3] : List Value).toArray zWs RX10 := S
  have hl : lv_has ls 5 [(0, .ref (ad 0)), (1, .int a0), (2, .int a1), (3, .int a2), (4, .int a3)] := hl
  unfold f_X10_proof at h
  refine lv_aload_n S.1 S.2.1 dX10_proof_0 rfl (lv_at hl 0 rfl) ?_
  refine lv_iload_n S.1 S.2.1 dX10_proof_1 rfl (lv_at hl 1 rfl) ?_
  refine z_callVr S K w hA (c_X10_isSuspect l D cs ad F A T a0 (f_X10_isSuspect a0 F A T) rfl) (cw_X10_107 S.2.2.2.2 ⟨Nat.le_of_ble_eq_true rfl, Nat.le_of_ble_eq_true rfl⟩) (z_recv K w 0 10 rfl rfl) rfl hl.1 rfl (Nat.le_of_ble_eq_true rfl) ⟨Nat.zero_le _, Nat.zero_le _⟩ dX10_proof_2 (fun b1 H locs w => ?_)
  refine lv_if_eq (tgt := 26) S.1 S.2.1 dX10_proof_5 (by decide) (fun c2 => ?_) (fun c2 => ?_)
  · have h := og_t c2 h
    refine lv_iconst (v := -1) S.1 S.2.1 dX10_proof_26 (by decide) ?_
    exact z_reti S w hr hlk dX10_proof_27 trivial (Option.some.inj h).symm
  · have h := og_f c2 h
    refine lv_iload_n S.1 S.2.1 dX10_proof_8 rfl (lv_at hl 2 rfl) ?_
    refine lv_iload_n S.1 S.2.1 dX10_proof_9 rfl (lv_at hl 3 rfl) ?_
    refine z_callSr S K w hA (c_X10_isFraction l D cs ad F A T a1 a2 (f_X10_isFraction a1 a2) rfl) (cw_X10_187 S.2.2.2.2 ⟨Nat.le_of_ble_eq_true rfl, Nat.le_of_ble_eq_true rfl⟩) rfl hl.1 rfl (Nat.le_of_ble_eq_true rfl) ⟨Nat.zero_le _, Nat.zero_le _⟩ dX10_proof_10 (fun b3 H locs w => ?_)
    refine lv_if_eq (tgt := 26) S.1 S.2.1 dX10_proof_13 (by decide) (fun c4 => ?_) (fun c4 => ?_)
    · have h := og_t c4 h
      refine lv_iconst (v := -1) S.1 S.2.1 dX10_proof_26 (by decide) ?_
      exact z_reti S w hr hlk dX10_proof_27 trivial (Option.some.inj h).symm
    · have h := og_f c4 h
      refine lv_iload S.1 S.2.1 dX10_proof_16 (lv_at hl 4 rfl) ?_
      refine lv_iconst (v := 0) S.1 S.2.1 dX10_proof_18 (by decide) ?_
      refine lv_iconst (v := 1) S.1 S.2.1 dX10_proof_19 (by decide) ?_
      refine z_callSr S K w hA (c_X10_within l D cs ad F A T a3 (0 : Int32) (1 : Int32) (f_X10_within a3 (0 : Int32) (1 : Int32)) rfl) (cw_X10_90 S.2.2.2.2 ⟨Nat.le_of_ble_eq_true rfl, Nat.le_of_ble_eq_true rfl⟩) rfl hl.1 rfl (Nat.le_of_ble_eq_true rfl) ⟨Nat.zero_le _, Nat.zero_le _⟩ dX10_proof_20 (fun b5 H locs w => ?_)
      refine lv_if_ne (tgt := 28) S.1 S.2.1 dX10_proof_23 (by decide) (fun c6 => ?_) (fun c6 => ?_)
      · have h := og_f c6 h
        refine lv_aload_n S.1 S.2.1 dX10_proof_28 rfl (lv_at hl 0 rfl) ?_
        refine lv_aload_n S.1 S.2.1 dX10_proof_29 rfl (lv_at hl 0 rfl) ?_
        refine lv_iload_n S.1 S.2.1 dX10_proof_30 rfl (lv_at hl 1 rfl) ?_
        refine lv_iload_n S.1 S.2.1 dX10_proof_31 rfl (lv_at hl 2 rfl) ?_
        refine lv_iload_n S.1 S.2.1 dX10_proof_32 rfl (lv_at hl 3 rfl) ?_
        refine lv_iconst (v := 1) S.1 S.2.1 dX10_proof_33 (by decide) ?_
        obtain ⟨q8, e9, h⟩ := og_b h
        refine z_callVi S K w hA (c_X10_cheapest l D cs ad F A T a0 a1 a2 (1 : Int32) q8 e9) (cw_X10_191 S.2.2.2.2 ⟨Nat.le_of_ble_eq_true rfl, Nat.le_of_ble_eq_true rfl⟩) (z_recv K w 0 10 rfl rfl) rfl hl.1 rfl (Nat.le_of_ble_eq_true rfl) ⟨Nat.zero_le _, Nat.zero_le _⟩ dX10_proof_34 (fun b7 H locs w => ?_)
        refine lv_iload S.1 S.2.1 dX10_proof_37 (lv_at hl 4 rfl) ?_
        obtain ⟨q11, e12, h⟩ := og_b h
        refine z_callVr S K w hA (c_X10_costOrSet l D cs ad q8.2.1 q8.2.2.1 q8.2.2.2 q8.1 a3 q11 e12) (cw_X10_195 S.2.2.2.2 ⟨Nat.le_of_ble_eq_true rfl, Nat.le_of_ble_eq_true rfl⟩) (z_recv K w 0 10 rfl rfl) rfl hl.1 rfl (Nat.le_of_ble_eq_true rfl) ⟨Nat.zero_le _, Nat.zero_le _⟩ dX10_proof_39 (fun b10 H locs w => ?_)
        exact z_reti S w hr hlk dX10_proof_42 trivial (Option.some.inj h).symm
      · have h := og_t c6 h
        refine lv_iconst (v := -1) S.1 S.2.1 dX10_proof_26 (by decide) ?_
        exact z_reti S w hr hlk dX10_proof_27 trivial (Option.some.inj h).symm
set_option maxHeartbeats 4000000 in
set_option maxRecDepth 100000 in
theorem c_X10_cleared (l : Launch) (D : va_G) (cs : Nat → ClassId) (ad : Nat → Nat) (F : ZF) (A : ZA) (T : Int64) (a0 a1 a2 a3 : Int32) (q : (Int32 × ZS)) (h : f_X10_cleared a0 a1 a2 a3 F A T = some q) : zMi l D cs (XWc cs ad 10 11) yX10_cleared cX10_cleared 5 (some .int) rm_X10_cleared ([.ref (ad 0), .int a0, .int a1, .int a2, .int a3] : List Value) F A T q True := by
  refine z_enteri (by decide) (Nat.le_of_ble_eq_true rfl) ?_
  intro p e s m below meth c A0 ls S K w hA hr hlk hl
  have S : CallFix p m c cX10_cleared 5 s ([.ref (ad 0), .int a0, .int a1, .int a2, .int a3] : List Value).toArray zWs RX10 := S
  have hl : lv_has ls 5 [(0, .ref (ad 0)), (1, .int a0), (2, .int a1), (3, .int a2), (4, .int a3)] := hl
  unfold f_X10_cleared at h
  refine lv_aload_n S.1 S.2.1 dX10_cleared_0 rfl (lv_at hl 0 rfl) ?_
  refine lv_iload_n S.1 S.2.1 dX10_cleared_1 rfl (lv_at hl 1 rfl) ?_
  refine z_callVr S K w hA (c_X10_isSuspect l D cs ad F A T a0 (f_X10_isSuspect a0 F A T) rfl) (cw_X10_107 S.2.2.2.2 ⟨Nat.le_of_ble_eq_true rfl, Nat.le_of_ble_eq_true rfl⟩) (z_recv K w 0 10 rfl rfl) rfl hl.1 rfl (Nat.le_of_ble_eq_true rfl) ⟨Nat.zero_le _, Nat.zero_le _⟩ dX10_cleared_2 (fun b1 H locs w => ?_)
  refine lv_if_eq (tgt := 26) S.1 S.2.1 dX10_cleared_5 (by decide) (fun c2 => ?_) (fun c2 => ?_)
  · have h := og_t c2 h
    refine lv_iconst (v := -1) S.1 S.2.1 dX10_cleared_26 (by decide) ?_
    exact z_reti S w hr hlk dX10_cleared_27 trivial (Option.some.inj h).symm
  · have h := og_f c2 h
    refine lv_iload_n S.1 S.2.1 dX10_cleared_8 rfl (lv_at hl 2 rfl) ?_
    refine lv_iload_n S.1 S.2.1 dX10_cleared_9 rfl (lv_at hl 3 rfl) ?_
    refine z_callSr S K w hA (c_X10_isFraction l D cs ad F A T a1 a2 (f_X10_isFraction a1 a2) rfl) (cw_X10_187 S.2.2.2.2 ⟨Nat.le_of_ble_eq_true rfl, Nat.le_of_ble_eq_true rfl⟩) rfl hl.1 rfl (Nat.le_of_ble_eq_true rfl) ⟨Nat.zero_le _, Nat.zero_le _⟩ dX10_cleared_10 (fun b3 H locs w => ?_)
    refine lv_if_eq (tgt := 26) S.1 S.2.1 dX10_cleared_13 (by decide) (fun c4 => ?_) (fun c4 => ?_)
    · have h := og_t c4 h
      refine lv_iconst (v := -1) S.1 S.2.1 dX10_cleared_26 (by decide) ?_
      exact z_reti S w hr hlk dX10_cleared_27 trivial (Option.some.inj h).symm
    · have h := og_f c4 h
      refine lv_iload S.1 S.2.1 dX10_cleared_16 (lv_at hl 4 rfl) ?_
      refine lv_iconst (v := 0) S.1 S.2.1 dX10_cleared_18 (by decide) ?_
      refine lv_iconst (v := 1) S.1 S.2.1 dX10_cleared_19 (by decide) ?_
      refine z_callSr S K w hA (c_X10_within l D cs ad F A T a3 (0 : Int32) (1 : Int32) (f_X10_within a3 (0 : Int32) (1 : Int32)) rfl) (cw_X10_90 S.2.2.2.2 ⟨Nat.le_of_ble_eq_true rfl, Nat.le_of_ble_eq_true rfl⟩) rfl hl.1 rfl (Nat.le_of_ble_eq_true rfl) ⟨Nat.zero_le _, Nat.zero_le _⟩ dX10_cleared_20 (fun b5 H locs w => ?_)
      refine lv_if_ne (tgt := 28) S.1 S.2.1 dX10_cleared_23 (by decide) (fun c6 => ?_) (fun c6 => ?_)
      · have h := og_f c6 h
        refine lv_aload_n S.1 S.2.1 dX10_cleared_28 rfl (lv_at hl 0 rfl) ?_
        refine lv_aload_n S.1 S.2.1 dX10_cleared_29 rfl (lv_at hl 0 rfl) ?_
        refine lv_iload_n S.1 S.2.1 dX10_cleared_30 rfl (lv_at hl 1 rfl) ?_
        refine lv_iload_n S.1 S.2.1 dX10_cleared_31 rfl (lv_at hl 2 rfl) ?_
        refine lv_iload_n S.1 S.2.1 dX10_cleared_32 rfl (lv_at hl 3 rfl) ?_
        refine lv_iconst (v := 0) S.1 S.2.1 dX10_cleared_33 (by decide) ?_
        obtain ⟨q8, e9, h⟩ := og_b h
        refine z_callVi S K w hA (c_X10_cheapest l D cs ad F A T a0 a1 a2 (0 : Int32) q8 e9) (cw_X10_191 S.2.2.2.2 ⟨Nat.le_of_ble_eq_true rfl, Nat.le_of_ble_eq_true rfl⟩) (z_recv K w 0 10 rfl rfl) rfl hl.1 rfl (Nat.le_of_ble_eq_true rfl) ⟨Nat.zero_le _, Nat.zero_le _⟩ dX10_cleared_34 (fun b7 H locs w => ?_)
        refine lv_iload S.1 S.2.1 dX10_cleared_37 (lv_at hl 4 rfl) ?_
        obtain ⟨q11, e12, h⟩ := og_b h
        refine z_callVr S K w hA (c_X10_costOrSet l D cs ad q8.2.1 q8.2.2.1 q8.2.2.2 q8.1 a3 q11 e12) (cw_X10_195 S.2.2.2.2 ⟨Nat.le_of_ble_eq_true rfl, Nat.le_of_ble_eq_true rfl⟩) (z_recv K w 0 10 rfl rfl) rfl hl.1 rfl (Nat.le_of_ble_eq_true rfl) ⟨Nat.zero_le _, Nat.zero_le _⟩ dX10_cleared_39 (fun b10 H locs w => ?_)
        exact z_reti S w hr hlk dX10_cleared_42 trivial (Option.some.inj h).symm
      · have h := og_t c6 h
        refine lv_iconst (v := -1) S.1 S.2.1 dX10_cleared_26 (by decide) ?_
        exact z_reti S w hr hlk dX10_cleared_27 trivial (Option.some.inj h).symm
set_option maxHeartbeats 4000000 in
set_option maxRecDepth 100000 in
theorem c_X10_forged (l : Launch) (D : va_G) (cs : Nat → ClassId) (ad : Nat → Nat) (F : ZF) (A : ZA) (T : Int64) (a0 a1 a2 : Int32) (q : (Int32 × ZS)) (h : f_X10_forged a0 a1 a2 F A T = some q) : zMi l D cs (XWc cs ad 10 11) yX10_forged cX10_forged 8 (some .int) rm_X10_forged ([.ref (ad 0), .int a0, .int a1, .int a2] : List Value) F A T q True := by
  refine z_enteri (by decide) (Nat.le_of_ble_eq_true rfl) ?_
  intro p e s m below meth c A0 ls S K w hA hr hlk hl
  have S : CallFix p m c cX10_forged 8 s ([.ref (ad 0), .int a0, .int a1, .int a2] : List Value).toArray zWs RX10 := S
  have hl : lv_has ls 8 [(0, .ref (ad 0)), (1, .int a0), (2, .int a1), (3, .int a2)] := hl
  unfold f_X10_forged at h
  have j54 : ∀ (n54 : Nat) (x1 x2 x3 x4 x5 : Int32) (F : ZF) (A : ZA) (T : Int64), f_X10_forged_54 n54 x1 x2 x3 x4 x5 F A T = some q → ∀ (H : Heap) (locs : List Loc) (ls : Array Slot), lv_has ls 8 [(0, .ref (ad 0)), (1, .int x1), (2, .int x2), (3, .int x3), (4, .int x4), (5, .int x5)] → ZW D A0 s.heap (XWc cs ad 10 11 F A T) H locs → W p l e rm_X10_forged s m ([.ref (ad 0), .int a0, .int a1, .int a2] : List Value).toArray below meth c H locs 0 0 (zQi (XWc cs ad 10 11) D A0 below ([.ref (ad 0), .int a0, .int a1, .int a2] : List Value) s q True) (F0 m 54 ls []) := by
    intro n54
    induction n54 with
    | zero =>
      intro x1 x2 x3 x4 x5 F A T h H locs ls hl w
      have h : (none : Option (Int32 × ZS)) = some q := h
      cases h
    | succ n54 ih54 =>
      intro x1 x2 x3 x4 x5 F A T h H locs ls hl w
      rw [f_X10_forged_54_s] at h
      refine lv_iload S.1 S.2.1 dX10_forged_54 (lv_at hl 5 rfl) ?_
      refine lv_iload S.1 S.2.1 dX10_forged_56 (lv_at hl 4 rfl) ?_
      refine lv_icmp_gt (tgt := 122) S.1 S.2.1 dX10_forged_58 (by decide) (fun c1 => ?_) (fun c1 => ?_)
      · have h := og_t c1 h
        refine lv_bipush (v := -9) S.1 S.2.1 dX10_forged_122 (by decide) ?_
        exact z_reti S w hr hlk dX10_forged_124 trivial (Option.some.inj h).symm
      · have h := og_f c1 h
        refine lv_iconst (v := 0) S.1 S.2.1 dX10_forged_61 (by decide) ?_
        refine lv_aload_n S.1 S.2.1 dX10_forged_62 rfl (lv_at hl 0 rfl) ?_
        refine gX_0_1 S K w w312 dX10_forged_63 ?_
        refine gX_2_0 S K w w124 dX10_forged_66 ?_
        refine lv_iload_n S.1 S.2.1 dX10_forged_69 rfl (lv_at hl 1 rfl) ?_
        obtain ⟨g2, h⟩ := og_g h
        refine aX_14 S K w g2 dX10_forged_70 ?_
        refine lv_iload S.1 S.2.1 dX10_forged_71 (lv_at hl 5 rfl) ?_
        refine lv_isub S.1 S.2.1 dX10_forged_73 ?_
        refine va_mmax S.1 S.2.1 (S.2.2.1.trans hl.1.symm) S.2.2.2.1 (S.2.2.2.2 _ w538) (S.2.2.2.2 _ w468) (S.2.2.2.2 _ w68) (S.2.2.2.2 _ w469) (Nat.le_of_ble_eq_true rfl) (Nat.le_of_ble_eq_true rfl) (Nat.zero_le _) (Nat.zero_le _) dX10_forged_74 ?_
        refine lv_istore (lv' := [(6, .int (if (0 : Int32) < ((A 14 (x1).toNatClampNeg) - x5) then ((A 14 (x1).toNatClampNeg) - x5) else (0 : Int32))), (0, .ref (ad 0)), (1, .int x1), (2, .int x2), (3, .int x3), (4, .int x4), (5, .int x5)]) S.1 S.2.1 dX10_forged_77 hl (by decide) rfl (fun ls hl => ?_)
        refine lv_aload_n S.1 S.2.1 dX10_forged_79 rfl (lv_at hl 1 rfl) ?_
        refine gX_0_1 S K w w312 dX10_forged_80 ?_
        refine gX_2_3 S K w w130 dX10_forged_83 ?_
        refine lv_aload_n S.1 S.2.1 dX10_forged_86 rfl (lv_at hl 1 rfl) ?_
        refine gX_0_1 S K w w312 dX10_forged_87 ?_
        refine gX_2_0 S K w w124 dX10_forged_90 ?_
        refine lv_iload_n S.1 S.2.1 dX10_forged_93 rfl (lv_at hl 2 rfl) ?_
        obtain ⟨g3, h⟩ := og_g h
        refine aX_14 S K w g3 dX10_forged_94 ?_
        refine lv_isub S.1 S.2.1 dX10_forged_95 ?_
        refine lv_iload S.1 S.2.1 dX10_forged_96 (lv_at hl 0 rfl) ?_
        refine lv_iadd S.1 S.2.1 dX10_forged_98 ?_
        refine lv_istore (lv' := [(7, .int (((F 8) - (A 14 (x1).toNatClampNeg)) + (if (0 : Int32) < ((A 14 (x1).toNatClampNeg) - x5) then ((A 14 (x1).toNatClampNeg) - x5) else (0 : Int32)))), (6, .int (if (0 : Int32) < ((A 14 (x1).toNatClampNeg) - x5) then ((A 14 (x1).toNatClampNeg) - x5) else (0 : Int32))), (0, .ref (ad 0)), (1, .int x1), (2, .int x2), (3, .int x3), (4, .int x4), (5, .int x5)]) S.1 S.2.1 dX10_forged_99 hl (by decide) rfl (fun ls hl => ?_)
        refine lv_iload S.1 S.2.1 dX10_forged_101 (lv_at hl 1 rfl) ?_
        refine lv_iload S.1 S.2.1 dX10_forged_103 (lv_at hl 0 rfl) ?_
        refine lv_iload_n S.1 S.2.1 dX10_forged_105 rfl (lv_at hl 4 rfl) ?_
        refine lv_iload_n S.1 S.2.1 dX10_forged_106 rfl (lv_at hl 5 rfl) ?_
        refine z_callSr S K w hA (c_X10_isNoMore l D cs ad F A T (if (0 : Int32) < ((A 14 (x1).toNatClampNeg) - x5) then ((A 14 (x1).toNatClampNeg) - x5) else (0 : Int32)) (((F 8) - (A 14 (x1).toNatClampNeg)) + (if (0 : Int32) < ((A 14 (x1).toNatClampNeg) - x5) then ((A 14 (x1).toNatClampNeg) - x5) else (0 : Int32))) x2 x3 (f_X10_isNoMore (if (0 : Int32) < ((A 14 (x1).toNatClampNeg) - x5) then ((A 14 (x1).toNatClampNeg) - x5) else (0 : Int32)) (((F 8) - (A 14 (x1).toNatClampNeg)) + (if (0 : Int32) < ((A 14 (x1).toNatClampNeg) - x5) then ((A 14 (x1).toNatClampNeg) - x5) else (0 : Int32))) x2 x3) rfl) (cw_X10_209 S.2.2.2.2 ⟨Nat.le_of_ble_eq_true rfl, Nat.le_of_ble_eq_true rfl⟩) rfl hl.1 rfl (Nat.le_of_ble_eq_true rfl) ⟨Nat.zero_le _, Nat.zero_le _⟩ dX10_forged_107 (fun b4 H locs w => ?_)
        refine lv_if_eq (tgt := 116) S.1 S.2.1 dX10_forged_110 (by decide) (fun c5 => ?_) (fun c5 => ?_)
        · have h := og_t c5 h
          refine lv_iinc (v := (x5 + (1 : Int32))) (lv' := [(5, .int (x5 + (1 : Int32))), (7, .int (((F 8) - (A 14 (x1).toNatClampNeg)) + (if (0 : Int32) < ((A 14 (x1).toNatClampNeg) - x5) then ((A 14 (x1).toNatClampNeg) - x5) else (0 : Int32)))), (6, .int (if (0 : Int32) < ((A 14 (x1).toNatClampNeg) - x5) then ((A 14 (x1).toNatClampNeg) - x5) else (0 : Int32))), (0, .ref (ad 0)), (1, .int x1), (2, .int x2), (3, .int x3), (4, .int x4)]) S.1 S.2.1 dX10_forged_116 hl (k := 7) rfl rfl (by decide) rfl (fun ls hl => ?_)
          refine lv_goto (tgt := 54) S.1 S.2.1 dX10_forged_119 (by decide) ?_
          exact ih54 _ _ _ _ _ _ _ _ h _ _ _ (lv_sub hl [3, 4, 5, 6, 7, 0] rfl) w
        · have h := og_f c5 h
          refine lv_iload S.1 S.2.1 dX10_forged_113 (lv_at hl 7 rfl) ?_
          exact z_reti S w hr hlk dX10_forged_115 trivial (Option.some.inj h).symm
  refine lv_aload_n S.1 S.2.1 dX10_forged_0 rfl (lv_at hl 0 rfl) ?_
  refine lv_iload_n S.1 S.2.1 dX10_forged_1 rfl (lv_at hl 1 rfl) ?_
  refine z_callVr S K w hA (c_X10_isSuspect l D cs ad F A T a0 (f_X10_isSuspect a0 F A T) rfl) (cw_X10_107 S.2.2.2.2 ⟨Nat.le_of_ble_eq_true rfl, Nat.le_of_ble_eq_true rfl⟩) (z_recv K w 0 10 rfl rfl) rfl hl.1 rfl (Nat.le_of_ble_eq_true rfl) ⟨Nat.zero_le _, Nat.zero_le _⟩ dX10_forged_2 (fun b6 H locs w => ?_)
  refine lv_if_eq (tgt := 16) S.1 S.2.1 dX10_forged_5 (by decide) (fun c7 => ?_) (fun c7 => ?_)
  · have h := og_t c7 h
    refine lv_iconst (v := -1) S.1 S.2.1 dX10_forged_16 (by decide) ?_
    exact z_reti S w hr hlk dX10_forged_17 trivial (Option.some.inj h).symm
  · have h := og_f c7 h
    refine lv_iload_n S.1 S.2.1 dX10_forged_8 rfl (lv_at hl 2 rfl) ?_
    refine lv_iload_n S.1 S.2.1 dX10_forged_9 rfl (lv_at hl 3 rfl) ?_
    refine z_callSr S K w hA (c_X10_isFraction l D cs ad F A T a1 a2 (f_X10_isFraction a1 a2) rfl) (cw_X10_187 S.2.2.2.2 ⟨Nat.le_of_ble_eq_true rfl, Nat.le_of_ble_eq_true rfl⟩) rfl hl.1 rfl (Nat.le_of_ble_eq_true rfl) ⟨Nat.zero_le _, Nat.zero_le _⟩ dX10_forged_10 (fun b8 H locs w => ?_)
    refine lv_if_ne (tgt := 18) S.1 S.2.1 dX10_forged_13 (by decide) (fun c9 => ?_) (fun c9 => ?_)
    · have h := og_f c9 h
      refine lv_aload_n S.1 S.2.1 dX10_forged_18 rfl (lv_at hl 0 rfl) ?_
      obtain ⟨q10, e11, h⟩ := og_b h
      refine z_callVv S K w hA (c_X10_weighNow l D cs ad F A T q10 e11) (cw_X10_111 S.2.2.2.2 ⟨Nat.le_of_ble_eq_true rfl, Nat.le_of_ble_eq_true rfl⟩) (z_recv K w 0 10 rfl rfl) rfl hl.1 rfl (Nat.le_of_ble_eq_true rfl) ⟨Nat.zero_le _, Nat.zero_le _⟩ dX10_forged_19 (fun H locs w => ?_)
      refine lv_aload_n S.1 S.2.1 dX10_forged_22 rfl (lv_at hl 0 rfl) ?_
      refine gX_0_11 S K w w330 dX10_forged_23 ?_
      refine gX_10_4 S K w w244 dX10_forged_26 ?_
      refine lv_aload_n S.1 S.2.1 dX10_forged_29 rfl (lv_at hl 0 rfl) ?_
      refine gX_0_11 S K w w330 dX10_forged_30 ?_
      refine gX_10_3 S K w w240 dX10_forged_33 ?_
      refine lv_isub S.1 S.2.1 dX10_forged_36 ?_
      refine lv_iconst (v := 1) S.1 S.2.1 dX10_forged_37 (by decide) ?_
      refine lv_iadd S.1 S.2.1 dX10_forged_38 ?_
      refine lv_aload_n S.1 S.2.1 dX10_forged_39 rfl (lv_at hl 0 rfl) ?_
      refine gX_0_1 S K w w312 dX10_forged_40 ?_
      refine gX_2_2 S K w w128 dX10_forged_43 ?_
      refine lv_iload_n S.1 S.2.1 dX10_forged_46 rfl (lv_at hl 1 rfl) ?_
      obtain ⟨g12, h⟩ := og_g h
      refine aX_16 S K w g12 dX10_forged_47 ?_
      refine lv_isub S.1 S.2.1 dX10_forged_48 ?_
      refine lv_istore (lv' := [(4, .int ((((q10.1 26) - (q10.1 25)) + (1 : Int32)) - (q10.2.1 16 (a0).toNatClampNeg))), (0, .ref (ad 0)), (1, .int a0), (2, .int a1), (3, .int a2)]) S.1 S.2.1 dX10_forged_49 hl (by decide) rfl (fun ls hl => ?_)
      refine lv_iconst (v := 0) S.1 S.2.1 dX10_forged_51 (by decide) ?_
      refine lv_istore (lv' := [(5, .int (0 : Int32)), (4, .int ((((q10.1 26) - (q10.1 25)) + (1 : Int32)) - (q10.2.1 16 (a0).toNatClampNeg))), (0, .ref (ad 0)), (1, .int a0), (2, .int a1), (3, .int a2)]) S.1 S.2.1 dX10_forged_52 hl (by decide) rfl (fun ls hl => ?_)
      exact j54 1000 _ _ _ _ _ _ _ _ h _ _ _ (lv_sub hl [2, 3, 4, 5, 1, 0] rfl) w
    · have h := og_t c9 h
      refine lv_iconst (v := -1) S.1 S.2.1 dX10_forged_16 (by decide) ?_
      exact z_reti S w hr hlk dX10_forged_17 trivial (Option.some.inj h).symm
set_option maxHeartbeats 4000000 in
set_option maxRecDepth 100000 in
theorem c_X1_doClash (l : Launch) (D : va_G) (cs : Nat → ClassId) (ad : Nat → Nat) (F : ZF) (A : ZA) (T : Int64) (a0 a1 : Int32) (q : Int32) (h : f_X1_doClash a0 a1 F A T = some q) : zMi l D cs (XWc cs ad 10 11) yX1_doClash cX1_doClash 3 (some .boolean) rm_X1_doClash ([.ref (ad 10), .int a0, .int a1] : List Value) F A T ((q, F, A, T) : Int32 × ZS) (((q, F, A, T) : Int32 × ZS).1 &&& 1 = ((q, F, A, T) : Int32 × ZS).1) := by
  refine z_enteri (by decide) (Nat.le_of_ble_eq_true rfl) ?_
  intro p e s m below meth c A0 ls S K w hA hr hlk hl
  have S : CallFix p m c cX1_doClash 3 s ([.ref (ad 10), .int a0, .int a1] : List Value).toArray zWs RX1 := S
  have hl : lv_has ls 3 [(0, .ref (ad 10)), (1, .int a0), (2, .int a1)] := hl
  unfold f_X1_doClash at h
  refine lv_aload_n S.1 S.2.1 dX1_doClash_0 rfl (lv_at hl 0 rfl) ?_
  refine gX_10_11 S K w w260 dX1_doClash_1 ?_
  refine lv_iload_n S.1 S.2.1 dX1_doClash_4 rfl (lv_at hl 1 rfl) ?_
  obtain ⟨g1, h⟩ := og_g h
  refine aX_34 S K w g1 dX1_doClash_5 ?_
  refine lv_aload_n S.1 S.2.1 dX1_doClash_6 rfl (lv_at hl 0 rfl) ?_
  refine gX_10_11 S K w w260 dX1_doClash_7 ?_
  refine lv_iload_n S.1 S.2.1 dX1_doClash_10 rfl (lv_at hl 2 rfl) ?_
  obtain ⟨g2, h⟩ := og_g h
  refine aX_34 S K w g2 dX1_doClash_11 ?_
  refine lv_icmp_ne (tgt := 64) S.1 S.2.1 dX1_doClash_12 (by decide) (fun c3 => ?_) (fun c3 => ?_)
  · have h := og_f c3 h
    refine lv_iconst (v := 0) S.1 S.2.1 dX1_doClash_64 (by decide) ?_
    exact z_retz S w hr hlk dX1_doClash_65 (by decide) (by rw [← Option.some.inj h])
  · have h := og_t c3 h
    refine lv_aload_n S.1 S.2.1 dX1_doClash_15 rfl (lv_at hl 0 rfl) ?_
    refine gX_10_12 S K w w264 dX1_doClash_16 ?_
    refine lv_iload_n S.1 S.2.1 dX1_doClash_19 rfl (lv_at hl 1 rfl) ?_
    obtain ⟨g4, h⟩ := og_g h
    refine aX_35 S K w g4 dX1_doClash_20 ?_
    refine lv_aload_n S.1 S.2.1 dX1_doClash_21 rfl (lv_at hl 0 rfl) ?_
    refine gX_10_12 S K w w264 dX1_doClash_22 ?_
    refine lv_iload_n S.1 S.2.1 dX1_doClash_25 rfl (lv_at hl 2 rfl) ?_
    obtain ⟨g5, h⟩ := og_g h
    refine aX_35 S K w g5 dX1_doClash_26 ?_
    refine lv_icmp_eq (tgt := 64) S.1 S.2.1 dX1_doClash_27 (by decide) (fun c6 => ?_) (fun c6 => ?_)
    · have h := og_t c6 h
      refine lv_iconst (v := 0) S.1 S.2.1 dX1_doClash_64 (by decide) ?_
      exact z_retz S w hr hlk dX1_doClash_65 (by decide) (by rw [← Option.some.inj h])
    · have h := og_f c6 h
      refine lv_aload_n S.1 S.2.1 dX1_doClash_30 rfl (lv_at hl 0 rfl) ?_
      refine gX_10_13 S K w w266 dX1_doClash_31 ?_
      refine lv_iload_n S.1 S.2.1 dX1_doClash_34 rfl (lv_at hl 1 rfl) ?_
      obtain ⟨g7, h⟩ := og_g h
      refine aX_36 S K w g7 dX1_doClash_35 ?_
      refine lv_aload_n S.1 S.2.1 dX1_doClash_36 rfl (lv_at hl 0 rfl) ?_
      refine gX_10_14 S K w w269 dX1_doClash_37 ?_
      refine lv_iload_n S.1 S.2.1 dX1_doClash_40 rfl (lv_at hl 2 rfl) ?_
      obtain ⟨g8, h⟩ := og_g h
      refine aX_37 S K w g8 dX1_doClash_41 ?_
      refine lv_icmp_gt (tgt := 64) S.1 S.2.1 dX1_doClash_42 (by decide) (fun c9 => ?_) (fun c9 => ?_)
      · have h := og_t c9 h
        refine lv_iconst (v := 0) S.1 S.2.1 dX1_doClash_64 (by decide) ?_
        exact z_retz S w hr hlk dX1_doClash_65 (by decide) (by rw [← Option.some.inj h])
      · have h := og_f c9 h
        refine lv_aload_n S.1 S.2.1 dX1_doClash_45 rfl (lv_at hl 0 rfl) ?_
        refine gX_10_13 S K w w266 dX1_doClash_46 ?_
        refine lv_iload_n S.1 S.2.1 dX1_doClash_49 rfl (lv_at hl 2 rfl) ?_
        obtain ⟨g10, h⟩ := og_g h
        refine aX_36 S K w g10 dX1_doClash_50 ?_
        refine lv_aload_n S.1 S.2.1 dX1_doClash_51 rfl (lv_at hl 0 rfl) ?_
        refine gX_10_14 S K w w269 dX1_doClash_52 ?_
        refine lv_iload_n S.1 S.2.1 dX1_doClash_55 rfl (lv_at hl 1 rfl) ?_
        obtain ⟨g11, h⟩ := og_g h
        refine aX_37 S K w g11 dX1_doClash_56 ?_
        refine lv_icmp_gt (tgt := 64) S.1 S.2.1 dX1_doClash_57 (by decide) (fun c12 => ?_) (fun c12 => ?_)
        · have h := og_t c12 h
          refine lv_iconst (v := 0) S.1 S.2.1 dX1_doClash_64 (by decide) ?_
          exact z_retz S w hr hlk dX1_doClash_65 (by decide) (by rw [← Option.some.inj h])
        · have h := og_f c12 h
          refine lv_iconst (v := 1) S.1 S.2.1 dX1_doClash_60 (by decide) ?_
          refine lv_goto (tgt := 65) S.1 S.2.1 dX1_doClash_61 (by decide) ?_
          exact z_retz S w hr hlk dX1_doClash_65 (by decide) (by rw [← Option.some.inj h])
set_option maxHeartbeats 4000000 in
set_option maxRecDepth 100000 in
theorem c_X10_matchClashers (l : Launch) (D : va_G) (cs : Nat → ClassId) (ad : Nat → Nat) (F : ZF) (A : ZA) (T : Int64) (q : (Int32 × ZS)) (h : f_X10_matchClashers F A T = some q) : zMi l D cs (XWc cs ad 10 11) yX10_matchClashers cX10_matchClashers 4 (some .int) rm_X10_matchClashers ([.ref (ad 0)] : List Value) F A T q True := by
  refine z_enteri (by decide) (Nat.le_of_ble_eq_true rfl) ?_
  intro p e s m below meth c A0 ls S K w hA hr hlk hl
  have S : CallFix p m c cX10_matchClashers 4 s ([.ref (ad 0)] : List Value).toArray zWs RX10 := S
  have hl : lv_has ls 4 [(0, .ref (ad 0))] := hl
  unfold f_X10_matchClashers at h
  have j4 : ∀ (n4 : Nat) (x1 x2 : Int32) (F : ZF) (A : ZA) (T : Int64), f_X10_matchClashers_4 n4 x1 x2 F A T = some q → ∀ (H : Heap) (locs : List Loc) (ls : Array Slot), lv_has ls 4 [(0, .ref (ad 0)), (1, .int x1), (2, .int x2)] → ZW D A0 s.heap (XWc cs ad 10 11 F A T) H locs → W p l e rm_X10_matchClashers s m ([.ref (ad 0)] : List Value).toArray below meth c H locs 0 0 (zQi (XWc cs ad 10 11) D A0 below ([.ref (ad 0)] : List Value) s q True) (F0 m 4 ls []) := by
    intro n4
    induction n4 with
    | zero =>
      intro x1 x2 F A T h H locs ls hl w
      have h : (none : Option (Int32 × ZS)) = some q := h
      cases h
    | succ n4 ih4 =>
      intro x1 x2 F A T h H locs ls hl w
      rw [f_X10_matchClashers_4_s] at h
      have j26 : ∀ (n26 : Nat) (x1 x2 x3 : Int32) (F : ZF) (A : ZA) (T : Int64), f_X10_matchClashers_26 (f_X10_matchClashers_4 n4) n26 x1 x2 x3 F A T = some q → ∀ (H : Heap) (locs : List Loc) (ls : Array Slot), lv_has ls 4 [(0, .ref (ad 0)), (1, .int x1), (2, .int x2), (3, .int x3)] → ZW D A0 s.heap (XWc cs ad 10 11 F A T) H locs → W p l e rm_X10_matchClashers s m ([.ref (ad 0)] : List Value).toArray below meth c H locs 0 0 (zQi (XWc cs ad 10 11) D A0 below ([.ref (ad 0)] : List Value) s q True) (F0 m 26 ls []) := by
        intro n26
        induction n26 with
        | zero =>
          intro x1 x2 x3 F A T h H locs ls hl w
          have h : (none : Option (Int32 × ZS)) = some q := h
          cases h
        | succ n26 ih26 =>
          intro x1 x2 x3 F A T h H locs ls hl w
          rw [f_X10_matchClashers_26_s] at h
          refine lv_iload_n S.1 S.2.1 dX10_matchClashers_26 rfl (lv_at hl 3 rfl) ?_
          refine lv_aload_n S.1 S.2.1 dX10_matchClashers_27 rfl (lv_at hl 0 rfl) ?_
          refine gX_0_11 S K w w330 dX10_matchClashers_28 ?_
          refine gX_10_2 S K w w236 dX10_matchClashers_31 ?_
          refine lv_icmp_ge (tgt := 70) S.1 S.2.1 dX10_matchClashers_34 (by decide) (fun c3 => ?_) (fun c3 => ?_)
          · have h := og_t c3 h
            refine lv_iinc (v := (x2 + (1 : Int32))) (lv' := [(2, .int (x2 + (1 : Int32))), (0, .ref (ad 0)), (1, .int x1), (3, .int x3)]) S.1 S.2.1 dX10_matchClashers_70 hl (k := 2) rfl rfl (by decide) rfl (fun ls hl => ?_)
            refine lv_goto (tgt := 4) S.1 S.2.1 dX10_matchClashers_73 (by decide) ?_
            exact ih4 _ _ _ _ _ h _ _ _ (lv_sub hl [1, 2, 0] rfl) w
          · have h := og_f c3 h
            refine lv_aload_n S.1 S.2.1 dX10_matchClashers_37 rfl (lv_at hl 0 rfl) ?_
            refine gX_0_11 S K w w330 dX10_matchClashers_38 ?_
            refine lv_iload_n S.1 S.2.1 dX10_matchClashers_41 rfl (lv_at hl 2 rfl) ?_
            refine lv_iload_n S.1 S.2.1 dX10_matchClashers_42 rfl (lv_at hl 3 rfl) ?_
            obtain ⟨q5, e6, h⟩ := og_b h
            refine z_callVr S K w hA (c_X1_doClash l D cs ad F A T x2 x3 q5 e6) (cw_X10_272 S.2.2.2.2 ⟨Nat.le_of_ble_eq_true rfl, Nat.le_of_ble_eq_true rfl⟩) (z_recv K w 10 1 rfl rfl) rfl hl.1 rfl (Nat.le_of_ble_eq_true rfl) ⟨Nat.zero_le _, Nat.zero_le _⟩ dX10_matchClashers_43 (fun b4 H locs w => ?_)
            refine lv_if_eq (tgt := 64) S.1 S.2.1 dX10_matchClashers_46 (by decide) (fun c7 => ?_) (fun c7 => ?_)
            · have h := og_t c7 h
              refine lv_iinc (v := (x3 + (1 : Int32))) (lv' := [(3, .int (x3 + (1 : Int32))), (0, .ref (ad 0)), (1, .int x1), (2, .int x2)]) S.1 S.2.1 dX10_matchClashers_64 hl (k := 3) rfl rfl (by decide) rfl (fun ls hl => ?_)
              refine lv_goto (tgt := 26) S.1 S.2.1 dX10_matchClashers_67 (by decide) ?_
              exact ih26 _ _ _ _ _ _ h _ _ _ (lv_sub hl [1, 2, 3, 0] rfl) w
            · have h := og_f c7 h
              refine lv_aload_n S.1 S.2.1 dX10_matchClashers_49 rfl (lv_at hl 0 rfl) ?_
              refine gX_0_6 S K w w319 dX10_matchClashers_50 ?_
              refine lv_iload_n S.1 S.2.1 dX10_matchClashers_53 rfl (lv_at hl 2 rfl) ?_
              refine lv_dup2_11 S.1 S.2.1 dX10_matchClashers_54 rfl rfl ?_
              obtain ⟨g8, h⟩ := og_g h
              refine aX_7 S K w g8 dX10_matchClashers_55 ?_
              refine lv_iconst (v := 1) S.1 S.2.1 dX10_matchClashers_56 (by decide) ?_
              refine lv_iload_n S.1 S.2.1 dX10_matchClashers_57 rfl (lv_at hl 3 rfl) ?_
              refine lv_ishl S.1 S.2.1 dX10_matchClashers_58 ?_
              refine lv_ior S.1 S.2.1 dX10_matchClashers_59 ?_
              obtain ⟨g9, h⟩ := og_g h
              refine sX_7 S K w g9 dX10_matchClashers_60 (fun H locs w => ?_)
              refine lv_iinc (v := (x1 + (1 : Int32))) (lv' := [(1, .int (x1 + (1 : Int32))), (0, .ref (ad 0)), (2, .int x2), (3, .int x3)]) S.1 S.2.1 dX10_matchClashers_61 hl (k := 1) rfl rfl (by decide) rfl (fun ls hl => ?_)
              refine lv_iinc (v := (x3 + (1 : Int32))) (lv' := [(3, .int (x3 + (1 : Int32))), (1, .int (x1 + (1 : Int32))), (0, .ref (ad 0)), (2, .int x2)]) S.1 S.2.1 dX10_matchClashers_64 hl (k := 3) rfl rfl (by decide) rfl (fun ls hl => ?_)
              refine lv_goto (tgt := 26) S.1 S.2.1 dX10_matchClashers_67 (by decide) ?_
              exact ih26 _ _ _ _ _ _ h _ _ _ (lv_sub hl [2, 1, 3, 0] rfl) w
      refine lv_iload_n S.1 S.2.1 dX10_matchClashers_4 rfl (lv_at hl 2 rfl) ?_
      refine lv_aload_n S.1 S.2.1 dX10_matchClashers_5 rfl (lv_at hl 0 rfl) ?_
      refine gX_0_11 S K w w330 dX10_matchClashers_6 ?_
      refine gX_10_2 S K w w236 dX10_matchClashers_9 ?_
      refine lv_icmp_ge (tgt := 76) S.1 S.2.1 dX10_matchClashers_12 (by decide) (fun c1 => ?_) (fun c1 => ?_)
      · have h := og_t c1 h
        refine lv_iload_n S.1 S.2.1 dX10_matchClashers_76 rfl (lv_at hl 1 rfl) ?_
        exact z_reti S w hr hlk dX10_matchClashers_77 trivial (Option.some.inj h).symm
      · have h := og_f c1 h
        refine lv_aload_n S.1 S.2.1 dX10_matchClashers_15 rfl (lv_at hl 0 rfl) ?_
        refine gX_0_6 S K w w319 dX10_matchClashers_16 ?_
        refine lv_iload_n S.1 S.2.1 dX10_matchClashers_19 rfl (lv_at hl 2 rfl) ?_
        refine lv_iconst (v := 0) S.1 S.2.1 dX10_matchClashers_20 (by decide) ?_
        obtain ⟨g2, h⟩ := og_g h
        refine sX_7 S K w g2 dX10_matchClashers_21 (fun H locs w => ?_)
        refine lv_iload_n S.1 S.2.1 dX10_matchClashers_22 rfl (lv_at hl 2 rfl) ?_
        refine lv_iconst (v := 1) S.1 S.2.1 dX10_matchClashers_23 (by decide) ?_
        refine lv_iadd S.1 S.2.1 dX10_matchClashers_24 ?_
        refine lv_istore_n (lv' := [(3, .int (x2 + (1 : Int32))), (0, .ref (ad 0)), (1, .int x1), (2, .int x2)]) S.1 S.2.1 dX10_matchClashers_25 rfl hl (by decide) rfl (fun ls hl => ?_)
        exact j26 1000 _ _ _ _ _ _ h _ _ _ (lv_sub hl [1, 2, 3, 0] rfl) w
  refine lv_iconst (v := 0) S.1 S.2.1 dX10_matchClashers_0 (by decide) ?_
  refine lv_istore_n (lv' := [(1, .int (0 : Int32)), (0, .ref (ad 0))]) S.1 S.2.1 dX10_matchClashers_1 rfl hl (by decide) rfl (fun ls hl => ?_)
  refine lv_iconst (v := 0) S.1 S.2.1 dX10_matchClashers_2 (by decide) ?_
  refine lv_istore_n (lv' := [(2, .int (0 : Int32)), (1, .int (0 : Int32)), (0, .ref (ad 0))]) S.1 S.2.1 dX10_matchClashers_3 rfl hl (by decide) rfl (fun ls hl => ?_)
  exact j4 1000 _ _ _ _ _ h _ _ _ (lv_sub hl [2, 1, 0] rfl) w
set_option maxHeartbeats 4000000 in
set_option maxRecDepth 100000 in
theorem c_X10_leavesNoClash (l : Launch) (D : va_G) (cs : Nat → ClassId) (ad : Nat → Nat) (F : ZF) (A : ZA) (T : Int64) (a0 : Int32) (q : Int32) (h : f_X10_leavesNoClash a0 F A T = some q) : zMi l D cs (XWc cs ad 10 11) yX10_leavesNoClash cX10_leavesNoClash 3 (some .boolean) rm_X10_leavesNoClash ([.ref (ad 0), .int a0] : List Value) F A T ((q, F, A, T) : Int32 × ZS) (((q, F, A, T) : Int32 × ZS).1 &&& 1 = ((q, F, A, T) : Int32 × ZS).1) := by
  refine z_enteri (by decide) (Nat.le_of_ble_eq_true rfl) ?_
  intro p e s m below meth c A0 ls S K w hA hr hlk hl
  have S : CallFix p m c cX10_leavesNoClash 3 s ([.ref (ad 0), .int a0] : List Value).toArray zWs RX10 := S
  have hl : lv_has ls 3 [(0, .ref (ad 0)), (1, .int a0)] := hl
  unfold f_X10_leavesNoClash at h
  have j2 : ∀ (n2 : Nat) (x1 x2 : Int32), f_X10_leavesNoClash_2 F A T n2 x1 x2 = some q → ∀ (H : Heap) (locs : List Loc) (ls : Array Slot), lv_has ls 3 [(0, .ref (ad 0)), (1, .int x1), (2, .int x2)] → ZW D A0 s.heap (XWc cs ad 10 11 F A T) H locs → W p l e rm_X10_leavesNoClash s m ([.ref (ad 0), .int a0] : List Value).toArray below meth c H locs 0 0 (zQi (XWc cs ad 10 11) D A0 below ([.ref (ad 0), .int a0] : List Value) s ((q, F, A, T) : Int32 × ZS) (((q, F, A, T) : Int32 × ZS).1 &&& 1 = ((q, F, A, T) : Int32 × ZS).1)) (F0 m 2 ls []) := by
    intro n2
    induction n2 with
    | zero =>
      intro x1 x2 h H locs ls hl w
      have h : (none : Option Int32) = some q := h
      cases h
    | succ n2 ih2 =>
      intro x1 x2 h H locs ls hl w
      rw [f_X10_leavesNoClash_2_s] at h
      refine lv_iload_n S.1 S.2.1 dX10_leavesNoClash_2 rfl (lv_at hl 2 rfl) ?_
      refine lv_aload_n S.1 S.2.1 dX10_leavesNoClash_3 rfl (lv_at hl 0 rfl) ?_
      refine gX_0_11 S K w w330 dX10_leavesNoClash_4 ?_
      refine gX_10_2 S K w w236 dX10_leavesNoClash_7 ?_
      refine lv_icmp_ge (tgt := 42) S.1 S.2.1 dX10_leavesNoClash_10 (by decide) (fun c1 => ?_) (fun c1 => ?_)
      · have h := og_t c1 h
        refine lv_iconst (v := 1) S.1 S.2.1 dX10_leavesNoClash_42 (by decide) ?_
        exact z_retz S w hr hlk dX10_leavesNoClash_43 (by decide) (by rw [← Option.some.inj h])
      · have h := og_f c1 h
        refine lv_iload_n S.1 S.2.1 dX10_leavesNoClash_13 rfl (lv_at hl 1 rfl) ?_
        refine lv_iload_n S.1 S.2.1 dX10_leavesNoClash_14 rfl (lv_at hl 2 rfl) ?_
        refine z_callSr S K w hA (c_X10_bit l D cs ad F A T x1 x2 (f_X10_bit x1 x2) rfl) (cw_X10_138 S.2.2.2.2 ⟨Nat.le_of_ble_eq_true rfl, Nat.le_of_ble_eq_true rfl⟩) rfl hl.1 rfl (Nat.le_of_ble_eq_true rfl) ⟨Nat.zero_le _, Nat.zero_le _⟩ dX10_leavesNoClash_15 (fun b2 H locs w => ?_)
        refine lv_if_ne (tgt := 36) S.1 S.2.1 dX10_leavesNoClash_18 (by decide) (fun c3 => ?_) (fun c3 => ?_)
        · have h := og_f c3 h
          refine lv_iinc (v := (x2 + (1 : Int32))) (lv' := [(2, .int (x2 + (1 : Int32))), (0, .ref (ad 0)), (1, .int x1)]) S.1 S.2.1 dX10_leavesNoClash_36 hl (k := 2) rfl rfl (by decide) rfl (fun ls hl => ?_)
          refine lv_goto (tgt := 2) S.1 S.2.1 dX10_leavesNoClash_39 (by decide) ?_
          exact ih2 _ _ h _ _ _ (lv_sub hl [1, 2, 0] rfl) w
        · have h := og_t c3 h
          refine lv_aload_n S.1 S.2.1 dX10_leavesNoClash_21 rfl (lv_at hl 0 rfl) ?_
          refine gX_0_6 S K w w319 dX10_leavesNoClash_22 ?_
          refine lv_iload_n S.1 S.2.1 dX10_leavesNoClash_25 rfl (lv_at hl 2 rfl) ?_
          obtain ⟨g4, h⟩ := og_g h
          refine aX_7 S K w g4 dX10_leavesNoClash_26 ?_
          refine lv_iload_n S.1 S.2.1 dX10_leavesNoClash_27 rfl (lv_at hl 1 rfl) ?_
          refine lv_iconst (v := -1) S.1 S.2.1 dX10_leavesNoClash_28 (by decide) ?_
          refine lv_ixor S.1 S.2.1 dX10_leavesNoClash_29 ?_
          refine lv_iand S.1 S.2.1 dX10_leavesNoClash_30 ?_
          refine lv_if_eq (tgt := 36) S.1 S.2.1 dX10_leavesNoClash_31 (by decide) (fun c5 => ?_) (fun c5 => ?_)
          · have h := og_t c5 h
            refine lv_iinc (v := (x2 + (1 : Int32))) (lv' := [(2, .int (x2 + (1 : Int32))), (0, .ref (ad 0)), (1, .int x1)]) S.1 S.2.1 dX10_leavesNoClash_36 hl (k := 2) rfl rfl (by decide) rfl (fun ls hl => ?_)
            refine lv_goto (tgt := 2) S.1 S.2.1 dX10_leavesNoClash_39 (by decide) ?_
            exact ih2 _ _ h _ _ _ (lv_sub hl [1, 2, 0] rfl) w
          · have h := og_f c5 h
            refine lv_iconst (v := 0) S.1 S.2.1 dX10_leavesNoClash_34 (by decide) ?_
            exact z_retz S w hr hlk dX10_leavesNoClash_35 (by decide) (by rw [← Option.some.inj h])
  refine lv_iconst (v := 0) S.1 S.2.1 dX10_leavesNoClash_0 (by decide) ?_
  refine lv_istore_n (lv' := [(2, .int (0 : Int32)), (0, .ref (ad 0)), (1, .int a0)]) S.1 S.2.1 dX10_leavesNoClash_1 rfl hl (by decide) rfl (fun ls hl => ?_)
  exact j2 1000 _ _ h _ _ _ (lv_sub hl [1, 2, 0] rfl) w
set_option maxHeartbeats 4000000 in
set_option maxRecDepth 100000 in
theorem c_X10_fewestFalse (l : Launch) (D : va_G) (cs : Nat → ClassId) (ad : Nat → Nat) (F : ZF) (A : ZA) (T : Int64) (q : Int32) (h : f_X10_fewestFalse F A T = some q) : zMi l D cs (XWc cs ad 10 11) yX10_fewestFalse cX10_fewestFalse 3 (some .int) rm_X10_fewestFalse ([.ref (ad 0)] : List Value) F A T ((q, F, A, T) : Int32 × ZS) True := by
  refine z_enteri (by decide) (Nat.le_of_ble_eq_true rfl) ?_
  intro p e s m below meth c A0 ls S K w hA hr hlk hl
  have S : CallFix p m c cX10_fewestFalse 3 s ([.ref (ad 0)] : List Value).toArray zWs RX10 := S
  have hl : lv_has ls 3 [(0, .ref (ad 0))] := hl
  unfold f_X10_fewestFalse at h
  have j14 : ∀ (n14 : Nat) (x1 x2 : Int32), f_X10_fewestFalse_14 F A T n14 x1 x2 = some q → ∀ (H : Heap) (locs : List Loc) (ls : Array Slot), lv_has ls 3 [(0, .ref (ad 0)), (1, .int x1), (2, .int x2)] → ZW D A0 s.heap (XWc cs ad 10 11 F A T) H locs → W p l e rm_X10_fewestFalse s m ([.ref (ad 0)] : List Value).toArray below meth c H locs 0 0 (zQi (XWc cs ad 10 11) D A0 below ([.ref (ad 0)] : List Value) s ((q, F, A, T) : Int32 × ZS) True) (F0 m 14 ls []) := by
    intro n14
    induction n14 with
    | zero =>
      intro x1 x2 h H locs ls hl w
      have h : (none : Option Int32) = some q := h
      cases h
    | succ n14 ih14 =>
      intro x1 x2 h H locs ls hl w
      rw [f_X10_fewestFalse_14_s] at h
      refine lv_iload_n S.1 S.2.1 dX10_fewestFalse_14 rfl (lv_at hl 2 rfl) ?_
      refine lv_iconst (v := 1) S.1 S.2.1 dX10_fewestFalse_15 (by decide) ?_
      refine lv_aload_n S.1 S.2.1 dX10_fewestFalse_16 rfl (lv_at hl 0 rfl) ?_
      refine gX_0_11 S K w w330 dX10_fewestFalse_17 ?_
      refine gX_10_2 S K w w236 dX10_fewestFalse_20 ?_
      refine lv_ishl S.1 S.2.1 dX10_fewestFalse_23 ?_
      refine lv_icmp_ge (tgt := 54) S.1 S.2.1 dX10_fewestFalse_24 (by decide) (fun c1 => ?_) (fun c1 => ?_)
      · have h := og_t c1 h
        refine lv_iload_n S.1 S.2.1 dX10_fewestFalse_54 rfl (lv_at hl 1 rfl) ?_
        exact z_reti S w hr hlk dX10_fewestFalse_55 trivial (by rw [← Option.some.inj h])
      · have h := og_f c1 h
        refine lv_iload_n S.1 S.2.1 dX10_fewestFalse_27 rfl (lv_at hl 2 rfl) ?_
        refine z_callSr S K w hA (c_J6_bitCount_0f7a4 l D cs ad F A T x2 (f_J6_bitCount_0f7a4 x2) rfl) (cw_X10_275 S.2.2.2.2 ⟨Nat.le_of_ble_eq_true rfl, Nat.le_of_ble_eq_true rfl⟩) rfl hl.1 rfl (Nat.le_of_ble_eq_true rfl) ⟨Nat.zero_le _, Nat.zero_le _⟩ dX10_fewestFalse_28 (fun b2 H locs w => ?_)
        refine lv_iload_n S.1 S.2.1 dX10_fewestFalse_31 rfl (lv_at hl 1 rfl) ?_
        refine z_callSr S K w hA (c_J6_bitCount_0f7a4 l D cs ad F A T x1 (f_J6_bitCount_0f7a4 x1) rfl) (cw_X10_275 S.2.2.2.2 ⟨Nat.le_of_ble_eq_true rfl, Nat.le_of_ble_eq_true rfl⟩) rfl hl.1 rfl (Nat.le_of_ble_eq_true rfl) ⟨Nat.zero_le _, Nat.zero_le _⟩ dX10_fewestFalse_32 (fun b3 H locs w => ?_)
        refine lv_icmp_ge (tgt := 48) S.1 S.2.1 dX10_fewestFalse_35 (by decide) (fun c4 => ?_) (fun c4 => ?_)
        · have h := og_t c4 h
          refine lv_iinc (v := (x2 + (1 : Int32))) (lv' := [(2, .int (x2 + (1 : Int32))), (0, .ref (ad 0)), (1, .int x1)]) S.1 S.2.1 dX10_fewestFalse_48 hl (k := 2) rfl rfl (by decide) rfl (fun ls hl => ?_)
          refine lv_goto (tgt := 14) S.1 S.2.1 dX10_fewestFalse_51 (by decide) ?_
          exact ih14 _ _ h _ _ _ (lv_sub hl [1, 2, 0] rfl) w
        · have h := og_f c4 h
          refine lv_aload_n S.1 S.2.1 dX10_fewestFalse_38 rfl (lv_at hl 0 rfl) ?_
          refine lv_iload_n S.1 S.2.1 dX10_fewestFalse_39 rfl (lv_at hl 2 rfl) ?_
          obtain ⟨q6, e7, h⟩ := og_b h
          refine z_callVr S K w hA (c_X10_leavesNoClash l D cs ad F A T x2 q6 e7) (cw_X10_280 S.2.2.2.2 ⟨Nat.le_of_ble_eq_true rfl, Nat.le_of_ble_eq_true rfl⟩) (z_recv K w 0 10 rfl rfl) rfl hl.1 rfl (Nat.le_of_ble_eq_true rfl) ⟨Nat.zero_le _, Nat.zero_le _⟩ dX10_fewestFalse_40 (fun b5 H locs w => ?_)
          refine lv_if_eq (tgt := 48) S.1 S.2.1 dX10_fewestFalse_43 (by decide) (fun c8 => ?_) (fun c8 => ?_)
          · have h := og_t c8 h
            refine lv_iinc (v := (x2 + (1 : Int32))) (lv' := [(2, .int (x2 + (1 : Int32))), (0, .ref (ad 0)), (1, .int x1)]) S.1 S.2.1 dX10_fewestFalse_48 hl (k := 2) rfl rfl (by decide) rfl (fun ls hl => ?_)
            refine lv_goto (tgt := 14) S.1 S.2.1 dX10_fewestFalse_51 (by decide) ?_
            exact ih14 _ _ h _ _ _ (lv_sub hl [1, 2, 0] rfl) w
          · have h := og_f c8 h
            refine lv_iload_n S.1 S.2.1 dX10_fewestFalse_46 rfl (lv_at hl 2 rfl) ?_
            refine lv_istore_n (lv' := [(1, .int x2), (0, .ref (ad 0)), (2, .int x2)]) S.1 S.2.1 dX10_fewestFalse_47 rfl hl (by decide) rfl (fun ls hl => ?_)
            refine lv_iinc (v := (x2 + (1 : Int32))) (lv' := [(2, .int (x2 + (1 : Int32))), (1, .int x2), (0, .ref (ad 0))]) S.1 S.2.1 dX10_fewestFalse_48 hl (k := 2) rfl rfl (by decide) rfl (fun ls hl => ?_)
            refine lv_goto (tgt := 14) S.1 S.2.1 dX10_fewestFalse_51 (by decide) ?_
            exact ih14 _ _ h _ _ _ (lv_sub hl [2, 1, 0] rfl) w
  refine lv_iconst (v := 1) S.1 S.2.1 dX10_fewestFalse_0 (by decide) ?_
  refine lv_aload_n S.1 S.2.1 dX10_fewestFalse_1 rfl (lv_at hl 0 rfl) ?_
  refine gX_0_11 S K w w330 dX10_fewestFalse_2 ?_
  refine gX_10_2 S K w w236 dX10_fewestFalse_5 ?_
  refine lv_ishl S.1 S.2.1 dX10_fewestFalse_8 ?_
  refine lv_iconst (v := 1) S.1 S.2.1 dX10_fewestFalse_9 (by decide) ?_
  refine lv_isub S.1 S.2.1 dX10_fewestFalse_10 ?_
  refine lv_istore_n (lv' := [(1, .int (((1 : Int32) <<< ((F 24) &&& 31)) - (1 : Int32))), (0, .ref (ad 0))]) S.1 S.2.1 dX10_fewestFalse_11 rfl hl (by decide) rfl (fun ls hl => ?_)
  refine lv_iconst (v := 0) S.1 S.2.1 dX10_fewestFalse_12 (by decide) ?_
  refine lv_istore_n (lv' := [(2, .int (0 : Int32)), (1, .int (((1 : Int32) <<< ((F 24) &&& 31)) - (1 : Int32))), (0, .ref (ad 0))]) S.1 S.2.1 dX10_fewestFalse_13 rfl hl (by decide) rfl (fun ls hl => ?_)
  exact j14 1000 _ _ h _ _ _ (lv_sub hl [2, 1, 0] rfl) w
set_option maxHeartbeats 4000000 in
set_option maxRecDepth 100000 in
theorem c_X10_clash (l : Launch) (D : va_G) (cs : Nat → ClassId) (ad : Nat → Nat) (F : ZF) (A : ZA) (T : Int64) (a0 : Int32) (q : (Int32 × ZS)) (h : f_X10_clash a0 F A T = some q) : zMi l D cs (XWc cs ad 10 11) yX10_clash cX10_clash 3 (some .int) rm_X10_clash ([.ref (ad 0), .int a0] : List Value) F A T q True := by
  refine z_enteri (by decide) (Nat.le_of_ble_eq_true rfl) ?_
  intro p e s m below meth c A0 ls S K w hA hr hlk hl
  have S : CallFix p m c cX10_clash 3 s ([.ref (ad 0), .int a0] : List Value).toArray zWs RX10 := S
  have hl : lv_has ls 3 [(0, .ref (ad 0)), (1, .int a0)] := hl
  unfold f_X10_clash at h
  refine lv_iload_n S.1 S.2.1 dX10_clash_0 rfl (lv_at hl 1 rfl) ?_
  refine lv_iconst (v := 0) S.1 S.2.1 dX10_clash_1 (by decide) ?_
  refine lv_iconst (v := 1) S.1 S.2.1 dX10_clash_2 (by decide) ?_
  refine z_callSr S K w hA (c_X10_within l D cs ad F A T a0 (0 : Int32) (1 : Int32) (f_X10_within a0 (0 : Int32) (1 : Int32)) rfl) (cw_X10_90 S.2.2.2.2 ⟨Nat.le_of_ble_eq_true rfl, Nat.le_of_ble_eq_true rfl⟩) rfl hl.1 rfl (Nat.le_of_ble_eq_true rfl) ⟨Nat.zero_le _, Nat.zero_le _⟩ dX10_clash_3 (fun b1 H locs w => ?_)
  refine lv_if_ne (tgt := 11) S.1 S.2.1 dX10_clash_6 (by decide) (fun c2 => ?_) (fun c2 => ?_)
  · have h := og_f c2 h
    refine lv_aload_n S.1 S.2.1 dX10_clash_11 rfl (lv_at hl 0 rfl) ?_
    obtain ⟨q4, e5, h⟩ := og_b h
    refine z_callVi S K w hA (c_X10_matchClashers l D cs ad F A T q4 e5) (cw_X10_213 S.2.2.2.2 ⟨Nat.le_of_ble_eq_true rfl, Nat.le_of_ble_eq_true rfl⟩) (z_recv K w 0 10 rfl rfl) rfl hl.1 rfl (Nat.le_of_ble_eq_true rfl) ⟨Nat.zero_le _, Nat.zero_le _⟩ dX10_clash_12 (fun b3 H locs w => ?_)
    refine lv_istore_n (lv' := [(2, .int q4.1), (0, .ref (ad 0)), (1, .int a0)]) S.1 S.2.1 dX10_clash_15 rfl hl (by decide) rfl (fun ls hl => ?_)
    refine lv_iload_n S.1 S.2.1 dX10_clash_16 rfl (lv_at hl 2 rfl) ?_
    refine lv_if_ne (tgt := 24) S.1 S.2.1 dX10_clash_17 (by decide) (fun c6 => ?_) (fun c6 => ?_)
    · have h := og_f c6 h
      refine lv_aload_n S.1 S.2.1 dX10_clash_24 rfl (lv_at hl 1 rfl) ?_
      obtain ⟨q8, e9, h⟩ := og_b h
      refine z_callVr S K w hA (c_X10_fewestFalse l D cs ad q4.2.1 q4.2.2.1 q4.2.2.2 q8 e9) (cw_X10_216 S.2.2.2.2 ⟨Nat.le_of_ble_eq_true rfl, Nat.le_of_ble_eq_true rfl⟩) (z_recv K w 0 10 rfl rfl) rfl hl.1 rfl (Nat.le_of_ble_eq_true rfl) ⟨Nat.zero_le _, Nat.zero_le _⟩ dX10_clash_25 (fun b7 H locs w => ?_)
      exact z_reti S w hr hlk dX10_clash_28 trivial (Option.some.inj h).symm
    · have h := og_t c6 h
      refine lv_iload_n S.1 S.2.1 dX10_clash_20 rfl (lv_at hl 0 rfl) ?_
      refine lv_goto (tgt := 28) S.1 S.2.1 dX10_clash_21 (by decide) ?_
      exact z_reti S w hr hlk dX10_clash_28 trivial (Option.some.inj h).symm
  · have h := og_t c2 h
    refine lv_iconst (v := -1) S.1 S.2.1 dX10_clash_9 (by decide) ?_
    exact z_reti S w hr hlk dX10_clash_10 trivial (Option.some.inj h).symm
set_option maxHeartbeats 4000000 in
set_option maxRecDepth 100000 in
theorem c_X10_bandHeld (l : Launch) (D : va_G) (cs : Nat → ClassId) (ad : Nat → Nat) (F : ZF) (A : ZA) (T : Int64) (a0 a1 : Int32) (q : Int32) (h : f_X10_bandHeld a0 a1 F A T = some q) : zMi l D cs (XWc cs ad 10 11) yX10_bandHeld cX10_bandHeld 5 (some .int) rm_X10_bandHeld ([.ref (ad 0), .int a0, .int a1] : List Value) F A T ((q, F, A, T) : Int32 × ZS) True := by
  refine z_enteri (by decide) (Nat.le_of_ble_eq_true rfl) ?_
  intro p e s m below meth c A0 ls S K w hA hr hlk hl
  have S : CallFix p m c cX10_bandHeld 5 s ([.ref (ad 0), .int a0, .int a1] : List Value).toArray zWs RX10 := S
  have hl : lv_has ls 5 [(0, .ref (ad 0)), (1, .int a0), (2, .int a1)] := hl
  unfold f_X10_bandHeld at h
  have j34 : ∀ (x1 x3 y0 : Int32), f_X10_bandHeld_34 F A T x1 x3 y0 = some q → ∀ (H : Heap) (locs : List Loc) (ls : Array Slot), lv_has ls 5 [(1, .int x1), (3, .int x3)] → ZW D A0 s.heap (XWc cs ad 10 11 F A T) H locs → W p l e rm_X10_bandHeld s m ([.ref (ad 0), .int a0, .int a1] : List Value).toArray below meth c H locs 0 0 (zQi (XWc cs ad 10 11) D A0 below ([.ref (ad 0), .int a0, .int a1] : List Value) s ((q, F, A, T) : Int32 × ZS) True) (F0 m 34 ls [.int y0]) := by
    intro x1 x3 y0 h H locs ls hl w
    unfold f_X10_bandHeld_34 at h
    refine lv_istore (lv' := [(4, .int y0), (1, .int x1), (3, .int x3)]) S.1 S.2.1 dX10_bandHeld_34 hl (by decide) rfl (fun ls hl => ?_)
    refine lv_iload S.1 S.2.1 dX10_bandHeld_36 (lv_at hl 0 rfl) ?_
    refine lv_iconst (v := 3) S.1 S.2.1 dX10_bandHeld_38 (by decide) ?_
    refine lv_iload_n S.1 S.2.1 dX10_bandHeld_39 rfl (lv_at hl 1 rfl) ?_
    refine z_callSr S K w hA (c_J6_bitCount_0f7a4 l D cs ad F A T x1 (f_J6_bitCount_0f7a4 x1) rfl) (cw_X10_275 S.2.2.2.2 ⟨Nat.le_of_ble_eq_true rfl, Nat.le_of_ble_eq_true rfl⟩) rfl hl.1 rfl (Nat.le_of_ble_eq_true rfl) ⟨Nat.zero_le _, Nat.zero_le _⟩ dX10_bandHeld_40 (fun b1 H locs w => ?_)
    refine lv_iload_n S.1 S.2.1 dX10_bandHeld_43 rfl (lv_at hl 2 rfl) ?_
    refine lv_isub S.1 S.2.1 dX10_bandHeld_44 ?_
    refine lv_imul S.1 S.2.1 dX10_bandHeld_45 ?_
    refine lv_iadd S.1 S.2.1 dX10_bandHeld_46 ?_
    exact z_reti S w hr hlk dX10_bandHeld_47 trivial (by rw [← Option.some.inj h])
  refine lv_iload_n S.1 S.2.1 dX10_bandHeld_0 rfl (lv_at hl 1 rfl) ?_
  refine lv_iload_n S.1 S.2.1 dX10_bandHeld_1 rfl (lv_at hl 2 rfl) ?_
  refine z_callSr S K w hA (c_X10_bit l D cs ad F A T a0 a1 (f_X10_bit a0 a1) rfl) (cw_X10_138 S.2.2.2.2 ⟨Nat.le_of_ble_eq_true rfl, Nat.le_of_ble_eq_true rfl⟩) rfl hl.1 rfl (Nat.le_of_ble_eq_true rfl) ⟨Nat.zero_le _, Nat.zero_le _⟩ dX10_bandHeld_2 (fun b2 H locs w => ?_)
  refine lv_istore_n (lv' := [(3, .int (f_X10_bit a0 a1)), (0, .ref (ad 0)), (1, .int a0), (2, .int a1)]) S.1 S.2.1 dX10_bandHeld_5 rfl hl (by decide) rfl (fun ls hl => ?_)
  refine lv_iload_n S.1 S.2.1 dX10_bandHeld_6 rfl (lv_at hl 0 rfl) ?_
  refine lv_iconst (v := 1) S.1 S.2.1 dX10_bandHeld_7 (by decide) ?_
  refine lv_icmp_ne (tgt := 25) S.1 S.2.1 dX10_bandHeld_8 (by decide) (fun c3 => ?_) (fun c3 => ?_)
  · have h := og_f c3 h
    refine lv_aload_n S.1 S.2.1 dX10_bandHeld_25 rfl (lv_at hl 1 rfl) ?_
    refine gX_0_1 S K w w312 dX10_bandHeld_26 ?_
    refine gX_2_0 S K w w124 dX10_bandHeld_29 ?_
    refine lv_iload_n S.1 S.2.1 dX10_bandHeld_32 rfl (lv_at hl 3 rfl) ?_
    obtain ⟨g4, h⟩ := og_g h
    refine aX_14 S K w g4 dX10_bandHeld_33 ?_
    exact j34 _ _ _ h _ _ _ (lv_sub hl [2, 0] rfl) w
  · have h := og_t c3 h
    refine lv_aload_n S.1 S.2.1 dX10_bandHeld_11 rfl (lv_at hl 1 rfl) ?_
    refine gX_0_1 S K w w312 dX10_bandHeld_12 ?_
    refine gX_2_0 S K w w124 dX10_bandHeld_15 ?_
    refine lv_iload_n S.1 S.2.1 dX10_bandHeld_18 rfl (lv_at hl 3 rfl) ?_
    obtain ⟨g5, h⟩ := og_g h
    refine aX_14 S K w g5 dX10_bandHeld_19 ?_
    refine lv_iconst (v := 2) S.1 S.2.1 dX10_bandHeld_20 (by decide) ?_
    refine lv_idiv S.1 S.2.1 dX10_bandHeld_21 nz_2 ?_
    refine lv_goto (tgt := 34) S.1 S.2.1 dX10_bandHeld_22 (by decide) ?_
    exact j34 _ _ _ h _ _ _ (lv_sub hl [2, 0] rfl) w
set_option maxHeartbeats 4000000 in
set_option maxRecDepth 100000 in
theorem c_X10_bandDays (l : Launch) (D : va_G) (cs : Nat → ClassId) (ad : Nat → Nat) (F : ZF) (A : ZA) (T : Int64) (a0 a1 : Int32) (q : Int32) (h : f_X10_bandDays a0 a1 F A T = some q) : zMi l D cs (XWc cs ad 10 11) yX10_bandDays cX10_bandDays 5 (some .int) rm_X10_bandDays ([.ref (ad 0), .int a0, .int a1] : List Value) F A T ((q, F, A, T) : Int32 × ZS) True := by
  refine z_enteri (by decide) (Nat.le_of_ble_eq_true rfl) ?_
  intro p e s m below meth c A0 ls S K w hA hr hlk hl
  have S : CallFix p m c cX10_bandDays 5 s ([.ref (ad 0), .int a0, .int a1] : List Value).toArray zWs RX10 := S
  have hl : lv_has ls 5 [(0, .ref (ad 0)), (1, .int a0), (2, .int a1)] := hl
  unfold f_X10_bandDays at h
  have j5 : ∀ (n5 : Nat) (x1 x2 x3 x4 : Int32), f_X10_bandDays_5 F A T n5 x1 x2 x3 x4 = some q → ∀ (H : Heap) (locs : List Loc) (ls : Array Slot), lv_has ls 5 [(0, .ref (ad 0)), (1, .int x1), (2, .int x2), (3, .int x3), (4, .int x4)] → ZW D A0 s.heap (XWc cs ad 10 11 F A T) H locs → W p l e rm_X10_bandDays s m ([.ref (ad 0), .int a0, .int a1] : List Value).toArray below meth c H locs 0 0 (zQi (XWc cs ad 10 11) D A0 below ([.ref (ad 0), .int a0, .int a1] : List Value) s ((q, F, A, T) : Int32 × ZS) True) (F0 m 5 ls []) := by
    intro n5
    induction n5 with
    | zero =>
      intro x1 x2 x3 x4 h H locs ls hl w
      have h : (none : Option Int32) = some q := h
      cases h
    | succ n5 ih5 =>
      intro x1 x2 x3 x4 h H locs ls hl w
      rw [f_X10_bandDays_5_s] at h
      refine lv_iload S.1 S.2.1 dX10_bandDays_5 (lv_at hl 4 rfl) ?_
      refine lv_aload_n S.1 S.2.1 dX10_bandDays_7 rfl (lv_at hl 0 rfl) ?_
      refine gX_0_11 S K w w330 dX10_bandDays_8 ?_
      refine gX_10_0 S K w w227 dX10_bandDays_11 ?_
      refine lv_icmp_ge (tgt := 33) S.1 S.2.1 dX10_bandDays_14 (by decide) (fun c1 => ?_) (fun c1 => ?_)
      · have h := og_t c1 h
        refine lv_iload_n S.1 S.2.1 dX10_bandDays_33 rfl (lv_at hl 3 rfl) ?_
        refine lv_if_ne (tgt := 41) S.1 S.2.1 dX10_bandDays_34 (by decide) (fun c2 => ?_) (fun c2 => ?_)
        · have h := og_f c2 h
          refine lv_aload_n S.1 S.2.1 dX10_bandDays_41 rfl (lv_at hl 0 rfl) ?_
          refine gX_0_2 S K w w314 dX10_bandDays_42 ?_
          refine gX_3_2 S K w w158 dX10_bandDays_45 ?_
          refine lv_aload_n S.1 S.2.1 dX10_bandDays_48 rfl (lv_at hl 0 rfl) ?_
          refine lv_iload_n S.1 S.2.1 dX10_bandDays_49 rfl (lv_at hl 1 rfl) ?_
          refine lv_iload_n S.1 S.2.1 dX10_bandDays_50 rfl (lv_at hl 2 rfl) ?_
          obtain ⟨q4, e5, h⟩ := og_b h
          refine z_callVr S K w hA (c_X10_bandHeld l D cs ad F A T x1 x2 q4 e5) (cw_X10_283 S.2.2.2.2 ⟨Nat.le_of_ble_eq_true rfl, Nat.le_of_ble_eq_true rfl⟩) (z_recv K w 0 10 rfl rfl) rfl hl.1 rfl (Nat.le_of_ble_eq_true rfl) ⟨Nat.zero_le _, Nat.zero_le _⟩ dX10_bandDays_51 (fun b3 H locs w => ?_)
          refine lv_imul S.1 S.2.1 dX10_bandDays_54 ?_
          refine lv_iload_n S.1 S.2.1 dX10_bandDays_55 rfl (lv_at hl 3 rfl) ?_
          obtain ⟨g6, h⟩ := og_d h
          refine lv_idiv S.1 S.2.1 dX10_bandDays_56 g6 ?_
          exact z_reti S w hr hlk dX10_bandDays_57 trivial (by rw [← Option.some.inj h])
        · have h := og_t c2 h
          refine lv_iconst (v := 0) S.1 S.2.1 dX10_bandDays_37 (by decide) ?_
          refine lv_goto (tgt := 57) S.1 S.2.1 dX10_bandDays_38 (by decide) ?_
          exact z_reti S w hr hlk dX10_bandDays_57 trivial (by rw [← Option.some.inj h])
      · have h := og_f c1 h
        refine lv_iload_n S.1 S.2.1 dX10_bandDays_17 rfl (lv_at hl 3 rfl) ?_
        refine lv_aload_n S.1 S.2.1 dX10_bandDays_18 rfl (lv_at hl 0 rfl) ?_
        refine lv_iload_n S.1 S.2.1 dX10_bandDays_19 rfl (lv_at hl 1 rfl) ?_
        refine lv_iload S.1 S.2.1 dX10_bandDays_20 (lv_at hl 4 rfl) ?_
        obtain ⟨q8, e9, h⟩ := og_b h
        refine z_callVr S K w hA (c_X10_bandHeld l D cs ad F A T x1 x4 q8 e9) (cw_X10_283 S.2.2.2.2 ⟨Nat.le_of_ble_eq_true rfl, Nat.le_of_ble_eq_true rfl⟩) (z_recv K w 0 10 rfl rfl) rfl hl.1 rfl (Nat.le_of_ble_eq_true rfl) ⟨Nat.zero_le _, Nat.zero_le _⟩ dX10_bandDays_22 (fun b7 H locs w => ?_)
        refine lv_iadd S.1 S.2.1 dX10_bandDays_25 ?_
        refine lv_istore_n (lv' := [(3, .int (x3 + q8)), (0, .ref (ad 0)), (1, .int x1), (2, .int x2), (4, .int x4)]) S.1 S.2.1 dX10_bandDays_26 rfl hl (by decide) rfl (fun ls hl => ?_)
        refine lv_iinc (v := (x4 + (1 : Int32))) (lv' := [(4, .int (x4 + (1 : Int32))), (3, .int (x3 + q8)), (0, .ref (ad 0)), (1, .int x1), (2, .int x2)]) S.1 S.2.1 dX10_bandDays_27 hl (k := 4) rfl rfl (by decide) rfl (fun ls hl => ?_)
        refine lv_goto (tgt := 5) S.1 S.2.1 dX10_bandDays_30 (by decide) ?_
        exact ih5 _ _ _ _ h _ _ _ (lv_sub hl [2, 3, 4, 1, 0] rfl) w
  refine lv_iconst (v := 0) S.1 S.2.1 dX10_bandDays_0 (by decide) ?_
  refine lv_istore_n (lv' := [(3, .int (0 : Int32)), (0, .ref (ad 0)), (1, .int a0), (2, .int a1)]) S.1 S.2.1 dX10_bandDays_1 rfl hl (by decide) rfl (fun ls hl => ?_)
  refine lv_iconst (v := 0) S.1 S.2.1 dX10_bandDays_2 (by decide) ?_
  refine lv_istore (lv' := [(4, .int (0 : Int32)), (3, .int (0 : Int32)), (0, .ref (ad 0)), (1, .int a0), (2, .int a1)]) S.1 S.2.1 dX10_bandDays_3 hl (by decide) rfl (fun ls hl => ?_)
  exact j5 1000 _ _ _ _ h _ _ _ (lv_sub hl [2, 3, 4, 1, 0] rfl) w
set_option maxHeartbeats 4000000 in
set_option maxRecDepth 100000 in
theorem c_X10_firstGainer (l : Launch) (D : va_G) (cs : Nat → ClassId) (ad : Nat → Nat) (F : ZF) (A : ZA) (T : Int64) (a0 : Int32) (q : Int32) (h : f_X10_firstGainer a0 F A T = some q) : zMi l D cs (XWc cs ad 10 11) yX10_firstGainer cX10_firstGainer 3 (some .int) rm_X10_firstGainer ([.ref (ad 0), .int a0] : List Value) F A T ((q, F, A, T) : Int32 × ZS) True := by
  refine z_enteri (by decide) (Nat.le_of_ble_eq_true rfl) ?_
  intro p e s m below meth c A0 ls S K w hA hr hlk hl
  have S : CallFix p m c cX10_firstGainer 3 s ([.ref (ad 0), .int a0] : List Value).toArray zWs RX10 := S
  have hl : lv_has ls 3 [(0, .ref (ad 0)), (1, .int a0)] := hl
  unfold f_X10_firstGainer at h
  have j2 : ∀ (n2 : Nat) (x1 x2 : Int32), f_X10_firstGainer_2 F A T n2 x1 x2 = some q → ∀ (H : Heap) (locs : List Loc) (ls : Array Slot), lv_has ls 3 [(0, .ref (ad 0)), (1, .int x1), (2, .int x2)] → ZW D A0 s.heap (XWc cs ad 10 11 F A T) H locs → W p l e rm_X10_firstGainer s m ([.ref (ad 0), .int a0] : List Value).toArray below meth c H locs 0 0 (zQi (XWc cs ad 10 11) D A0 below ([.ref (ad 0), .int a0] : List Value) s ((q, F, A, T) : Int32 × ZS) True) (F0 m 2 ls []) := by
    intro n2
    induction n2 with
    | zero =>
      intro x1 x2 h H locs ls hl w
      have h : (none : Option Int32) = some q := h
      cases h
    | succ n2 ih2 =>
      intro x1 x2 h H locs ls hl w
      rw [f_X10_firstGainer_2_s] at h
      refine lv_iload_n S.1 S.2.1 dX10_firstGainer_2 rfl (lv_at hl 2 rfl) ?_
      refine lv_aload_n S.1 S.2.1 dX10_firstGainer_3 rfl (lv_at hl 0 rfl) ?_
      refine gX_0_11 S K w w330 dX10_firstGainer_4 ?_
      refine gX_10_0 S K w w227 dX10_firstGainer_7 ?_
      refine lv_icmp_ge (tgt := 40) S.1 S.2.1 dX10_firstGainer_10 (by decide) (fun c1 => ?_) (fun c1 => ?_)
      · have h := og_t c1 h
        refine lv_bipush (v := -9) S.1 S.2.1 dX10_firstGainer_40 (by decide) ?_
        exact z_reti S w hr hlk dX10_firstGainer_42 trivial (by rw [← Option.some.inj h])
      · have h := og_f c1 h
        refine lv_aload_n S.1 S.2.1 dX10_firstGainer_13 rfl (lv_at hl 0 rfl) ?_
        refine lv_iload_n S.1 S.2.1 dX10_firstGainer_14 rfl (lv_at hl 1 rfl) ?_
        refine lv_iconst (v := 1) S.1 S.2.1 dX10_firstGainer_15 (by decide) ?_
        refine lv_iload_n S.1 S.2.1 dX10_firstGainer_16 rfl (lv_at hl 2 rfl) ?_
        refine lv_ishl S.1 S.2.1 dX10_firstGainer_17 ?_
        refine lv_ixor S.1 S.2.1 dX10_firstGainer_18 ?_
        refine lv_iload_n S.1 S.2.1 dX10_firstGainer_19 rfl (lv_at hl 2 rfl) ?_
        obtain ⟨q3, e4, h⟩ := og_b h
        refine z_callVr S K w hA (c_X10_bandDays l D cs ad F A T (x1 ^^^ ((1 : Int32) <<< (x2 &&& 31))) x2 q3 e4) (cw_X10_286 S.2.2.2.2 ⟨Nat.le_of_ble_eq_true rfl, Nat.le_of_ble_eq_true rfl⟩) (z_recv K w 0 10 rfl rfl) rfl hl.1 rfl (Nat.le_of_ble_eq_true rfl) ⟨Nat.zero_le _, Nat.zero_le _⟩ dX10_firstGainer_20 (fun b2 H locs w => ?_)
        refine lv_aload_n S.1 S.2.1 dX10_firstGainer_23 rfl (lv_at hl 0 rfl) ?_
        refine lv_iload_n S.1 S.2.1 dX10_firstGainer_24 rfl (lv_at hl 1 rfl) ?_
        refine lv_iload_n S.1 S.2.1 dX10_firstGainer_25 rfl (lv_at hl 2 rfl) ?_
        obtain ⟨q6, e7, h⟩ := og_b h
        refine z_callVr S K w hA (c_X10_bandDays l D cs ad F A T x1 x2 q6 e7) (cw_X10_286 S.2.2.2.2 ⟨Nat.le_of_ble_eq_true rfl, Nat.le_of_ble_eq_true rfl⟩) (z_recv K w 0 10 rfl rfl) rfl hl.1 rfl (Nat.le_of_ble_eq_true rfl) ⟨Nat.zero_le _, Nat.zero_le _⟩ dX10_firstGainer_26 (fun b5 H locs w => ?_)
        refine lv_icmp_ge (tgt := 34) S.1 S.2.1 dX10_firstGainer_29 (by decide) (fun c8 => ?_) (fun c8 => ?_)
        · have h := og_t c8 h
          refine lv_iinc (v := (x2 + (1 : Int32))) (lv' := [(2, .int (x2 + (1 : Int32))), (0, .ref (ad 0)), (1, .int x1)]) S.1 S.2.1 dX10_firstGainer_34 hl (k := 2) rfl rfl (by decide) rfl (fun ls hl => ?_)
          refine lv_goto (tgt := 2) S.1 S.2.1 dX10_firstGainer_37 (by decide) ?_
          exact ih2 _ _ h _ _ _ (lv_sub hl [1, 2, 0] rfl) w
        · have h := og_f c8 h
          refine lv_iload_n S.1 S.2.1 dX10_firstGainer_32 rfl (lv_at hl 2 rfl) ?_
          exact z_reti S w hr hlk dX10_firstGainer_33 trivial (by rw [← Option.some.inj h])
  refine lv_iconst (v := 0) S.1 S.2.1 dX10_firstGainer_0 (by decide) ?_
  refine lv_istore_n (lv' := [(2, .int (0 : Int32)), (0, .ref (ad 0)), (1, .int a0)]) S.1 S.2.1 dX10_firstGainer_1 rfl hl (by decide) rfl (fun ls hl => ?_)
  exact j2 1000 _ _ h _ _ _ (lv_sub hl [1, 2, 0] rfl) w
set_option maxHeartbeats 4000000 in
set_option maxRecDepth 100000 in
theorem c_X10_rests (l : Launch) (D : va_G) (cs : Nat → ClassId) (ad : Nat → Nat) (F : ZF) (A : ZA) (T : Int64) (a0 : Int32) (q : (Int32 × ZS)) (h : f_X10_rests a0 F A T = some q) : zMi l D cs (XWc cs ad 10 11) yX10_rests cX10_rests 5 (some .int) rm_X10_rests ([.ref (ad 0), .int a0] : List Value) F A T q True := by
  refine z_enteri (by decide) (Nat.le_of_ble_eq_true rfl) ?_
  intro p e s m below meth c A0 ls S K w hA hr hlk hl
  have S : CallFix p m c cX10_rests 5 s ([.ref (ad 0), .int a0] : List Value).toArray zWs RX10 := S
  have hl : lv_has ls 5 [(0, .ref (ad 0)), (1, .int a0)] := hl
  unfold f_X10_rests at h
  have j23 : ∀ (n23 : Nat) (x1 x2 x3 x4 : Int32) (F : ZF) (A : ZA) (T : Int64), f_X10_rests_23 n23 x1 x2 x3 x4 F A T = some q → ∀ (H : Heap) (locs : List Loc) (ls : Array Slot), lv_has ls 5 [(0, .ref (ad 0)), (1, .int x1), (2, .int x2), (3, .int x3), (4, .int x4)] → ZW D A0 s.heap (XWc cs ad 10 11 F A T) H locs → W p l e rm_X10_rests s m ([.ref (ad 0), .int a0] : List Value).toArray below meth c H locs 0 0 (zQi (XWc cs ad 10 11) D A0 below ([.ref (ad 0), .int a0] : List Value) s q True) (F0 m 23 ls []) := by
    intro n23
    induction n23 with
    | zero =>
      intro x1 x2 x3 x4 F A T h H locs ls hl w
      have h : (none : Option (Int32 × ZS)) = some q := h
      cases h
    | succ n23 ih23 =>
      intro x1 x2 x3 x4 F A T h H locs ls hl w
      rw [f_X10_rests_23_s] at h
      refine lv_iload S.1 S.2.1 dX10_rests_23 (lv_at hl 4 rfl) ?_
      refine lv_iconst (v := 1) S.1 S.2.1 dX10_rests_25 (by decide) ?_
      refine lv_aload_n S.1 S.2.1 dX10_rests_26 rfl (lv_at hl 0 rfl) ?_
      refine gX_0_11 S K w w330 dX10_rests_27 ?_
      refine gX_10_0 S K w w227 dX10_rests_30 ?_
      refine lv_ishl S.1 S.2.1 dX10_rests_33 ?_
      refine lv_icmp_ge (tgt := 67) S.1 S.2.1 dX10_rests_34 (by decide) (fun c1 => ?_) (fun c1 => ?_)
      · have h := og_t c1 h
        refine lv_iload_n S.1 S.2.1 dX10_rests_67 rfl (lv_at hl 1 rfl) ?_
        refine lv_if_ne (tgt := 75) S.1 S.2.1 dX10_rests_68 (by decide) (fun c2 => ?_) (fun c2 => ?_)
        · have h := og_f c2 h
          refine lv_iload_n S.1 S.2.1 dX10_rests_75 rfl (lv_at hl 3 rfl) ?_
          exact z_reti S w hr hlk dX10_rests_76 trivial (Option.some.inj h).symm
        · have h := og_t c2 h
          refine lv_iload_n S.1 S.2.1 dX10_rests_71 rfl (lv_at hl 2 rfl) ?_
          refine lv_goto (tgt := 76) S.1 S.2.1 dX10_rests_72 (by decide) ?_
          exact z_reti S w hr hlk dX10_rests_76 trivial (Option.some.inj h).symm
      · have h := og_f c1 h
        refine lv_aload_n S.1 S.2.1 dX10_rests_37 rfl (lv_at hl 0 rfl) ?_
        refine lv_iload S.1 S.2.1 dX10_rests_38 (lv_at hl 4 rfl) ?_
        obtain ⟨q4, e5, h⟩ := og_b h
        refine z_callVr S K w hA (c_X10_firstGainer l D cs ad F A T x4 q4 e5) (cw_X10_222 S.2.2.2.2 ⟨Nat.le_of_ble_eq_true rfl, Nat.le_of_ble_eq_true rfl⟩) (z_recv K w 0 10 rfl rfl) rfl hl.1 rfl (Nat.le_of_ble_eq_true rfl) ⟨Nat.zero_le _, Nat.zero_le _⟩ dX10_rests_40 (fun b3 H locs w => ?_)
        refine lv_bipush (v := -9) S.1 S.2.1 dX10_rests_43 (by decide) ?_
        refine lv_icmp_eq (tgt := 51) S.1 S.2.1 dX10_rests_45 (by decide) (fun c6 => ?_) (fun c6 => ?_)
        · have h := og_t c6 h
          refine lv_iload_n S.1 S.2.1 dX10_rests_51 rfl (lv_at hl 2 rfl) ?_
          refine lv_if_ne (tgt := 58) S.1 S.2.1 dX10_rests_52 (by decide) (fun c7 => ?_) (fun c7 => ?_)
          · have h := og_f c7 h
            refine lv_iinc (v := (x2 + (1 : Int32))) (lv' := [(2, .int (x2 + (1 : Int32))), (0, .ref (ad 0)), (1, .int x1), (3, .int x3), (4, .int x4)]) S.1 S.2.1 dX10_rests_58 hl (k := 2) rfl rfl (by decide) rfl (fun ls hl => ?_)
            refine lv_iinc (v := (x4 + (1 : Int32))) (lv' := [(4, .int (x4 + (1 : Int32))), (2, .int (x2 + (1 : Int32))), (0, .ref (ad 0)), (1, .int x1), (3, .int x3)]) S.1 S.2.1 dX10_rests_61 hl (k := 4) rfl rfl (by decide) rfl (fun ls hl => ?_)
            refine lv_goto (tgt := 23) S.1 S.2.1 dX10_rests_64 (by decide) ?_
            exact ih23 _ _ _ _ _ _ _ h _ _ _ (lv_sub hl [2, 3, 1, 4, 0] rfl) w
          · have h := og_t c7 h
            refine lv_iload S.1 S.2.1 dX10_rests_55 (lv_at hl 4 rfl) ?_
            refine lv_istore_n (lv' := [(3, .int x4), (0, .ref (ad 0)), (1, .int x1), (2, .int x2), (4, .int x4)]) S.1 S.2.1 dX10_rests_57 rfl hl (by decide) rfl (fun ls hl => ?_)
            refine lv_iinc (v := (x2 + (1 : Int32))) (lv' := [(2, .int (x2 + (1 : Int32))), (3, .int x4), (0, .ref (ad 0)), (1, .int x1), (4, .int x4)]) S.1 S.2.1 dX10_rests_58 hl (k := 3) rfl rfl (by decide) rfl (fun ls hl => ?_)
            refine lv_iinc (v := (x4 + (1 : Int32))) (lv' := [(4, .int (x4 + (1 : Int32))), (2, .int (x2 + (1 : Int32))), (3, .int x4), (0, .ref (ad 0)), (1, .int x1)]) S.1 S.2.1 dX10_rests_61 hl (k := 4) rfl rfl (by decide) rfl (fun ls hl => ?_)
            refine lv_goto (tgt := 23) S.1 S.2.1 dX10_rests_64 (by decide) ?_
            exact ih23 _ _ _ _ _ _ _ h _ _ _ (lv_sub hl [3, 4, 1, 2, 0] rfl) w
        · have h := og_f c6 h
          refine lv_goto (tgt := 61) S.1 S.2.1 dX10_rests_48 (by decide) ?_
          refine lv_iinc (v := (x4 + (1 : Int32))) (lv' := [(4, .int (x4 + (1 : Int32))), (0, .ref (ad 0)), (1, .int x1), (2, .int x2), (3, .int x3)]) S.1 S.2.1 dX10_rests_61 hl (k := 4) rfl rfl (by decide) rfl (fun ls hl => ?_)
          refine lv_goto (tgt := 23) S.1 S.2.1 dX10_rests_64 (by decide) ?_
          exact ih23 _ _ _ _ _ _ _ h _ _ _ (lv_sub hl [1, 2, 3, 4, 0] rfl) w
  refine lv_iload_n S.1 S.2.1 dX10_rests_0 rfl (lv_at hl 1 rfl) ?_
  refine lv_iconst (v := 0) S.1 S.2.1 dX10_rests_1 (by decide) ?_
  refine lv_iconst (v := 1) S.1 S.2.1 dX10_rests_2 (by decide) ?_
  refine z_callSr S K w hA (c_X10_within l D cs ad F A T a0 (0 : Int32) (1 : Int32) (f_X10_within a0 (0 : Int32) (1 : Int32)) rfl) (cw_X10_90 S.2.2.2.2 ⟨Nat.le_of_ble_eq_true rfl, Nat.le_of_ble_eq_true rfl⟩) rfl hl.1 rfl (Nat.le_of_ble_eq_true rfl) ⟨Nat.zero_le _, Nat.zero_le _⟩ dX10_rests_3 (fun b8 H locs w => ?_)
  refine lv_if_ne (tgt := 11) S.1 S.2.1 dX10_rests_6 (by decide) (fun c9 => ?_) (fun c9 => ?_)
  · have h := og_f c9 h
    refine lv_aload_n S.1 S.2.1 dX10_rests_11 rfl (lv_at hl 0 rfl) ?_
    obtain ⟨q10, e11, h⟩ := og_b h
    refine z_callVv S K w hA (c_X10_weighNow l D cs ad F A T q10 e11) (cw_X10_111 S.2.2.2.2 ⟨Nat.le_of_ble_eq_true rfl, Nat.le_of_ble_eq_true rfl⟩) (z_recv K w 0 10 rfl rfl) rfl hl.1 rfl (Nat.le_of_ble_eq_true rfl) ⟨Nat.zero_le _, Nat.zero_le _⟩ dX10_rests_12 (fun H locs w => ?_)
    refine lv_iconst (v := 0) S.1 S.2.1 dX10_rests_15 (by decide) ?_
    refine lv_istore_n (lv' := [(2, .int (0 : Int32)), (0, .ref (ad 0)), (1, .int a0)]) S.1 S.2.1 dX10_rests_16 rfl hl (by decide) rfl (fun ls hl => ?_)
    refine lv_bipush (v := -9) S.1 S.2.1 dX10_rests_17 (by decide) ?_
    refine lv_istore_n (lv' := [(3, .int (-9 : Int32)), (2, .int (0 : Int32)), (0, .ref (ad 0)), (1, .int a0)]) S.1 S.2.1 dX10_rests_19 rfl hl (by decide) rfl (fun ls hl => ?_)
    refine lv_iconst (v := 0) S.1 S.2.1 dX10_rests_20 (by decide) ?_
    refine lv_istore (lv' := [(4, .int (0 : Int32)), (3, .int (-9 : Int32)), (2, .int (0 : Int32)), (0, .ref (ad 0)), (1, .int a0)]) S.1 S.2.1 dX10_rests_21 hl (by decide) rfl (fun ls hl => ?_)
    exact j23 1000 _ _ _ _ _ _ _ h _ _ _ (lv_sub hl [3, 4, 2, 1, 0] rfl) w
  · have h := og_t c9 h
    refine lv_iconst (v := -1) S.1 S.2.1 dX10_rests_9 (by decide) ?_
    exact z_reti S w hr hlk dX10_rests_10 trivial (Option.some.inj h).symm
set_option maxHeartbeats 4000000 in
set_option maxRecDepth 100000 in
theorem c_X10_gains (l : Launch) (D : va_G) (cs : Nat → ClassId) (ad : Nat → Nat) (F : ZF) (A : ZA) (T : Int64) (a0 : Int32) (q : (Int32 × ZS)) (h : f_X10_gains a0 F A T = some q) : zMi l D cs (XWc cs ad 10 11) yX10_gains cX10_gains 2 (some .int) rm_X10_gains ([.ref (ad 0), .int a0] : List Value) F A T q True := by
  refine z_enteri (by decide) (Nat.le_of_ble_eq_true rfl) ?_
  intro p e s m below meth c A0 ls S K w hA hr hlk hl
  have S : CallFix p m c cX10_gains 2 s ([.ref (ad 0), .int a0] : List Value).toArray zWs RX10 := S
  have hl : lv_has ls 2 [(0, .ref (ad 0)), (1, .int a0)] := hl
  unfold f_X10_gains at h
  refine lv_iload_n S.1 S.2.1 dX10_gains_0 rfl (lv_at hl 1 rfl) ?_
  refine lv_iconst (v := 0) S.1 S.2.1 dX10_gains_1 (by decide) ?_
  refine lv_iconst (v := 1) S.1 S.2.1 dX10_gains_2 (by decide) ?_
  refine lv_aload_n S.1 S.2.1 dX10_gains_3 rfl (lv_at hl 0 rfl) ?_
  refine gX_0_11 S K w w330 dX10_gains_4 ?_
  refine gX_10_0 S K w w227 dX10_gains_7 ?_
  refine lv_ishl S.1 S.2.1 dX10_gains_10 ?_
  refine lv_iconst (v := 1) S.1 S.2.1 dX10_gains_11 (by decide) ?_
  refine lv_isub S.1 S.2.1 dX10_gains_12 ?_
  refine z_callSr S K w hA (c_X10_within l D cs ad F A T a0 (0 : Int32) (((1 : Int32) <<< ((F 22) &&& 31)) - (1 : Int32)) (f_X10_within a0 (0 : Int32) (((1 : Int32) <<< ((F 22) &&& 31)) - (1 : Int32))) rfl) (cw_X10_90 S.2.2.2.2 ⟨Nat.le_of_ble_eq_true rfl, Nat.le_of_ble_eq_true rfl⟩) rfl hl.1 rfl (Nat.le_of_ble_eq_true rfl) ⟨Nat.zero_le _, Nat.zero_le _⟩ dX10_gains_13 (fun b1 H locs w => ?_)
  refine lv_if_ne (tgt := 21) S.1 S.2.1 dX10_gains_16 (by decide) (fun c2 => ?_) (fun c2 => ?_)
  · have h := og_f c2 h
    refine lv_aload_n S.1 S.2.1 dX10_gains_21 rfl (lv_at hl 0 rfl) ?_
    obtain ⟨q3, e4, h⟩ := og_b h
    refine z_callVv S K w hA (c_X10_weighNow l D cs ad F A T q3 e4) (cw_X10_111 S.2.2.2.2 ⟨Nat.le_of_ble_eq_true rfl, Nat.le_of_ble_eq_true rfl⟩) (z_recv K w 0 10 rfl rfl) rfl hl.1 rfl (Nat.le_of_ble_eq_true rfl) ⟨Nat.zero_le _, Nat.zero_le _⟩ dX10_gains_22 (fun H locs w => ?_)
    refine lv_aload_n S.1 S.2.1 dX10_gains_25 rfl (lv_at hl 0 rfl) ?_
    refine lv_iload_n S.1 S.2.1 dX10_gains_26 rfl (lv_at hl 1 rfl) ?_
    obtain ⟨q6, e7, h⟩ := og_b h
    refine z_callVr S K w hA (c_X10_firstGainer l D cs ad q3.1 q3.2.1 q3.2.2 a0 q6 e7) (cw_X10_222 S.2.2.2.2 ⟨Nat.le_of_ble_eq_true rfl, Nat.le_of_ble_eq_true rfl⟩) (z_recv K w 0 10 rfl rfl) rfl hl.1 rfl (Nat.le_of_ble_eq_true rfl) ⟨Nat.zero_le _, Nat.zero_le _⟩ dX10_gains_27 (fun b5 H locs w => ?_)
    exact z_reti S w hr hlk dX10_gains_30 trivial (Option.some.inj h).symm
  · have h := og_t c2 h
    refine lv_iconst (v := -1) S.1 S.2.1 dX10_gains_19 (by decide) ?_
    exact z_reti S w hr hlk dX10_gains_20 trivial (Option.some.inj h).symm
set_option maxHeartbeats 4000000 in
set_option maxRecDepth 100000 in
theorem c_X10_cellsNeeded (l : Launch) (D : va_G) (cs : Nat → ClassId) (ad : Nat → Nat) (F : ZF) (A : ZA) (T : Int64) (a0 : Int32) (q : Int32) (h : f_X10_cellsNeeded a0 F A T = some q) : zMi l D cs (XWc cs ad 10 11) yX10_cellsNeeded cX10_cellsNeeded 3 (some .int) rm_X10_cellsNeeded ([.ref (ad 0), .int a0] : List Value) F A T ((q, F, A, T) : Int32 × ZS) True := by
  refine z_enteri (by decide) (Nat.le_of_ble_eq_true rfl) ?_
  intro p e s m below meth c A0 ls S K w hA hr hlk hl
  have S : CallFix p m c cX10_cellsNeeded 3 s ([.ref (ad 0), .int a0] : List Value).toArray zWs RX10 := S
  have hl : lv_has ls 3 [(0, .ref (ad 0)), (1, .int a0)] := hl
  unfold f_X10_cellsNeeded at h
  have j2 : ∀ (n2 : Nat) (x1 x2 : Int32), f_X10_cellsNeeded_2 F A T n2 x1 x2 = some q → ∀ (H : Heap) (locs : List Loc) (ls : Array Slot), lv_has ls 3 [(0, .ref (ad 0)), (1, .int x1), (2, .int x2)] → ZW D A0 s.heap (XWc cs ad 10 11 F A T) H locs → W p l e rm_X10_cellsNeeded s m ([.ref (ad 0), .int a0] : List Value).toArray below meth c H locs 0 0 (zQi (XWc cs ad 10 11) D A0 below ([.ref (ad 0), .int a0] : List Value) s ((q, F, A, T) : Int32 × ZS) True) (F0 m 2 ls []) := by
    intro n2
    induction n2 with
    | zero =>
      intro x1 x2 h H locs ls hl w
      have h : (none : Option Int32) = some q := h
      cases h
    | succ n2 ih2 =>
      intro x1 x2 h H locs ls hl w
      rw [f_X10_cellsNeeded_2_s] at h
      refine lv_iload_n S.1 S.2.1 dX10_cellsNeeded_2 rfl (lv_at hl 2 rfl) ?_
      refine lv_aload_n S.1 S.2.1 dX10_cellsNeeded_3 rfl (lv_at hl 0 rfl) ?_
      refine gX_0_11 S K w w330 dX10_cellsNeeded_4 ?_
      refine gX_10_0 S K w w227 dX10_cellsNeeded_7 ?_
      refine lv_icmp_ge (tgt := 35) S.1 S.2.1 dX10_cellsNeeded_10 (by decide) (fun c1 => ?_) (fun c1 => ?_)
      · have h := og_t c1 h
        refine lv_aload_n S.1 S.2.1 dX10_cellsNeeded_35 rfl (lv_at hl 0 rfl) ?_
        refine gX_0_1 S K w w312 dX10_cellsNeeded_36 ?_
        obtain ⟨q3, e4, h⟩ := og_b h
        refine z_callVr S K w hA (c_X5_allServe l D cs ad F A T q3 e4) (cw_X10_184 S.2.2.2.2 ⟨Nat.le_of_ble_eq_true rfl, Nat.le_of_ble_eq_true rfl⟩) (z_recv K w 2 5 rfl rfl) rfl hl.1 rfl (Nat.le_of_ble_eq_true rfl) ⟨Nat.zero_le _, Nat.zero_le _⟩ dX10_cellsNeeded_39 (fun b2 H locs w => ?_)
        refine lv_iload_n S.1 S.2.1 dX10_cellsNeeded_42 rfl (lv_at hl 1 rfl) ?_
        refine lv_iadd S.1 S.2.1 dX10_cellsNeeded_43 ?_
        refine lv_iconst (v := 1) S.1 S.2.1 dX10_cellsNeeded_44 (by decide) ?_
        refine lv_isub S.1 S.2.1 dX10_cellsNeeded_45 ?_
        refine lv_iload_n S.1 S.2.1 dX10_cellsNeeded_46 rfl (lv_at hl 1 rfl) ?_
        obtain ⟨g5, h⟩ := og_d h
        refine lv_idiv S.1 S.2.1 dX10_cellsNeeded_47 g5 ?_
        exact z_reti S w hr hlk dX10_cellsNeeded_48 trivial (by rw [← Option.some.inj h])
      · have h := og_f c1 h
        refine lv_aload_n S.1 S.2.1 dX10_cellsNeeded_13 rfl (lv_at hl 0 rfl) ?_
        refine gX_0_1 S K w w312 dX10_cellsNeeded_14 ?_
        refine gX_2_1 S K w w126 dX10_cellsNeeded_17 ?_
        refine lv_iload_n S.1 S.2.1 dX10_cellsNeeded_20 rfl (lv_at hl 2 rfl) ?_
        obtain ⟨g6, h⟩ := og_g h
        refine aX_15 S K w g6 dX10_cellsNeeded_21 ?_
        refine lv_iload_n S.1 S.2.1 dX10_cellsNeeded_22 rfl (lv_at hl 1 rfl) ?_
        refine lv_icmp_le (tgt := 29) S.1 S.2.1 dX10_cellsNeeded_23 (by decide) (fun c7 => ?_) (fun c7 => ?_)
        · have h := og_t c7 h
          refine lv_iinc (v := (x2 + (1 : Int32))) (lv' := [(2, .int (x2 + (1 : Int32))), (0, .ref (ad 0)), (1, .int x1)]) S.1 S.2.1 dX10_cellsNeeded_29 hl (k := 2) rfl rfl (by decide) rfl (fun ls hl => ?_)
          refine lv_goto (tgt := 2) S.1 S.2.1 dX10_cellsNeeded_32 (by decide) ?_
          exact ih2 _ _ h _ _ _ (lv_sub hl [1, 2, 0] rfl) w
        · have h := og_f c7 h
          refine lv_bipush (v := -9) S.1 S.2.1 dX10_cellsNeeded_26 (by decide) ?_
          exact z_reti S w hr hlk dX10_cellsNeeded_28 trivial (by rw [← Option.some.inj h])
  refine lv_iconst (v := 0) S.1 S.2.1 dX10_cellsNeeded_0 (by decide) ?_
  refine lv_istore_n (lv' := [(2, .int (0 : Int32)), (0, .ref (ad 0)), (1, .int a0)]) S.1 S.2.1 dX10_cellsNeeded_1 rfl hl (by decide) rfl (fun ls hl => ?_)
  exact j2 1000 _ _ h _ _ _ (lv_sub hl [1, 2, 0] rfl) w
set_option maxHeartbeats 4000000 in
set_option maxRecDepth 100000 in
theorem c_X10_cellsFor (l : Launch) (D : va_G) (cs : Nat → ClassId) (ad : Nat → Nat) (F : ZF) (A : ZA) (T : Int64) (a0 : Int32) (q : (Int32 × ZS)) (h : f_X10_cellsFor a0 F A T = some q) : zMi l D cs (XWc cs ad 10 11) yX10_cellsFor cX10_cellsFor 2 (some .int) rm_X10_cellsFor ([.ref (ad 0), .int a0] : List Value) F A T q True := by
  refine z_enteri (by decide) (Nat.le_of_ble_eq_true rfl) ?_
  intro p e s m below meth c A0 ls S K w hA hr hlk hl
  have S : CallFix p m c cX10_cellsFor 2 s ([.ref (ad 0), .int a0] : List Value).toArray zWs RX10 := S
  have hl : lv_has ls 2 [(0, .ref (ad 0)), (1, .int a0)] := hl
  unfold f_X10_cellsFor at h
  refine lv_iload_n S.1 S.2.1 dX10_cellsFor_0 rfl (lv_at hl 1 rfl) ?_
  refine lv_iconst (v := 1) S.1 S.2.1 dX10_cellsFor_1 (by decide) ?_
  refine lv_bipush (v := 60) S.1 S.2.1 dX10_cellsFor_2 (by decide) ?_
  refine z_callSr S K w hA (c_X10_within l D cs ad F A T a0 (1 : Int32) (60 : Int32) (f_X10_within a0 (1 : Int32) (60 : Int32)) rfl) (cw_X10_90 S.2.2.2.2 ⟨Nat.le_of_ble_eq_true rfl, Nat.le_of_ble_eq_true rfl⟩) rfl hl.1 rfl (Nat.le_of_ble_eq_true rfl) ⟨Nat.zero_le _, Nat.zero_le _⟩ dX10_cellsFor_4 (fun b1 H locs w => ?_)
  refine lv_if_ne (tgt := 12) S.1 S.2.1 dX10_cellsFor_7 (by decide) (fun c2 => ?_) (fun c2 => ?_)
  · have h := og_f c2 h
    refine lv_aload_n S.1 S.2.1 dX10_cellsFor_12 rfl (lv_at hl 0 rfl) ?_
    obtain ⟨q3, e4, h⟩ := og_b h
    refine z_callVv S K w hA (c_X10_weighNow l D cs ad F A T q3 e4) (cw_X10_111 S.2.2.2.2 ⟨Nat.le_of_ble_eq_true rfl, Nat.le_of_ble_eq_true rfl⟩) (z_recv K w 0 10 rfl rfl) rfl hl.1 rfl (Nat.le_of_ble_eq_true rfl) ⟨Nat.zero_le _, Nat.zero_le _⟩ dX10_cellsFor_13 (fun H locs w => ?_)
    refine lv_aload_n S.1 S.2.1 dX10_cellsFor_16 rfl (lv_at hl 0 rfl) ?_
    refine lv_iload_n S.1 S.2.1 dX10_cellsFor_17 rfl (lv_at hl 1 rfl) ?_
    obtain ⟨q6, e7, h⟩ := og_b h
    refine z_callVr S K w hA (c_X10_cellsNeeded l D cs ad q3.1 q3.2.1 q3.2.2 a0 q6 e7) (cw_X10_226 S.2.2.2.2 ⟨Nat.le_of_ble_eq_true rfl, Nat.le_of_ble_eq_true rfl⟩) (z_recv K w 0 10 rfl rfl) rfl hl.1 rfl (Nat.le_of_ble_eq_true rfl) ⟨Nat.zero_le _, Nat.zero_le _⟩ dX10_cellsFor_18 (fun b5 H locs w => ?_)
    exact z_reti S w hr hlk dX10_cellsFor_21 trivial (Option.some.inj h).symm
  · have h := og_t c2 h
    refine lv_iconst (v := -1) S.1 S.2.1 dX10_cellsFor_10 (by decide) ?_
    exact z_reti S w hr hlk dX10_cellsFor_11 trivial (Option.some.inj h).symm
set_option maxHeartbeats 4000000 in
set_option maxRecDepth 100000 in
theorem c_X10_sits (l : Launch) (D : va_G) (cs : Nat → ClassId) (ad : Nat → Nat) (F : ZF) (A : ZA) (T : Int64) (a0 a1 a2 : Int32) (q : (Int32 × ZS)) (h : f_X10_sits a0 a1 a2 F A T = some q) : zMi l D cs (XWc cs ad 10 11) yX10_sits cX10_sits 6 (some .int) rm_X10_sits ([.ref (ad 0), .int a0, .int a1, .int a2] : List Value) F A T q True := by
  refine z_enteri (by decide) (Nat.le_of_ble_eq_true rfl) ?_
  intro p e s m below meth c A0 ls S K w hA hr hlk hl
  have S : CallFix p m c cX10_sits 6 s ([.ref (ad 0), .int a0, .int a1, .int a2] : List Value).toArray zWs RX10 := S
  have hl : lv_has ls 6 [(0, .ref (ad 0)), (1, .int a0), (2, .int a1), (3, .int a2)] := hl
  unfold f_X10_sits at h
  have j54 : ∀ (n54 : Nat) (x1 x2 x3 x4 x5 : Int32) (F : ZF) (A : ZA) (T : Int64), f_X10_sits_54 n54 x1 x2 x3 x4 x5 F A T = some q → ∀ (H : Heap) (locs : List Loc) (ls : Array Slot), lv_has ls 6 [(0, .ref (ad 0)), (1, .int x1), (2, .int x2), (3, .int x3), (4, .int x4), (5, .int x5)] → ZW D A0 s.heap (XWc cs ad 10 11 F A T) H locs → W p l e rm_X10_sits s m ([.ref (ad 0), .int a0, .int a1, .int a2] : List Value).toArray below meth c H locs 0 0 (zQi (XWc cs ad 10 11) D A0 below ([.ref (ad 0), .int a0, .int a1, .int a2] : List Value) s q True) (F0 m 54 ls []) := by
    intro n54
    induction n54 with
    | zero =>
      intro x1 x2 x3 x4 x5 F A T h H locs ls hl w
      have h : (none : Option (Int32 × ZS)) = some q := h
      cases h
    | succ n54 ih54 =>
      intro x1 x2 x3 x4 x5 F A T h H locs ls hl w
      rw [f_X10_sits_54_s] at h
      refine lv_iload S.1 S.2.1 dX10_sits_54 (lv_at hl 5 rfl) ?_
      refine lv_iload_n S.1 S.2.1 dX10_sits_56 rfl (lv_at hl 2 rfl) ?_
      refine lv_icmp_ge (tgt := 81) S.1 S.2.1 dX10_sits_57 (by decide) (fun c1 => ?_) (fun c1 => ?_)
      · have h := og_t c1 h
        refine lv_iload_n S.1 S.2.1 dX10_sits_81 rfl (lv_at hl 3 rfl) ?_
        refine lv_iload S.1 S.2.1 dX10_sits_82 (lv_at hl 4 rfl) ?_
        refine lv_iload_n S.1 S.2.1 dX10_sits_84 rfl (lv_at hl 1 rfl) ?_
        obtain ⟨g2, h⟩ := og_d h
        refine lv_irem S.1 S.2.1 dX10_sits_85 g2 ?_
        refine lv_isub S.1 S.2.1 dX10_sits_86 ?_
        refine lv_iload_n S.1 S.2.1 dX10_sits_87 rfl (lv_at hl 1 rfl) ?_
        refine lv_iadd S.1 S.2.1 dX10_sits_88 ?_
        refine lv_iload_n S.1 S.2.1 dX10_sits_89 rfl (lv_at hl 1 rfl) ?_
        obtain ⟨g3, h⟩ := og_d h
        refine lv_irem S.1 S.2.1 dX10_sits_90 g3 ?_
        refine lv_istore (lv' := [(5, .int (((x3 - (x4 - x4 / x1 * x1)) + x1) - ((x3 - (x4 - x4 / x1 * x1)) + x1) / x1 * x1)), (0, .ref (ad 0)), (1, .int x1), (2, .int x2), (3, .int x3), (4, .int x4)]) S.1 S.2.1 dX10_sits_91 hl (by decide) rfl (fun ls hl => ?_)
        refine lv_iload S.1 S.2.1 dX10_sits_93 (lv_at hl 0 rfl) ?_
        refine lv_aload_n S.1 S.2.1 dX10_sits_95 rfl (lv_at hl 1 rfl) ?_
        refine gX_0_1 S K w w312 dX10_sits_96 ?_
        refine gX_2_1 S K w w126 dX10_sits_99 ?_
        refine lv_iload_n S.1 S.2.1 dX10_sits_102 rfl (lv_at hl 3 rfl) ?_
        obtain ⟨g4, h⟩ := og_g h
        refine aX_15 S K w g4 dX10_sits_103 ?_
        refine lv_icmp_ge (tgt := 117) S.1 S.2.1 dX10_sits_104 (by decide) (fun c5 => ?_) (fun c5 => ?_)
        · have h := og_t c5 h
          refine lv_bipush (v := -9) S.1 S.2.1 dX10_sits_117 (by decide) ?_
          exact z_reti S w hr hlk dX10_sits_119 trivial (Option.some.inj h).symm
        · have h := og_f c5 h
          refine lv_iload S.1 S.2.1 dX10_sits_107 (lv_at hl 5 rfl) ?_
          refine lv_iload S.1 S.2.1 dX10_sits_109 (lv_at hl 0 rfl) ?_
          refine lv_iadd S.1 S.2.1 dX10_sits_111 ?_
          refine lv_iload_n S.1 S.2.1 dX10_sits_112 rfl (lv_at hl 2 rfl) ?_
          obtain ⟨g6, h⟩ := og_d h
          refine lv_idiv S.1 S.2.1 dX10_sits_113 g6 ?_
          refine lv_goto (tgt := 119) S.1 S.2.1 dX10_sits_114 (by decide) ?_
          exact z_reti S w hr hlk dX10_sits_119 trivial (Option.some.inj h).symm
      · have h := og_f c1 h
        refine lv_iload S.1 S.2.1 dX10_sits_60 (lv_at hl 4 rfl) ?_
        refine lv_aload_n S.1 S.2.1 dX10_sits_62 rfl (lv_at hl 0 rfl) ?_
        refine gX_0_1 S K w w312 dX10_sits_63 ?_
        refine gX_2_1 S K w w126 dX10_sits_66 ?_
        refine lv_iload S.1 S.2.1 dX10_sits_69 (lv_at hl 5 rfl) ?_
        obtain ⟨g7, h⟩ := og_g h
        refine aX_15 S K w g7 dX10_sits_71 ?_
        refine lv_iadd S.1 S.2.1 dX10_sits_72 ?_
        refine lv_istore (lv' := [(4, .int (x4 + (A 15 (x5).toNatClampNeg))), (0, .ref (ad 0)), (1, .int x1), (2, .int x2), (3, .int x3), (5, .int x5)]) S.1 S.2.1 dX10_sits_73 hl (by decide) rfl (fun ls hl => ?_)
        refine lv_iinc (v := (x5 + (1 : Int32))) (lv' := [(5, .int (x5 + (1 : Int32))), (4, .int (x4 + (A 15 (x5).toNatClampNeg))), (0, .ref (ad 0)), (1, .int x1), (2, .int x2), (3, .int x3)]) S.1 S.2.1 dX10_sits_75 hl (k := 5) rfl rfl (by decide) rfl (fun ls hl => ?_)
        refine lv_goto (tgt := 54) S.1 S.2.1 dX10_sits_78 (by decide) ?_
        exact ih54 _ _ _ _ _ _ _ _ h _ _ _ (lv_sub hl [2, 3, 4, 5, 1, 0] rfl) w
  refine lv_iload_n S.1 S.2.1 dX10_sits_0 rfl (lv_at hl 1 rfl) ?_
  refine lv_iconst (v := 1) S.1 S.2.1 dX10_sits_1 (by decide) ?_
  refine lv_bipush (v := 60) S.1 S.2.1 dX10_sits_2 (by decide) ?_
  refine z_callSr S K w hA (c_X10_within l D cs ad F A T a0 (1 : Int32) (60 : Int32) (f_X10_within a0 (1 : Int32) (60 : Int32)) rfl) (cw_X10_90 S.2.2.2.2 ⟨Nat.le_of_ble_eq_true rfl, Nat.le_of_ble_eq_true rfl⟩) rfl hl.1 rfl (Nat.le_of_ble_eq_true rfl) ⟨Nat.zero_le _, Nat.zero_le _⟩ dX10_sits_4 (fun b8 H locs w => ?_)
  refine lv_if_eq (tgt := 29) S.1 S.2.1 dX10_sits_7 (by decide) (fun c9 => ?_) (fun c9 => ?_)
  · have h := og_t c9 h
    refine lv_iconst (v := -1) S.1 S.2.1 dX10_sits_29 (by decide) ?_
    exact z_reti S w hr hlk dX10_sits_30 trivial (Option.some.inj h).symm
  · have h := og_f c9 h
    refine lv_aload_n S.1 S.2.1 dX10_sits_10 rfl (lv_at hl 0 rfl) ?_
    refine lv_iload_n S.1 S.2.1 dX10_sits_11 rfl (lv_at hl 2 rfl) ?_
    refine z_callVr S K w hA (c_X10_isSuspect l D cs ad F A T a1 (f_X10_isSuspect a1 F A T) rfl) (cw_X10_107 S.2.2.2.2 ⟨Nat.le_of_ble_eq_true rfl, Nat.le_of_ble_eq_true rfl⟩) (z_recv K w 0 10 rfl rfl) rfl hl.1 rfl (Nat.le_of_ble_eq_true rfl) ⟨Nat.zero_le _, Nat.zero_le _⟩ dX10_sits_12 (fun b10 H locs w => ?_)
    refine lv_if_eq (tgt := 29) S.1 S.2.1 dX10_sits_15 (by decide) (fun c11 => ?_) (fun c11 => ?_)
    · have h := og_t c11 h
      refine lv_iconst (v := -1) S.1 S.2.1 dX10_sits_29 (by decide) ?_
      exact z_reti S w hr hlk dX10_sits_30 trivial (Option.some.inj h).symm
    · have h := og_f c11 h
      refine lv_iload_n S.1 S.2.1 dX10_sits_18 rfl (lv_at hl 3 rfl) ?_
      refine lv_iconst (v := 0) S.1 S.2.1 dX10_sits_19 (by decide) ?_
      refine lv_iload_n S.1 S.2.1 dX10_sits_20 rfl (lv_at hl 1 rfl) ?_
      refine lv_iconst (v := 1) S.1 S.2.1 dX10_sits_21 (by decide) ?_
      refine lv_isub S.1 S.2.1 dX10_sits_22 ?_
      refine z_callSr S K w hA (c_X10_within l D cs ad F A T a2 (0 : Int32) (a0 - (1 : Int32)) (f_X10_within a2 (0 : Int32) (a0 - (1 : Int32))) rfl) (cw_X10_90 S.2.2.2.2 ⟨Nat.le_of_ble_eq_true rfl, Nat.le_of_ble_eq_true rfl⟩) rfl hl.1 rfl (Nat.le_of_ble_eq_true rfl) ⟨Nat.zero_le _, Nat.zero_le _⟩ dX10_sits_23 (fun b12 H locs w => ?_)
      refine lv_if_ne (tgt := 31) S.1 S.2.1 dX10_sits_26 (by decide) (fun c13 => ?_) (fun c13 => ?_)
      · have h := og_f c13 h
        refine lv_aload_n S.1 S.2.1 dX10_sits_31 rfl (lv_at hl 0 rfl) ?_
        obtain ⟨q14, e15, h⟩ := og_b h
        refine z_callVv S K w hA (c_X10_weighNow l D cs ad F A T q14 e15) (cw_X10_111 S.2.2.2.2 ⟨Nat.le_of_ble_eq_true rfl, Nat.le_of_ble_eq_true rfl⟩) (z_recv K w 0 10 rfl rfl) rfl hl.1 rfl (Nat.le_of_ble_eq_true rfl) ⟨Nat.zero_le _, Nat.zero_le _⟩ dX10_sits_32 (fun H locs w => ?_)
        refine lv_aload_n S.1 S.2.1 dX10_sits_35 rfl (lv_at hl 0 rfl) ?_
        refine lv_iload_n S.1 S.2.1 dX10_sits_36 rfl (lv_at hl 1 rfl) ?_
        obtain ⟨q17, e18, h⟩ := og_b h
        refine z_callVr S K w hA (c_X10_cellsNeeded l D cs ad q14.1 q14.2.1 q14.2.2 a0 q17 e18) (cw_X10_226 S.2.2.2.2 ⟨Nat.le_of_ble_eq_true rfl, Nat.le_of_ble_eq_true rfl⟩) (z_recv K w 0 10 rfl rfl) rfl hl.1 rfl (Nat.le_of_ble_eq_true rfl) ⟨Nat.zero_le _, Nat.zero_le _⟩ dX10_sits_37 (fun b16 H locs w => ?_)
        refine lv_bipush (v := -9) S.1 S.2.1 dX10_sits_40 (by decide) ?_
        refine lv_icmp_ne (tgt := 48) S.1 S.2.1 dX10_sits_42 (by decide) (fun c19 => ?_) (fun c19 => ?_)
        · have h := og_f c19 h
          refine lv_iconst (v := 0) S.1 S.2.1 dX10_sits_48 (by decide) ?_
          refine lv_istore (lv' := [(4, .int (0 : Int32)), (0, .ref (ad 0)), (1, .int a0), (2, .int a1), (3, .int a2)]) S.1 S.2.1 dX10_sits_49 hl (by decide) rfl (fun ls hl => ?_)
          refine lv_iconst (v := 0) S.1 S.2.1 dX10_sits_51 (by decide) ?_
          refine lv_istore (lv' := [(5, .int (0 : Int32)), (4, .int (0 : Int32)), (0, .ref (ad 0)), (1, .int a0), (2, .int a1), (3, .int a2)]) S.1 S.2.1 dX10_sits_52 hl (by decide) rfl (fun ls hl => ?_)
          exact j54 1000 _ _ _ _ _ _ _ _ h _ _ _ (lv_sub hl [2, 3, 4, 5, 1, 0] rfl) w
        · have h := og_t c19 h
          refine lv_bipush (v := -9) S.1 S.2.1 dX10_sits_45 (by decide) ?_
          exact z_reti S w hr hlk dX10_sits_47 trivial (Option.some.inj h).symm
      · have h := og_t c13 h
        refine lv_iconst (v := -1) S.1 S.2.1 dX10_sits_29 (by decide) ?_
        exact z_reti S w hr hlk dX10_sits_30 trivial (Option.some.inj h).symm
set_option maxHeartbeats 4000000 in
set_option maxRecDepth 100000 in
theorem c_X10_wrongTo (l : Launch) (D : va_G) (cs : Nat → ClassId) (ad : Nat → Nat) (F : ZF) (A : ZA) (T : Int64) (a0 : Int32) (q : Int32) (h : f_X10_wrongTo a0 F A T = some q) : zMi l D cs (XWc cs ad 10 11) yX10_wrongTo cX10_wrongTo 3 (some .int) rm_X10_wrongTo ([.ref (ad 0), .int a0] : List Value) F A T ((q, F, A, T) : Int32 × ZS) True := by
  refine z_enteri (by decide) (Nat.le_of_ble_eq_true rfl) ?_
  intro p e s m below meth c A0 ls S K w hA hr hlk hl
  have S : CallFix p m c cX10_wrongTo 3 s ([.ref (ad 0), .int a0] : List Value).toArray zWs RX10 := S
  have hl : lv_has ls 3 [(0, .ref (ad 0)), (1, .int a0)] := hl
  unfold f_X10_wrongTo at h
  refine lv_aload_n S.1 S.2.1 dX10_wrongTo_0 rfl (lv_at hl 0 rfl) ?_
  refine gX_0_2 S K w w314 dX10_wrongTo_1 ?_
  refine gX_3_2 S K w w158 dX10_wrongTo_4 ?_
  refine lv_aload_n S.1 S.2.1 dX10_wrongTo_7 rfl (lv_at hl 0 rfl) ?_
  refine gX_0_2 S K w w314 dX10_wrongTo_8 ?_
  refine gX_3_2 S K w w158 dX10_wrongTo_11 ?_
  refine lv_aload_n S.1 S.2.1 dX10_wrongTo_14 rfl (lv_at hl 0 rfl) ?_
  refine gX_0_1 S K w w312 dX10_wrongTo_15 ?_
  refine gX_2_0 S K w w124 dX10_wrongTo_18 ?_
  refine lv_iload_n S.1 S.2.1 dX10_wrongTo_21 rfl (lv_at hl 1 rfl) ?_
  obtain ⟨g1, h⟩ := og_g h
  refine aX_14 S K w g1 dX10_wrongTo_22 ?_
  refine lv_imul S.1 S.2.1 dX10_wrongTo_23 ?_
  refine lv_bipush (v := 20) S.1 S.2.1 dX10_wrongTo_24 (by decide) ?_
  refine lv_idiv S.1 S.2.1 dX10_wrongTo_26 nz_20 ?_
  refine va_mmin S.1 S.2.1 (S.2.2.1.trans hl.1.symm) S.2.2.2.1 (S.2.2.2.2 _ w642) (S.2.2.2.2 _ w395) (S.2.2.2.2 _ w68) (S.2.2.2.2 _ w396) (Nat.le_of_ble_eq_true rfl) (Nat.le_of_ble_eq_true rfl) (Nat.zero_le _) (Nat.zero_le _) dX10_wrongTo_27 ?_
  refine lv_istore_n (lv' := [(2, .int (if (((F 12) * (A 14 (a0).toNatClampNeg)) / (20 : Int32)) < (F 12) then (((F 12) * (A 14 (a0).toNatClampNeg)) / (20 : Int32)) else (F 12))), (0, .ref (ad 0)), (1, .int a0)]) S.1 S.2.1 dX10_wrongTo_30 rfl hl (by decide) rfl (fun ls hl => ?_)
  refine lv_aload_n S.1 S.2.1 dX10_wrongTo_31 rfl (lv_at hl 1 rfl) ?_
  refine gX_0_1 S K w w312 dX10_wrongTo_32 ?_
  refine gX_2_1 S K w w126 dX10_wrongTo_35 ?_
  refine lv_iload_n S.1 S.2.1 dX10_wrongTo_38 rfl (lv_at hl 2 rfl) ?_
  obtain ⟨g2, h⟩ := og_g h
  refine aX_15 S K w g2 dX10_wrongTo_39 ?_
  refine lv_iload_n S.1 S.2.1 dX10_wrongTo_40 rfl (lv_at hl 0 rfl) ?_
  refine lv_isub S.1 S.2.1 dX10_wrongTo_41 ?_
  exact z_reti S w hr hlk dX10_wrongTo_42 trivial (by rw [← Option.some.inj h])
set_option maxHeartbeats 4000000 in
set_option maxRecDepth 100000 in
theorem c_X10_wronged (l : Launch) (D : va_G) (cs : Nat → ClassId) (ad : Nat → Nat) (F : ZF) (A : ZA) (T : Int64) (a0 : Int32) (q : (Int32 × ZS)) (h : f_X10_wronged a0 F A T = some q) : zMi l D cs (XWc cs ad 10 11) yX10_wronged cX10_wronged 4 (some .int) rm_X10_wronged ([.ref (ad 0), .int a0] : List Value) F A T q True := by
  refine z_enteri (by decide) (Nat.le_of_ble_eq_true rfl) ?_
  intro p e s m below meth c A0 ls S K w hA hr hlk hl
  have S : CallFix p m c cX10_wronged 4 s ([.ref (ad 0), .int a0] : List Value).toArray zWs RX10 := S
  have hl : lv_has ls 4 [(0, .ref (ad 0)), (1, .int a0)] := hl
  unfold f_X10_wronged at h
  have j16 : ∀ (x1 : Int32) (F : ZF) (A : ZA) (T : Int64), f_X10_wronged_16 x1 F A T = some q → ∀ (H : Heap) (locs : List Loc) (ls : Array Slot), lv_has ls 4 [(0, .ref (ad 0)), (1, .int x1)] → ZW D A0 s.heap (XWc cs ad 10 11 F A T) H locs → W p l e rm_X10_wronged s m ([.ref (ad 0), .int a0] : List Value).toArray below meth c H locs 0 0 (zQi (XWc cs ad 10 11) D A0 below ([.ref (ad 0), .int a0] : List Value) s q True) (F0 m 16 ls []) := by
    intro x1 F A T h H locs ls hl w
    unfold f_X10_wronged_16 at h
    have j34 : ∀ (n34 : Nat) (x2 x3 : Int32) (F : ZF) (A : ZA) (T : Int64), f_X10_wronged_34 n34 x2 x3 F A T = some q → ∀ (H : Heap) (locs : List Loc) (ls : Array Slot), lv_has ls 4 [(0, .ref (ad 0)), (2, .int x2), (3, .int x3)] → ZW D A0 s.heap (XWc cs ad 10 11 F A T) H locs → W p l e rm_X10_wronged s m ([.ref (ad 0), .int a0] : List Value).toArray below meth c H locs 0 0 (zQi (XWc cs ad 10 11) D A0 below ([.ref (ad 0), .int a0] : List Value) s q True) (F0 m 34 ls []) := by
      intro n34
      induction n34 with
      | zero =>
        intro x2 x3 F A T h H locs ls hl w
        have h : (none : Option (Int32 × ZS)) = some q := h
        cases h
      | succ n34 ih34 =>
        intro x2 x3 F A T h H locs ls hl w
        rw [f_X10_wronged_34_s] at h
        refine lv_iload_n S.1 S.2.1 dX10_wronged_34 rfl (lv_at hl 2 rfl) ?_
        refine lv_aload_n S.1 S.2.1 dX10_wronged_35 rfl (lv_at hl 0 rfl) ?_
        refine gX_0_11 S K w w330 dX10_wronged_36 ?_
        refine gX_10_0 S K w w227 dX10_wronged_39 ?_
        refine lv_icmp_ge (tgt := 62) S.1 S.2.1 dX10_wronged_42 (by decide) (fun c7 => ?_) (fun c7 => ?_)
        · have h := og_t c7 h
          refine lv_iload_n S.1 S.2.1 dX10_wronged_62 rfl (lv_at hl 1 rfl) ?_
          exact z_reti S w hr hlk dX10_wronged_63 trivial (Option.some.inj h).symm
        · have h := og_f c7 h
          refine lv_iload_n S.1 S.2.1 dX10_wronged_45 rfl (lv_at hl 1 rfl) ?_
          refine lv_aload_n S.1 S.2.1 dX10_wronged_46 rfl (lv_at hl 0 rfl) ?_
          refine lv_iload_n S.1 S.2.1 dX10_wronged_47 rfl (lv_at hl 2 rfl) ?_
          obtain ⟨q9, e10, h⟩ := og_b h
          refine z_callVr S K w hA (c_X10_wrongTo l D cs ad F A T x3 q9 e10) (cw_X10_229 S.2.2.2.2 ⟨Nat.le_of_ble_eq_true rfl, Nat.le_of_ble_eq_true rfl⟩) (z_recv K w 0 10 rfl rfl) rfl hl.1 rfl (Nat.le_of_ble_eq_true rfl) ⟨Nat.zero_le _, Nat.zero_le _⟩ dX10_wronged_48 (fun b8 H locs w => ?_)
          refine va_mabs S.1 S.2.1 (S.2.2.1.trans hl.1.symm) S.2.2.2.1 (S.2.2.2.2 _ w643) (S.2.2.2.2 _ w644) (S.2.2.2.2 _ w68) (S.2.2.2.2 _ w645) (Nat.le_of_ble_eq_true rfl) (Nat.le_of_ble_eq_true rfl) (Nat.zero_le _) (Nat.zero_le _) dX10_wronged_51 ?_
          refine lv_iadd S.1 S.2.1 dX10_wronged_54 ?_
          refine lv_istore_n (lv' := [(2, .int (x2 + (if 0 ≤ q9 then q9 else 0 - q9))), (0, .ref (ad 0)), (3, .int x3)]) S.1 S.2.1 dX10_wronged_55 rfl hl (by decide) rfl (fun ls hl => ?_)
          refine lv_iinc (v := (x3 + (1 : Int32))) (lv' := [(3, .int (x3 + (1 : Int32))), (2, .int (x2 + (if 0 ≤ q9 then q9 else 0 - q9))), (0, .ref (ad 0))]) S.1 S.2.1 dX10_wronged_56 hl (k := 2) rfl rfl (by decide) rfl (fun ls hl => ?_)
          refine lv_goto (tgt := 34) S.1 S.2.1 dX10_wronged_59 (by decide) ?_
          exact ih34 _ _ _ _ _ h _ _ _ (lv_sub hl [2, 1, 0] rfl) w
    refine lv_aload_n S.1 S.2.1 dX10_wronged_16 rfl (lv_at hl 0 rfl) ?_
    obtain ⟨q1, e2, h⟩ := og_b h
    refine z_callVv S K w hA (c_X10_weighNow l D cs ad F A T q1 e2) (cw_X10_111 S.2.2.2.2 ⟨Nat.le_of_ble_eq_true rfl, Nat.le_of_ble_eq_true rfl⟩) (z_recv K w 0 10 rfl rfl) rfl hl.1 rfl (Nat.le_of_ble_eq_true rfl) ⟨Nat.zero_le _, Nat.zero_le _⟩ dX10_wronged_17 (fun H locs w => ?_)
    refine lv_iload_n S.1 S.2.1 dX10_wronged_20 rfl (lv_at hl 1 rfl) ?_
    refine lv_if_lt (tgt := 30) S.1 S.2.1 dX10_wronged_21 (by decide) (fun c3 => ?_) (fun c3 => ?_)
    · have h := og_t c3 h
      refine lv_iconst (v := 0) S.1 S.2.1 dX10_wronged_30 (by decide) ?_
      refine lv_istore_n (lv' := [(2, .int (0 : Int32)), (0, .ref (ad 0)), (1, .int x1)]) S.1 S.2.1 dX10_wronged_31 rfl hl (by decide) rfl (fun ls hl => ?_)
      refine lv_iconst (v := 0) S.1 S.2.1 dX10_wronged_32 (by decide) ?_
      refine lv_istore_n (lv' := [(3, .int (0 : Int32)), (2, .int (0 : Int32)), (0, .ref (ad 0)), (1, .int x1)]) S.1 S.2.1 dX10_wronged_33 rfl hl (by decide) rfl (fun ls hl => ?_)
      exact j34 1000 _ _ _ _ _ h _ _ _ (lv_sub hl [2, 1, 0] rfl) w
    · have h := og_f c3 h
      refine lv_aload_n S.1 S.2.1 dX10_wronged_24 rfl (lv_at hl 0 rfl) ?_
      refine lv_iload_n S.1 S.2.1 dX10_wronged_25 rfl (lv_at hl 1 rfl) ?_
      obtain ⟨q5, e6, h⟩ := og_b h
      refine z_callVr S K w hA (c_X10_wrongTo l D cs ad q1.1 q1.2.1 q1.2.2 x1 q5 e6) (cw_X10_229 S.2.2.2.2 ⟨Nat.le_of_ble_eq_true rfl, Nat.le_of_ble_eq_true rfl⟩) (z_recv K w 0 10 rfl rfl) rfl hl.1 rfl (Nat.le_of_ble_eq_true rfl) ⟨Nat.zero_le _, Nat.zero_le _⟩ dX10_wronged_26 (fun b4 H locs w => ?_)
      exact z_reti S w hr hlk dX10_wronged_29 trivial (Option.some.inj h).symm
  refine lv_iload_n S.1 S.2.1 dX10_wronged_0 rfl (lv_at hl 1 rfl) ?_
  refine lv_iconst (v := -1) S.1 S.2.1 dX10_wronged_1 (by decide) ?_
  refine lv_icmp_eq (tgt := 16) S.1 S.2.1 dX10_wronged_2 (by decide) (fun c11 => ?_) (fun c11 => ?_)
  · have h := og_t c11 h
    exact j16 _ _ _ _ h _ _ _ (lv_sub hl [0, 1] rfl) w
  · have h := og_f c11 h
    refine lv_aload_n S.1 S.2.1 dX10_wronged_5 rfl (lv_at hl 0 rfl) ?_
    refine lv_iload_n S.1 S.2.1 dX10_wronged_6 rfl (lv_at hl 1 rfl) ?_
    refine z_callVr S K w hA (c_X10_isSuspect l D cs ad F A T a0 (f_X10_isSuspect a0 F A T) rfl) (cw_X10_107 S.2.2.2.2 ⟨Nat.le_of_ble_eq_true rfl, Nat.le_of_ble_eq_true rfl⟩) (z_recv K w 0 10 rfl rfl) rfl hl.1 rfl (Nat.le_of_ble_eq_true rfl) ⟨Nat.zero_le _, Nat.zero_le _⟩ dX10_wronged_7 (fun b12 H locs w => ?_)
    refine lv_if_ne (tgt := 16) S.1 S.2.1 dX10_wronged_10 (by decide) (fun c13 => ?_) (fun c13 => ?_)
    · have h := og_f c13 h
      exact j16 _ _ _ _ h _ _ _ (lv_sub hl [0, 1] rfl) w
    · have h := og_t c13 h
      refine lv_ldc (v := -1000000) S.1 S.2.1 S.2.2.2.1 (S.2.2.2.2 _ w491) dX10_wronged_13 ?_
      exact z_reti S w hr hlk dX10_wronged_15 trivial (Option.some.inj h).symm
set_option maxHeartbeats 4000000 in
set_option maxRecDepth 100000 in
theorem c_X10_book (l : Launch) (D : va_G) (cs : Nat → ClassId) (ad : Nat → Nat) (F : ZF) (A : ZA) (T : Int64) (a0 a1 : Int32) (q : (Int32 × ZS)) (h : f_X10_book a0 a1 F A T = some q) : zMi l D cs (XWc cs ad 10 11) yX10_book cX10_book 3 (some .int) rm_X10_book ([.ref (ad 0), .int a0, .int a1] : List Value) F A T q True := by
  refine z_enteri (by decide) (Nat.le_of_ble_eq_true rfl) ?_
  intro p e s m below meth c A0 ls S K w hA hr hlk hl
  have S : CallFix p m c cX10_book 3 s ([.ref (ad 0), .int a0, .int a1] : List Value).toArray zWs RX10 := S
  have hl : lv_has ls 3 [(0, .ref (ad 0)), (1, .int a0), (2, .int a1)] := hl
  unfold f_X10_book at h
  refine lv_aload_n S.1 S.2.1 dX10_book_0 rfl (lv_at hl 0 rfl) ?_
  refine lv_iload_n S.1 S.2.1 dX10_book_1 rfl (lv_at hl 1 rfl) ?_
  refine z_callVr S K w hA (c_X10_isSuspect l D cs ad F A T a0 (f_X10_isSuspect a0 F A T) rfl) (cw_X10_107 S.2.2.2.2 ⟨Nat.le_of_ble_eq_true rfl, Nat.le_of_ble_eq_true rfl⟩) (z_recv K w 0 10 rfl rfl) rfl hl.1 rfl (Nat.le_of_ble_eq_true rfl) ⟨Nat.zero_le _, Nat.zero_le _⟩ dX10_book_2 (fun b1 H locs w => ?_)
  refine lv_if_eq (tgt := 18) S.1 S.2.1 dX10_book_5 (by decide) (fun c2 => ?_) (fun c2 => ?_)
  · have h := og_t c2 h
    refine lv_iconst (v := -1) S.1 S.2.1 dX10_book_18 (by decide) ?_
    exact z_reti S w hr hlk dX10_book_19 trivial (Option.some.inj h).symm
  · have h := og_f c2 h
    refine lv_iload_n S.1 S.2.1 dX10_book_8 rfl (lv_at hl 2 rfl) ?_
    refine lv_iconst (v := 0) S.1 S.2.1 dX10_book_9 (by decide) ?_
    refine lv_bipush (v := 60) S.1 S.2.1 dX10_book_10 (by decide) ?_
    refine z_callSr S K w hA (c_X10_within l D cs ad F A T a1 (0 : Int32) (60 : Int32) (f_X10_within a1 (0 : Int32) (60 : Int32)) rfl) (cw_X10_90 S.2.2.2.2 ⟨Nat.le_of_ble_eq_true rfl, Nat.le_of_ble_eq_true rfl⟩) rfl hl.1 rfl (Nat.le_of_ble_eq_true rfl) ⟨Nat.zero_le _, Nat.zero_le _⟩ dX10_book_12 (fun b3 H locs w => ?_)
    refine lv_if_ne (tgt := 20) S.1 S.2.1 dX10_book_15 (by decide) (fun c4 => ?_) (fun c4 => ?_)
    · have h := og_f c4 h
      refine lv_aload_n S.1 S.2.1 dX10_book_20 rfl (lv_at hl 0 rfl) ?_
      refine gX_0_9 S K w w322 dX10_book_21 ?_
      refine lv_bipush (v := 6) S.1 S.2.1 dX10_book_24 (by decide) ?_
      refine lv_icmp_lt (tgt := 32) S.1 S.2.1 dX10_book_26 (by decide) (fun c5 => ?_) (fun c5 => ?_)
      · have h := og_t c5 h
        refine lv_aload_n S.1 S.2.1 dX10_book_32 rfl (lv_at hl 0 rfl) ?_
        refine gX_0_7 S K w w320 dX10_book_33 ?_
        refine lv_aload_n S.1 S.2.1 dX10_book_36 rfl (lv_at hl 0 rfl) ?_
        refine gX_0_9 S K w w322 dX10_book_37 ?_
        refine lv_iload_n S.1 S.2.1 dX10_book_40 rfl (lv_at hl 1 rfl) ?_
        obtain ⟨g6, h⟩ := og_g h
        refine sX_8 S K w g6 dX10_book_41 (fun H locs w => ?_)
        refine lv_aload_n S.1 S.2.1 dX10_book_42 rfl (lv_at hl 0 rfl) ?_
        refine gX_0_8 S K w w321 dX10_book_43 ?_
        refine lv_aload_n S.1 S.2.1 dX10_book_46 rfl (lv_at hl 0 rfl) ?_
        refine gX_0_9 S K w w322 dX10_book_47 ?_
        refine lv_iload_n S.1 S.2.1 dX10_book_50 rfl (lv_at hl 2 rfl) ?_
        obtain ⟨g7, h⟩ := og_g h
        refine sX_9 S K w g7 dX10_book_51 (fun H locs w => ?_)
        refine lv_aload_n S.1 S.2.1 dX10_book_52 rfl (lv_at hl 0 rfl) ?_
        refine lv_dup S.1 S.2.1 dX10_book_53 rfl ?_
        refine gX_0_9 S K w w322 dX10_book_54 ?_
        refine lv_iconst (v := 1) S.1 S.2.1 dX10_book_57 (by decide) ?_
        refine lv_iadd S.1 S.2.1 dX10_book_58 ?_
        refine pX_0_9 S K w w322 dX10_book_59 (fun H locs w => ?_)
        refine lv_aload_n S.1 S.2.1 dX10_book_62 rfl (lv_at hl 0 rfl) ?_
        refine gX_0_9 S K w w322 dX10_book_63 ?_
        exact z_reti S w hr hlk dX10_book_66 trivial (Option.some.inj h).symm
      · have h := og_f c5 h
        refine lv_bipush (v := -3) S.1 S.2.1 dX10_book_29 (by decide) ?_
        exact z_reti S w hr hlk dX10_book_31 trivial (Option.some.inj h).symm
    · have h := og_t c4 h
      refine lv_iconst (v := -1) S.1 S.2.1 dX10_book_18 (by decide) ?_
      exact z_reti S w hr hlk dX10_book_19 trivial (Option.some.inj h).symm
set_option maxHeartbeats 4000000 in
set_option maxRecDepth 100000 in
theorem c_X10_burn (l : Launch) (D : va_G) (cs : Nat → ClassId) (ad : Nat → Nat) (F : ZF) (A : ZA) (T : Int64) (q : (Int32 × ZS)) (h : f_X10_burn F A T = some q) : zMi l D cs (XWc cs ad 10 11) yX10_burn cX10_burn 2 (some .int) rm_X10_burn ([.ref (ad 0)] : List Value) F A T q True := by
  refine z_enteri (by decide) (Nat.le_of_ble_eq_true rfl) ?_
  intro p e s m below meth c A0 ls S K w hA hr hlk hl
  have S : CallFix p m c cX10_burn 2 s ([.ref (ad 0)] : List Value).toArray zWs RX10 := S
  have hl : lv_has ls 2 [(0, .ref (ad 0))] := hl
  unfold f_X10_burn at h
  refine lv_aload_n S.1 S.2.1 dX10_burn_0 rfl (lv_at hl 0 rfl) ?_
  refine gX_0_9 S K w w322 dX10_burn_1 ?_
  refine lv_istore_n (lv' := [(1, .int (F 0)), (0, .ref (ad 0))]) S.1 S.2.1 dX10_burn_4 rfl hl (by decide) rfl (fun ls hl => ?_)
  refine lv_aload_n S.1 S.2.1 dX10_burn_5 rfl (lv_at hl 1 rfl) ?_
  refine lv_iconst (v := 0) S.1 S.2.1 dX10_burn_6 (by decide) ?_
  refine pX_0_9 S K w w322 dX10_burn_7 (fun H locs w => ?_)
  refine lv_iload_n S.1 S.2.1 dX10_burn_10 rfl (lv_at hl 0 rfl) ?_
  exact z_reti S w hr hlk dX10_burn_11 trivial (Option.some.inj h).symm
set_option maxHeartbeats 4000000 in
set_option maxRecDepth 100000 in
theorem c_X10_fitsBook (l : Launch) (D : va_G) (cs : Nat → ClassId) (ad : Nat → Nat) (F : ZF) (A : ZA) (T : Int64) (a0 : Int32) (q : (Int32 × ZS)) (h : f_X10_fitsBook a0 F A T = some q) : zMi l D cs (XWc cs ad 10 11) yX10_fitsBook cX10_fitsBook 3 (some .boolean) rm_X10_fitsBook ([.ref (ad 0), .int a0] : List Value) F A T q (q.1 &&& 1 = q.1) := by
  refine z_enteri (by decide) (Nat.le_of_ble_eq_true rfl) ?_
  intro p e s m below meth c A0 ls S K w hA hr hlk hl
  have S : CallFix p m c cX10_fitsBook 3 s ([.ref (ad 0), .int a0] : List Value).toArray zWs RX10 := S
  have hl : lv_has ls 3 [(0, .ref (ad 0)), (1, .int a0)] := hl
  unfold f_X10_fitsBook at h
  have j28 : ∀ (n28 : Nat) (x2 : Int32) (F : ZF) (A : ZA) (T : Int64), f_X10_fitsBook_28 n28 x2 F A T = some q → ∀ (H : Heap) (locs : List Loc) (ls : Array Slot), lv_has ls 3 [(0, .ref (ad 0)), (2, .int x2)] → ZW D A0 s.heap (XWc cs ad 10 11 F A T) H locs → W p l e rm_X10_fitsBook s m ([.ref (ad 0), .int a0] : List Value).toArray below meth c H locs 0 0 (zQi (XWc cs ad 10 11) D A0 below ([.ref (ad 0), .int a0] : List Value) s q (q.1 &&& 1 = q.1)) (F0 m 28 ls []) := by
    intro n28
    induction n28 with
    | zero =>
      intro x2 F A T h H locs ls hl w
      have h : (none : Option (Int32 × ZS)) = some q := h
      cases h
    | succ n28 ih28 =>
      intro x2 F A T h H locs ls hl w
      rw [f_X10_fitsBook_28_s] at h
      refine lv_iload_n S.1 S.2.1 dX10_fitsBook_28 rfl (lv_at hl 1 rfl) ?_
      refine lv_aload_n S.1 S.2.1 dX10_fitsBook_29 rfl (lv_at hl 0 rfl) ?_
      refine gX_0_9 S K w w322 dX10_fitsBook_30 ?_
      refine lv_icmp_ge (tgt := 67) S.1 S.2.1 dX10_fitsBook_33 (by decide) (fun c1 => ?_) (fun c1 => ?_)
      · have h := og_t c1 h
        refine lv_iconst (v := 1) S.1 S.2.1 dX10_fitsBook_67 (by decide) ?_
        exact z_retz S w hr hlk dX10_fitsBook_68 (by decide) (Option.some.inj h).symm
      · have h := og_f c1 h
        refine lv_aload_n S.1 S.2.1 dX10_fitsBook_36 rfl (lv_at hl 0 rfl) ?_
        refine gX_0_1 S K w w312 dX10_fitsBook_37 ?_
        refine gX_2_1 S K w w126 dX10_fitsBook_40 ?_
        refine lv_aload_n S.1 S.2.1 dX10_fitsBook_43 rfl (lv_at hl 0 rfl) ?_
        refine gX_0_7 S K w w320 dX10_fitsBook_44 ?_
        refine lv_iload_n S.1 S.2.1 dX10_fitsBook_47 rfl (lv_at hl 1 rfl) ?_
        obtain ⟨g2, h⟩ := og_g h
        refine aX_8 S K w g2 dX10_fitsBook_48 ?_
        obtain ⟨g3, h⟩ := og_g h
        refine aX_15 S K w g3 dX10_fitsBook_49 ?_
        refine lv_aload_n S.1 S.2.1 dX10_fitsBook_50 rfl (lv_at hl 0 rfl) ?_
        refine gX_0_8 S K w w321 dX10_fitsBook_51 ?_
        refine lv_iload_n S.1 S.2.1 dX10_fitsBook_54 rfl (lv_at hl 1 rfl) ?_
        obtain ⟨g4, h⟩ := og_g h
        refine aX_9 S K w g4 dX10_fitsBook_55 ?_
        refine lv_icmp_eq (tgt := 61) S.1 S.2.1 dX10_fitsBook_56 (by decide) (fun c5 => ?_) (fun c5 => ?_)
        · have h := og_t c5 h
          refine lv_iinc (v := (x2 + (1 : Int32))) (lv' := [(2, .int (x2 + (1 : Int32))), (0, .ref (ad 0))]) S.1 S.2.1 dX10_fitsBook_61 hl (k := 1) rfl rfl (by decide) rfl (fun ls hl => ?_)
          refine lv_goto (tgt := 28) S.1 S.2.1 dX10_fitsBook_64 (by decide) ?_
          exact ih28 _ _ _ _ h _ _ _ (lv_sub hl [1, 0] rfl) w
        · have h := og_f c5 h
          refine lv_iconst (v := 0) S.1 S.2.1 dX10_fitsBook_59 (by decide) ?_
          exact z_retz S w hr hlk dX10_fitsBook_60 (by decide) (Option.some.inj h).symm
  refine lv_aload_n S.1 S.2.1 dX10_fitsBook_0 rfl (lv_at hl 0 rfl) ?_
  refine gX_0_1 S K w w312 dX10_fitsBook_1 ?_
  refine lv_aload_n S.1 S.2.1 dX10_fitsBook_4 rfl (lv_at hl 0 rfl) ?_
  refine gX_0_11 S K w w330 dX10_fitsBook_5 ?_
  refine lv_iload_n S.1 S.2.1 dX10_fitsBook_8 rfl (lv_at hl 1 rfl) ?_
  obtain ⟨q6, e7, h⟩ := og_b h
  refine z_callVv S K w hA (c_X5_weigh l D cs ad F A T a0 q6 e7) (cw_X10_260 S.2.2.2.2 ⟨Nat.le_of_ble_eq_true rfl, Nat.le_of_ble_eq_true rfl⟩) (z_recv K w 2 5 rfl rfl) rfl hl.1 rfl (Nat.le_of_ble_eq_true rfl) ⟨Nat.zero_le _, Nat.zero_le _⟩ dX10_fitsBook_9 (fun H locs w => ?_)
  refine lv_aload_n S.1 S.2.1 dX10_fitsBook_12 rfl (lv_at hl 0 rfl) ?_
  refine gX_0_1 S K w w312 dX10_fitsBook_13 ?_
  refine lv_aload_n S.1 S.2.1 dX10_fitsBook_16 rfl (lv_at hl 0 rfl) ?_
  refine gX_0_2 S K w w314 dX10_fitsBook_17 ?_
  refine gX_3_2 S K w w158 dX10_fitsBook_20 ?_
  obtain ⟨q8, e9, h⟩ := og_b h
  refine z_callVv S K w hA (c_X5_sentence l D cs ad q6.1 q6.2.1 q6.2.2 (q6.1 12) q8 e9) (cw_X10_263 S.2.2.2.2 ⟨Nat.le_of_ble_eq_true rfl, Nat.le_of_ble_eq_true rfl⟩) (z_recv K w 2 5 rfl rfl) rfl hl.1 rfl (Nat.le_of_ble_eq_true rfl) ⟨Nat.zero_le _, Nat.zero_le _⟩ dX10_fitsBook_23 (fun H locs w => ?_)
  refine lv_iconst (v := 0) S.1 S.2.1 dX10_fitsBook_26 (by decide) ?_
  refine lv_istore_n (lv' := [(2, .int (0 : Int32)), (0, .ref (ad 0)), (1, .int a0)]) S.1 S.2.1 dX10_fitsBook_27 rfl hl (by decide) rfl (fun ls hl => ?_)
  exact j28 1000 _ _ _ _ h _ _ _ (lv_sub hl [1, 0] rfl) w
set_option maxHeartbeats 4000000 in
set_option maxRecDepth 100000 in
theorem c_X10_books (l : Launch) (D : va_G) (cs : Nat → ClassId) (ad : Nat → Nat) (F : ZF) (A : ZA) (T : Int64) (a0 : Int32) (q : (Int32 × ZS)) (h : f_X10_books a0 F A T = some q) : zMi l D cs (XWc cs ad 10 11) yX10_books cX10_books 6 (some .int) rm_X10_books ([.ref (ad 0), .int a0] : List Value) F A T q True := by
  refine z_enteri (by decide) (Nat.le_of_ble_eq_true rfl) ?_
  intro p e s m below meth c A0 ls S K w hA hr hlk hl
  have S : CallFix p m c cX10_books 6 s ([.ref (ad 0), .int a0] : List Value).toArray zWs RX10 := S
  have hl : lv_has ls 6 [(0, .ref (ad 0)), (1, .int a0)] := hl
  unfold f_X10_books at h
  have j41 : ∀ (n41 : Nat) (x1 x2 x3 x4 x5 : Int32) (F : ZF) (A : ZA) (T : Int64), f_X10_books_41 n41 x1 x2 x3 x4 x5 F A T = some q → ∀ (H : Heap) (locs : List Loc) (ls : Array Slot), lv_has ls 6 [(0, .ref (ad 0)), (1, .int x1), (2, .int x2), (3, .int x3), (4, .int x4), (5, .int x5)] → ZW D A0 s.heap (XWc cs ad 10 11 F A T) H locs → W p l e rm_X10_books s m ([.ref (ad 0), .int a0] : List Value).toArray below meth c H locs 0 0 (zQi (XWc cs ad 10 11) D A0 below ([.ref (ad 0), .int a0] : List Value) s q True) (F0 m 41 ls []) := by
    intro n41
    induction n41 with
    | zero =>
      intro x1 x2 x3 x4 x5 F A T h H locs ls hl w
      have h : (none : Option (Int32 × ZS)) = some q := h
      cases h
    | succ n41 ih41 =>
      intro x1 x2 x3 x4 x5 F A T h H locs ls hl w
      rw [f_X10_books_41_s] at h
      have j78 : ∀ (x1 x2 x3 x4 x5 : Int32) (F : ZF) (A : ZA) (T : Int64), f_X10_books_78 (f_X10_books_41 n41) x1 x2 x3 x4 x5 F A T = some q → ∀ (H : Heap) (locs : List Loc) (ls : Array Slot), lv_has ls 6 [(0, .ref (ad 0)), (1, .int x1), (2, .int x2), (3, .int x3), (4, .int x4), (5, .int x5)] → ZW D A0 s.heap (XWc cs ad 10 11 F A T) H locs → W p l e rm_X10_books s m ([.ref (ad 0), .int a0] : List Value).toArray below meth c H locs 0 0 (zQi (XWc cs ad 10 11) D A0 below ([.ref (ad 0), .int a0] : List Value) s q True) (F0 m 78 ls []) := by
        intro x1 x2 x3 x4 x5 F A T h H locs ls hl w
        unfold f_X10_books_78 at h
        refine lv_iload S.1 S.2.1 dX10_books_78 (lv_at hl 4 rfl) ?_
        refine lv_iload S.1 S.2.1 dX10_books_80 (lv_at hl 5 rfl) ?_
        refine lv_iand S.1 S.2.1 dX10_books_82 ?_
        refine lv_istore (lv' := [(4, .int (x4 &&& x5)), (0, .ref (ad 0)), (1, .int x1), (2, .int x2), (3, .int x3), (5, .int x5)]) S.1 S.2.1 dX10_books_83 hl (by decide) rfl (fun ls hl => ?_)
        refine lv_iinc (v := (x2 + (1 : Int32))) (lv' := [(2, .int (x2 + (1 : Int32))), (4, .int (x4 &&& x5)), (0, .ref (ad 0)), (1, .int x1), (3, .int x3), (5, .int x5)]) S.1 S.2.1 dX10_books_85 hl (k := 3) rfl rfl (by decide) rfl (fun ls hl => ?_)
        refine lv_iinc (v := (x5 + (1 : Int32))) (lv' := [(5, .int (x5 + (1 : Int32))), (2, .int (x2 + (1 : Int32))), (4, .int (x4 &&& x5)), (0, .ref (ad 0)), (1, .int x1), (3, .int x3)]) S.1 S.2.1 dX10_books_88 hl (k := 5) rfl rfl (by decide) rfl (fun ls hl => ?_)
        refine lv_goto (tgt := 41) S.1 S.2.1 dX10_books_91 (by decide) ?_
        exact ih41 _ _ _ _ _ _ _ _ h _ _ _ (lv_sub hl [3, 4, 1, 5, 2, 0] rfl) w
      refine lv_iload S.1 S.2.1 dX10_books_41 (lv_at hl 5 rfl) ?_
      refine lv_iconst (v := 1) S.1 S.2.1 dX10_books_43 (by decide) ?_
      refine lv_aload_n S.1 S.2.1 dX10_books_44 rfl (lv_at hl 0 rfl) ?_
      refine gX_0_11 S K w w330 dX10_books_45 ?_
      refine gX_10_1 S K w w231 dX10_books_48 ?_
      refine lv_ishl S.1 S.2.1 dX10_books_51 ?_
      refine lv_icmp_ge (tgt := 94) S.1 S.2.1 dX10_books_52 (by decide) (fun c1 => ?_) (fun c1 => ?_)
      · have h := og_t c1 h
        refine lv_iload_n S.1 S.2.1 dX10_books_94 rfl (lv_at hl 1 rfl) ?_
        refine lv_if_ne (tgt := 100) S.1 S.2.1 dX10_books_95 (by decide) (fun c2 => ?_) (fun c2 => ?_)
        · have h := og_f c2 h
          refine lv_iload_n S.1 S.2.1 dX10_books_100 rfl (lv_at hl 1 rfl) ?_
          refine lv_iconst (v := 1) S.1 S.2.1 dX10_books_101 (by decide) ?_
          refine lv_icmp_ne (tgt := 109) S.1 S.2.1 dX10_books_102 (by decide) (fun c3 => ?_) (fun c3 => ?_)
          · have h := og_f c3 h
            refine lv_iload S.1 S.2.1 dX10_books_109 (lv_at hl 4 rfl) ?_
            exact z_reti S w hr hlk dX10_books_111 trivial (Option.some.inj h).symm
          · have h := og_t c3 h
            refine lv_iload_n S.1 S.2.1 dX10_books_105 rfl (lv_at hl 3 rfl) ?_
            refine lv_goto (tgt := 111) S.1 S.2.1 dX10_books_106 (by decide) ?_
            exact z_reti S w hr hlk dX10_books_111 trivial (Option.some.inj h).symm
        · have h := og_t c2 h
          refine lv_iload_n S.1 S.2.1 dX10_books_98 rfl (lv_at hl 2 rfl) ?_
          exact z_reti S w hr hlk dX10_books_99 trivial (Option.some.inj h).symm
      · have h := og_f c1 h
        refine lv_aload_n S.1 S.2.1 dX10_books_55 rfl (lv_at hl 0 rfl) ?_
        refine lv_iload S.1 S.2.1 dX10_books_56 (lv_at hl 5 rfl) ?_
        obtain ⟨q5, e6, h⟩ := og_b h
        refine z_callVi S K w hA (c_X10_fitsBook l D cs ad F A T x5 q5 e6) (cw_X10_240 S.2.2.2.2 ⟨Nat.le_of_ble_eq_true rfl, Nat.le_of_ble_eq_true rfl⟩) (z_recv K w 0 10 rfl rfl) rfl hl.1 rfl (Nat.le_of_ble_eq_true rfl) ⟨Nat.zero_le _, Nat.zero_le _⟩ dX10_books_58 (fun b4 H locs w => ?_)
        refine lv_if_ne (tgt := 67) S.1 S.2.1 dX10_books_61 (by decide) (fun c7 => ?_) (fun c7 => ?_)
        · have h := og_f c7 h
          refine lv_iload_n S.1 S.2.1 dX10_books_67 rfl (lv_at hl 2 rfl) ?_
          refine lv_if_ne (tgt := 78) S.1 S.2.1 dX10_books_68 (by decide) (fun c8 => ?_) (fun c8 => ?_)
          · have h := og_f c8 h
            exact j78 _ _ _ _ _ _ _ _ h _ _ _ (lv_sub hl [0, 1, 2, 3, 4, 5] rfl) w
          · have h := og_t c8 h
            refine lv_iload S.1 S.2.1 dX10_books_71 (lv_at hl 5 rfl) ?_
            refine lv_istore_n (lv' := [(3, .int x5), (0, .ref (ad 0)), (1, .int x1), (2, .int x2), (4, .int x4), (5, .int x5)]) S.1 S.2.1 dX10_books_73 rfl hl (by decide) rfl (fun ls hl => ?_)
            refine lv_iload S.1 S.2.1 dX10_books_74 (lv_at hl 5 rfl) ?_
            refine lv_istore (lv' := [(4, .int x5), (3, .int x5), (0, .ref (ad 0)), (1, .int x1), (2, .int x2), (5, .int x5)]) S.1 S.2.1 dX10_books_76 hl (by decide) rfl (fun ls hl => ?_)
            exact j78 _ _ _ _ _ _ _ _ h _ _ _ (lv_sub hl [2, 3, 4, 1, 0, 5] rfl) w
        · have h := og_t c7 h
          refine lv_goto (tgt := 88) S.1 S.2.1 dX10_books_64 (by decide) ?_
          refine lv_iinc (v := (x5 + (1 : Int32))) (lv' := [(5, .int (x5 + (1 : Int32))), (0, .ref (ad 0)), (1, .int x1), (2, .int x2), (3, .int x3), (4, .int x4)]) S.1 S.2.1 dX10_books_88 hl (k := 5) rfl rfl (by decide) rfl (fun ls hl => ?_)
          refine lv_goto (tgt := 41) S.1 S.2.1 dX10_books_91 (by decide) ?_
          exact ih41 _ _ _ _ _ _ _ _ h _ _ _ (lv_sub hl [1, 2, 3, 4, 5, 0] rfl) w
  refine lv_iload_n S.1 S.2.1 dX10_books_0 rfl (lv_at hl 1 rfl) ?_
  refine lv_iconst (v := 0) S.1 S.2.1 dX10_books_1 (by decide) ?_
  refine lv_iconst (v := 2) S.1 S.2.1 dX10_books_2 (by decide) ?_
  refine z_callSr S K w hA (c_X10_within l D cs ad F A T a0 (0 : Int32) (2 : Int32) (f_X10_within a0 (0 : Int32) (2 : Int32)) rfl) (cw_X10_90 S.2.2.2.2 ⟨Nat.le_of_ble_eq_true rfl, Nat.le_of_ble_eq_true rfl⟩) rfl hl.1 rfl (Nat.le_of_ble_eq_true rfl) ⟨Nat.zero_le _, Nat.zero_le _⟩ dX10_books_3 (fun b9 H locs w => ?_)
  refine lv_if_ne (tgt := 11) S.1 S.2.1 dX10_books_6 (by decide) (fun c10 => ?_) (fun c10 => ?_)
  · have h := og_f c10 h
    refine lv_aload_n S.1 S.2.1 dX10_books_11 rfl (lv_at hl 0 rfl) ?_
    refine gX_0_1 S K w w312 dX10_books_12 ?_
    refine lv_aload_n S.1 S.2.1 dX10_books_15 rfl (lv_at hl 0 rfl) ?_
    refine gX_0_11 S K w w330 dX10_books_16 ?_
    refine lv_aload_n S.1 S.2.1 dX10_books_19 rfl (lv_at hl 0 rfl) ?_
    refine gX_0_2 S K w w314 dX10_books_20 ?_
    refine gX_3_1 S K w w156 dX10_books_23 ?_
    obtain ⟨q11, e12, h⟩ := og_b h
    refine z_callVv S K w hA (c_X5_countHours l D cs ad F A T (F 11) q11 e12) (cw_X10_235 S.2.2.2.2 ⟨Nat.le_of_ble_eq_true rfl, Nat.le_of_ble_eq_true rfl⟩) (z_recv K w 2 5 rfl rfl) rfl hl.1 rfl (Nat.le_of_ble_eq_true rfl) ⟨Nat.zero_le _, Nat.zero_le _⟩ dX10_books_26 (fun H locs w => ?_)
    refine lv_iconst (v := 0) S.1 S.2.1 dX10_books_29 (by decide) ?_
    refine lv_istore_n (lv' := [(2, .int (0 : Int32)), (0, .ref (ad 0)), (1, .int a0)]) S.1 S.2.1 dX10_books_30 rfl hl (by decide) rfl (fun ls hl => ?_)
    refine lv_bipush (v := -9) S.1 S.2.1 dX10_books_31 (by decide) ?_
    refine lv_istore_n (lv' := [(3, .int (-9 : Int32)), (2, .int (0 : Int32)), (0, .ref (ad 0)), (1, .int a0)]) S.1 S.2.1 dX10_books_33 rfl hl (by decide) rfl (fun ls hl => ?_)
    refine lv_bipush (v := -9) S.1 S.2.1 dX10_books_34 (by decide) ?_
    refine lv_istore (lv' := [(4, .int (-9 : Int32)), (3, .int (-9 : Int32)), (2, .int (0 : Int32)), (0, .ref (ad 0)), (1, .int a0)]) S.1 S.2.1 dX10_books_36 hl (by decide) rfl (fun ls hl => ?_)
    refine lv_iconst (v := 0) S.1 S.2.1 dX10_books_38 (by decide) ?_
    refine lv_istore (lv' := [(5, .int (0 : Int32)), (4, .int (-9 : Int32)), (3, .int (-9 : Int32)), (2, .int (0 : Int32)), (0, .ref (ad 0)), (1, .int a0)]) S.1 S.2.1 dX10_books_39 hl (by decide) rfl (fun ls hl => ?_)
    exact j41 1000 _ _ _ _ _ _ _ _ h _ _ _ (lv_sub hl [4, 5, 3, 2, 1, 0] rfl) w
  · have h := og_t c10 h
    refine lv_iconst (v := -1) S.1 S.2.1 dX10_books_9 (by decide) ?_
    exact z_reti S w hr hlk dX10_books_10 trivial (Option.some.inj h).symm
