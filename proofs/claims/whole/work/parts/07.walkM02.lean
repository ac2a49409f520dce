set_option maxHeartbeats 4000000 in
set_option maxRecDepth 100000 in
theorem c_X11_burn (l : Launch) (D : va_G) (cs : Nat → ClassId) (ad : Nat → Nat) (F : ZF) (A : ZA) (T : Int64) (q : (Int32 × ZS)) (h : f_X11_burn F A T = some q) : zMi l D cs (MW cs ad) yX11_burn cX11_burn 2 (some .int) rm_X11_burn ([.ref (ad 0)] : List Value) F A T q True := by
  refine z_enteri (by decide) (Nat.le_of_ble_eq_true rfl) ?_
  intro p e s m below meth c A0 ls S K w hA hr hlk hl
  have S : CallFix p m c cX11_burn 2 s ([.ref (ad 0)] : List Value).toArray zWs RX11 := S
  have hl : lv_has ls 2 [(0, .ref (ad 0))] := hl
  unfold f_X11_burn at h
  refine lv_aload_n S.1 S.2.1 dX11_burn_0 rfl (lv_at hl 0 rfl) ?_
  refine gM_0_31 S K w w759 dX11_burn_1 ?_
  refine lv_istore_n (lv' := [(1, .int (F 10)), (0, .ref (ad 0))]) S.1 S.2.1 dX11_burn_4 rfl hl (by decide) rfl (fun ls hl => ?_)
  refine lv_aload_n S.1 S.2.1 dX11_burn_5 rfl (lv_at hl 1 rfl) ?_
  refine lv_iconst (v := 0) S.1 S.2.1 dX11_burn_6 (by decide) ?_
  refine pM_0_31 S K w w759 dX11_burn_7 (fun H locs w => ?_)
  refine lv_iload_n S.1 S.2.1 dX11_burn_10 rfl (lv_at hl 0 rfl) ?_
  exact z_reti S w hr hlk dX11_burn_11 trivial (Option.some.inj h).symm
set_option maxHeartbeats 4000000 in
set_option maxRecDepth 100000 in
theorem c_X11_books (l : Launch) (D : va_G) (cs : Nat → ClassId) (ad : Nat → Nat) (F : ZF) (A : ZA) (T : Int64) (a0 : Int32) (q : (Int32 × ZS)) (h : f_X11_books a0 F A T = some q) : zMi l D cs (MW cs ad) yX11_books cX11_books 8 (some .int) rm_X11_books ([.ref (ad 0), .int a0] : List Value) F A T q True := by
  refine z_enteri (by decide) (Nat.le_of_ble_eq_true rfl) ?_
  intro p e s m below meth c A0 ls S K w hA hr hlk hl
  have S : CallFix p m c cX11_books 8 s ([.ref (ad 0), .int a0] : List Value).toArray zWs RX11 := S
  have hl : lv_has ls 8 [(0, .ref (ad 0)), (1, .int a0)] := hl
  unfold f_X11_books at h
  have j33 : ∀ (n33 : Nat) (x1 x2 x3 x4 x5 : Int32) (F : ZF) (A : ZA) (T : Int64), f_X11_books_33 n33 x1 x2 x3 x4 x5 F A T = some q → ∀ (H : Heap) (locs : List Loc) (ls : Array Slot), lv_has ls 8 [(0, .ref (ad 0)), (1, .int x1), (2, .int x2), (3, .int x3), (4, .int x4), (5, .int x5)] → ZW D A0 s.heap (MW cs ad F A T) H locs → W p l e rm_X11_books s m ([.ref (ad 0), .int a0] : List Value).toArray below meth c H locs 0 0 (zQi (MW cs ad) D A0 below ([.ref (ad 0), .int a0] : List Value) s q True) (F0 m 33 ls []) := by
    intro n33
    induction n33 with
    | zero =>
      intro x1 x2 x3 x4 x5 F A T h H locs ls hl w
      have h : (none : Option (Int32 × ZS)) = some q := h
      cases h
    | succ n33 ih33 =>
      intro x1 x2 x3 x4 x5 F A T h H locs ls hl w
      rw [f_X11_books_33_s] at h
      have j54 : ∀ (n54 : Nat) (x1 x2 x3 x4 x5 x6 x7 : Int32) (F : ZF) (A : ZA) (T : Int64), f_X11_books_54 (f_X11_books_33 n33) n54 x1 x2 x3 x4 x5 x6 x7 F A T = some q → ∀ (H : Heap) (locs : List Loc) (ls : Array Slot), lv_has ls 8 [(0, .ref (ad 0)), (1, .int x1), (2, .int x2), (3, .int x3), (4, .int x4), (5, .int x5), (6, .int x6), (7, .int x7)] → ZW D A0 s.heap (MW cs ad F A T) H locs → W p l e rm_X11_books s m ([.ref (ad 0), .int a0] : List Value).toArray below meth c H locs 0 0 (zQi (MW cs ad) D A0 below ([.ref (ad 0), .int a0] : List Value) s q True) (F0 m 54 ls []) := by
        intro n54
        induction n54 with
        | zero =>
          intro x1 x2 x3 x4 x5 x6 x7 F A T h H locs ls hl w
          have h : (none : Option (Int32 × ZS)) = some q := h
          cases h
        | succ n54 ih54 =>
          intro x1 x2 x3 x4 x5 x6 x7 F A T h H locs ls hl w
          rw [f_X11_books_54_s] at h
          have j114 : ∀ (x1 x3 x4 x5 x6 y0 y1 : Int32) (F : ZF) (A : ZA) (T : Int64), f_X11_books_114 (f_X11_books_33 n33) x1 x3 x4 x5 x6 y0 y1 F A T = some q → ∀ (H : Heap) (locs : List Loc) (ls : Array Slot), lv_has ls 8 [(0, .ref (ad 0)), (1, .int x1), (3, .int x3), (4, .int x4), (5, .int x5), (6, .int x6)] → ZW D A0 s.heap (MW cs ad F A T) H locs → W p l e rm_X11_books s m ([.ref (ad 0), .int a0] : List Value).toArray below meth c H locs 0 0 (zQi (MW cs ad) D A0 below ([.ref (ad 0), .int a0] : List Value) s q True) (F0 m 114 ls [.int y0, .int y1]) := by
            intro x1 x3 x4 x5 x6 y0 y1 F A T h H locs ls hl w
            unfold f_X11_books_114 at h
            have j127 : ∀ (x1 x2 x4 x5 x6 y0 : Int32) (F : ZF) (A : ZA) (T : Int64), f_X11_books_127 (f_X11_books_33 n33) x1 x2 x4 x5 x6 y0 F A T = some q → ∀ (H : Heap) (locs : List Loc) (ls : Array Slot), lv_has ls 8 [(0, .ref (ad 0)), (1, .int x1), (2, .int x2), (4, .int x4), (5, .int x5), (6, .int x6)] → ZW D A0 s.heap (MW cs ad F A T) H locs → W p l e rm_X11_books s m ([.ref (ad 0), .int a0] : List Value).toArray below meth c H locs 0 0 (zQi (MW cs ad) D A0 below ([.ref (ad 0), .int a0] : List Value) s q True) (F0 m 127 ls [.int y0]) := by
              intro x1 x2 x4 x5 x6 y0 F A T h H locs ls hl w
              unfold f_X11_books_127 at h
              have j143 : ∀ (x1 x2 x3 x5 y0 y1 : Int32) (F : ZF) (A : ZA) (T : Int64), f_X11_books_143 (f_X11_books_33 n33) x1 x2 x3 x5 y0 y1 F A T = some q → ∀ (H : Heap) (locs : List Loc) (ls : Array Slot), lv_has ls 8 [(0, .ref (ad 0)), (1, .int x1), (2, .int x2), (3, .int x3), (5, .int x5)] → ZW D A0 s.heap (MW cs ad F A T) H locs → W p l e rm_X11_books s m ([.ref (ad 0), .int a0] : List Value).toArray below meth c H locs 0 0 (zQi (MW cs ad) D A0 below ([.ref (ad 0), .int a0] : List Value) s q True) (F0 m 143 ls [.int y0, .int y1]) := by
                intro x1 x2 x3 x5 y0 y1 F A T h H locs ls hl w
                unfold f_X11_books_143 at h
                refine lv_iand S.1 S.2.1 dX11_books_143 ?_
                refine lv_istore (lv' := [(4, .int (y1 &&& y0)), (0, .ref (ad 0)), (1, .int x1), (2, .int x2), (3, .int x3), (5, .int x5)]) S.1 S.2.1 dX11_books_144 hl (by decide) rfl (fun ls hl => ?_)
                refine lv_iinc (v := (x5 + (-1 : Int32))) (lv' := [(5, .int (x5 + (-1 : Int32))), (4, .int (y1 &&& y0)), (0, .ref (ad 0)), (1, .int x1), (2, .int x2), (3, .int x3)]) S.1 S.2.1 dX11_books_146 hl (k := 5) rfl rfl (by decide) rfl (fun ls hl => ?_)
                refine lv_goto (tgt := 33) S.1 S.2.1 dX11_books_149 (by decide) ?_
                exact ih33 _ _ _ _ _ _ _ _ h _ _ _ (lv_sub hl [2, 3, 4, 5, 1, 0] rfl) w
              refine lv_istore_n (lv' := [(3, .int y0), (0, .ref (ad 0)), (1, .int x1), (2, .int x2), (4, .int x4), (5, .int x5), (6, .int x6)]) S.1 S.2.1 dX11_books_127 rfl hl (by decide) rfl (fun ls hl => ?_)
              refine lv_iload S.1 S.2.1 dX11_books_128 (lv_at hl 4 rfl) ?_
              refine lv_iload S.1 S.2.1 dX11_books_130 (lv_at hl 6 rfl) ?_
              refine lv_if_eq (tgt := 140) S.1 S.2.1 dX11_books_132 (by decide) (fun c17 => ?_) (fun c17 => ?_)
              · have h := og_t c17 h
                refine lv_sipush (v := 255) S.1 S.2.1 dX11_books_140 (by decide) ?_
                exact j143 _ _ _ _ _ _ _ _ _ h _ _ _ (lv_sub hl [1, 2, 3, 0, 5] rfl) w
              · have h := og_f c17 h
                refine lv_iload S.1 S.2.1 dX11_books_135 (lv_at hl 5 rfl) ?_
                refine lv_goto (tgt := 143) S.1 S.2.1 dX11_books_137 (by decide) ?_
                exact j143 _ _ _ _ _ _ _ _ _ h _ _ _ (lv_sub hl [1, 2, 3, 0, 5] rfl) w
            refine lv_iadd S.1 S.2.1 dX11_books_114 ?_
            refine lv_istore_n (lv' := [(2, .int (y1 + y0)), (0, .ref (ad 0)), (1, .int x1), (3, .int x3), (4, .int x4), (5, .int x5), (6, .int x6)]) S.1 S.2.1 dX11_books_115 rfl hl (by decide) rfl (fun ls hl => ?_)
            refine lv_iload S.1 S.2.1 dX11_books_116 (lv_at hl 6 rfl) ?_
            refine lv_if_eq (tgt := 126) S.1 S.2.1 dX11_books_118 (by decide) (fun c16 => ?_) (fun c16 => ?_)
            · have h := og_t c16 h
              refine lv_iload_n S.1 S.2.1 dX11_books_126 rfl (lv_at hl 3 rfl) ?_
              exact j127 _ _ _ _ _ _ _ _ _ h _ _ _ (lv_sub hl [1, 2, 0, 4, 5, 6] rfl) w
            · have h := og_f c16 h
              refine lv_iload S.1 S.2.1 dX11_books_121 (lv_at hl 5 rfl) ?_
              refine lv_goto (tgt := 127) S.1 S.2.1 dX11_books_123 (by decide) ?_
              exact j127 _ _ _ _ _ _ _ _ _ h _ _ _ (lv_sub hl [1, 2, 0, 4, 5, 6] rfl) w
          refine lv_iload S.1 S.2.1 dX11_books_54 (lv_at hl 7 rfl) ?_
          refine lv_aload_n S.1 S.2.1 dX11_books_56 rfl (lv_at hl 0 rfl) ?_
          refine gM_0_31 S K w w759 dX11_books_57 ?_
          refine lv_icmp_ge (tgt := 103) S.1 S.2.1 dX11_books_60 (by decide) (fun c9 => ?_) (fun c9 => ?_)
          · have h := og_t c9 h
            refine lv_iload_n S.1 S.2.1 dX11_books_103 rfl (lv_at hl 2 rfl) ?_
            refine lv_iload S.1 S.2.1 dX11_books_104 (lv_at hl 6 rfl) ?_
            refine lv_if_eq (tgt := 113) S.1 S.2.1 dX11_books_106 (by decide) (fun c10 => ?_) (fun c10 => ?_)
            · have h := og_t c10 h
              refine lv_iconst (v := 0) S.1 S.2.1 dX11_books_113 (by decide) ?_
              exact j114 _ _ _ _ _ _ _ _ _ _ h _ _ _ (lv_sub hl [0, 1, 3, 4, 5, 6] rfl) w
            · have h := og_f c10 h
              refine lv_iconst (v := 1) S.1 S.2.1 dX11_books_109 (by decide) ?_
              refine lv_goto (tgt := 114) S.1 S.2.1 dX11_books_110 (by decide) ?_
              exact j114 _ _ _ _ _ _ _ _ _ _ h _ _ _ (lv_sub hl [0, 1, 3, 4, 5, 6] rfl) w
          · have h := og_f c9 h
            refine lv_iload S.1 S.2.1 dX11_books_63 (lv_at hl 6 rfl) ?_
            refine lv_if_eq (tgt := 94) S.1 S.2.1 dX11_books_65 (by decide) (fun c11 => ?_) (fun c11 => ?_)
            · have h := og_t c11 h
              refine lv_iconst (v := 0) S.1 S.2.1 dX11_books_94 (by decide) ?_
              refine lv_istore (lv' := [(6, .int (0 : Int32)), (0, .ref (ad 0)), (1, .int x1), (2, .int x2), (3, .int x3), (4, .int x4), (5, .int x5), (7, .int x7)]) S.1 S.2.1 dX11_books_95 hl (by decide) rfl (fun ls hl => ?_)
              refine lv_iinc (v := (x7 + (1 : Int32))) (lv' := [(7, .int (x7 + (1 : Int32))), (6, .int (0 : Int32)), (0, .ref (ad 0)), (1, .int x1), (2, .int x2), (3, .int x3), (4, .int x4), (5, .int x5)]) S.1 S.2.1 dX11_books_97 hl (k := 7) rfl rfl (by decide) rfl (fun ls hl => ?_)
              refine lv_goto (tgt := 54) S.1 S.2.1 dX11_books_100 (by decide) ?_
              exact ih54 _ _ _ _ _ _ _ _ _ _ h _ _ _ (lv_sub hl [2, 3, 4, 5, 6, 7, 1, 0] rfl) w
            · have h := og_f c11 h
              refine lv_aload_n S.1 S.2.1 dX11_books_68 rfl (lv_at hl 0 rfl) ?_
              refine gM_0_28 S K w w756 dX11_books_69 ?_
              refine lv_aload_n S.1 S.2.1 dX11_books_72 rfl (lv_at hl 0 rfl) ?_
              refine gM_0_29 S K w w757 dX11_books_73 ?_
              refine lv_iload S.1 S.2.1 dX11_books_76 (lv_at hl 7 rfl) ?_
              obtain ⟨g12, h⟩ := og_g h
              refine aM_19 S K w g12 dX11_books_78 ?_
              obtain ⟨g13, h⟩ := og_g h
              refine aM_18 S K w g13 dX11_books_79 ?_
              refine lv_aload_n S.1 S.2.1 dX11_books_80 rfl (lv_at hl 0 rfl) ?_
              refine gM_0_30 S K w w758 dX11_books_81 ?_
              refine lv_iload S.1 S.2.1 dX11_books_84 (lv_at hl 7 rfl) ?_
              obtain ⟨g14, h⟩ := og_g h
              refine aM_20 S K w g14 dX11_books_86 ?_
              refine lv_icmp_ne (tgt := 94) S.1 S.2.1 dX11_books_87 (by decide) (fun c15 => ?_) (fun c15 => ?_)
              · have h := og_f c15 h
                refine lv_iconst (v := 0) S.1 S.2.1 dX11_books_94 (by decide) ?_
                refine lv_istore (lv' := [(6, .int (0 : Int32)), (0, .ref (ad 0)), (1, .int x1), (2, .int x2), (3, .int x3), (4, .int x4), (5, .int x5), (7, .int x7)]) S.1 S.2.1 dX11_books_95 hl (by decide) rfl (fun ls hl => ?_)
                refine lv_iinc (v := (x7 + (1 : Int32))) (lv' := [(7, .int (x7 + (1 : Int32))), (6, .int (0 : Int32)), (0, .ref (ad 0)), (1, .int x1), (2, .int x2), (3, .int x3), (4, .int x4), (5, .int x5)]) S.1 S.2.1 dX11_books_97 hl (k := 7) rfl rfl (by decide) rfl (fun ls hl => ?_)
                refine lv_goto (tgt := 54) S.1 S.2.1 dX11_books_100 (by decide) ?_
                exact ih54 _ _ _ _ _ _ _ _ _ _ h _ _ _ (lv_sub hl [2, 3, 4, 5, 6, 7, 1, 0] rfl) w
              · have h := og_t c15 h
                refine lv_iconst (v := 1) S.1 S.2.1 dX11_books_90 (by decide) ?_
                refine lv_goto (tgt := 95) S.1 S.2.1 dX11_books_91 (by decide) ?_
                refine lv_istore (lv' := [(6, .int (1 : Int32)), (0, .ref (ad 0)), (1, .int x1), (2, .int x2), (3, .int x3), (4, .int x4), (5, .int x5), (7, .int x7)]) S.1 S.2.1 dX11_books_95 hl (by decide) rfl (fun ls hl => ?_)
                refine lv_iinc (v := (x7 + (1 : Int32))) (lv' := [(7, .int (x7 + (1 : Int32))), (6, .int (1 : Int32)), (0, .ref (ad 0)), (1, .int x1), (2, .int x2), (3, .int x3), (4, .int x4), (5, .int x5)]) S.1 S.2.1 dX11_books_97 hl (k := 7) rfl rfl (by decide) rfl (fun ls hl => ?_)
                refine lv_goto (tgt := 54) S.1 S.2.1 dX11_books_100 (by decide) ?_
                exact ih54 _ _ _ _ _ _ _ _ _ _ h _ _ _ (lv_sub hl [2, 3, 4, 5, 6, 7, 1, 0] rfl) w
      refine lv_iload S.1 S.2.1 dX11_books_33 (lv_at hl 5 rfl) ?_
      refine lv_if_lt (tgt := 152) S.1 S.2.1 dX11_books_35 (by decide) (fun c1 => ?_) (fun c1 => ?_)
      · have h := og_t c1 h
        refine lv_iload_n S.1 S.2.1 dX11_books_152 rfl (lv_at hl 1 rfl) ?_
        refine lv_if_ne (tgt := 160) S.1 S.2.1 dX11_books_153 (by decide) (fun c2 => ?_) (fun c2 => ?_)
        · have h := og_f c2 h
          refine lv_iload_n S.1 S.2.1 dX11_books_160 rfl (lv_at hl 2 rfl) ?_
          refine lv_if_ne (tgt := 169) S.1 S.2.1 dX11_books_161 (by decide) (fun c3 => ?_) (fun c3 => ?_)
          · have h := og_f c3 h
            refine lv_iload_n S.1 S.2.1 dX11_books_169 rfl (lv_at hl 1 rfl) ?_
            refine lv_iconst (v := 1) S.1 S.2.1 dX11_books_170 (by decide) ?_
            refine lv_icmp_ne (tgt := 178) S.1 S.2.1 dX11_books_171 (by decide) (fun c4 => ?_) (fun c4 => ?_)
            · have h := og_f c4 h
              refine lv_iload S.1 S.2.1 dX11_books_178 (lv_at hl 4 rfl) ?_
              exact z_reti S w hr hlk dX11_books_180 trivial (Option.some.inj h).symm
            · have h := og_t c4 h
              refine lv_iload_n S.1 S.2.1 dX11_books_174 rfl (lv_at hl 3 rfl) ?_
              refine lv_goto (tgt := 180) S.1 S.2.1 dX11_books_175 (by decide) ?_
              exact z_reti S w hr hlk dX11_books_180 trivial (Option.some.inj h).symm
          · have h := og_t c3 h
            refine lv_bipush (v := -9) S.1 S.2.1 dX11_books_164 (by decide) ?_
            refine lv_goto (tgt := 180) S.1 S.2.1 dX11_books_166 (by decide) ?_
            exact z_reti S w hr hlk dX11_books_180 trivial (Option.some.inj h).symm
        · have h := og_t c2 h
          refine lv_iload_n S.1 S.2.1 dX11_books_156 rfl (lv_at hl 2 rfl) ?_
          refine lv_goto (tgt := 180) S.1 S.2.1 dX11_books_157 (by decide) ?_
          exact z_reti S w hr hlk dX11_books_180 trivial (Option.some.inj h).symm
      · have h := og_f c1 h
        refine lv_aload_n S.1 S.2.1 dX11_books_38 rfl (lv_at hl 0 rfl) ?_
        refine lv_iload S.1 S.2.1 dX11_books_39 (lv_at hl 5 rfl) ?_
        obtain ⟨q5, e6, h⟩ := og_b h
        refine z_callVv S K w hA (c_X11_hold l D cs ad F A T x5 q5 e6) (cw_X11_147 S.2.2.2.2 ⟨Nat.le_of_ble_eq_true rfl, Nat.le_of_ble_eq_true rfl⟩) (z_recv K w 0 11 rfl rfl) rfl hl.1 rfl (Nat.le_of_ble_eq_true rfl) ⟨Nat.zero_le _, Nat.zero_le _⟩ dX11_books_41 (fun H locs w => ?_)
        refine lv_aload_n S.1 S.2.1 dX11_books_44 rfl (lv_at hl 0 rfl) ?_
        obtain ⟨q7, e8, h⟩ := og_b h
        refine z_callVv S K w hA (c_X11_serve l D cs ad q5.1 q5.2.1 q5.2.2 q7 e8) (cw_X11_150 S.2.2.2.2 ⟨Nat.le_of_ble_eq_true rfl, Nat.le_of_ble_eq_true rfl⟩) (z_recv K w 0 11 rfl rfl) rfl hl.1 rfl (Nat.le_of_ble_eq_true rfl) ⟨Nat.zero_le _, Nat.zero_le _⟩ dX11_books_45 (fun H locs w => ?_)
        refine lv_iconst (v := 1) S.1 S.2.1 dX11_books_48 (by decide) ?_
        refine lv_istore (lv' := [(6, .int (1 : Int32)), (0, .ref (ad 0)), (1, .int x1), (2, .int x2), (3, .int x3), (4, .int x4), (5, .int x5)]) S.1 S.2.1 dX11_books_49 hl (by decide) rfl (fun ls hl => ?_)
        refine lv_iconst (v := 0) S.1 S.2.1 dX11_books_51 (by decide) ?_
        refine lv_istore (lv' := [(7, .int (0 : Int32)), (6, .int (1 : Int32)), (0, .ref (ad 0)), (1, .int x1), (2, .int x2), (3, .int x3), (4, .int x4), (5, .int x5)]) S.1 S.2.1 dX11_books_52 hl (by decide) rfl (fun ls hl => ?_)
        exact j54 1000 _ _ _ _ _ _ _ _ _ _ h _ _ _ (lv_sub hl [2, 3, 4, 5, 6, 7, 1, 0] rfl) w
  refine lv_iload_n S.1 S.2.1 dX11_books_0 rfl (lv_at hl 1 rfl) ?_
  refine lv_iconst (v := 0) S.1 S.2.1 dX11_books_1 (by decide) ?_
  refine lv_iconst (v := 2) S.1 S.2.1 dX11_books_2 (by decide) ?_
  refine z_callSr S K w hA (c_X11_in l D cs ad F A T a0 (0 : Int32) (2 : Int32) (f_X11_in a0 (0 : Int32) (2 : Int32)) rfl) (cw_X11_72 S.2.2.2.2 ⟨Nat.le_of_ble_eq_true rfl, Nat.le_of_ble_eq_true rfl⟩) rfl hl.1 rfl (Nat.le_of_ble_eq_true rfl) ⟨Nat.zero_le _, Nat.zero_le _⟩ dX11_books_3 (fun b18 H locs w => ?_)
  refine lv_if_ne (tgt := 11) S.1 S.2.1 dX11_books_6 (by decide) (fun c19 => ?_) (fun c19 => ?_)
  · have h := og_f c19 h
    refine lv_iconst (v := 0) S.1 S.2.1 dX11_books_11 (by decide) ?_
    refine lv_istore_n (lv' := [(2, .int (0 : Int32)), (0, .ref (ad 0)), (1, .int a0)]) S.1 S.2.1 dX11_books_12 rfl hl (by decide) rfl (fun ls hl => ?_)
    refine lv_bipush (v := -9) S.1 S.2.1 dX11_books_13 (by decide) ?_
    refine lv_istore_n (lv' := [(3, .int (-9 : Int32)), (2, .int (0 : Int32)), (0, .ref (ad 0)), (1, .int a0)]) S.1 S.2.1 dX11_books_15 rfl hl (by decide) rfl (fun ls hl => ?_)
    refine lv_sipush (v := 255) S.1 S.2.1 dX11_books_16 (by decide) ?_
    refine lv_istore (lv' := [(4, .int (255 : Int32)), (3, .int (-9 : Int32)), (2, .int (0 : Int32)), (0, .ref (ad 0)), (1, .int a0)]) S.1 S.2.1 dX11_books_19 hl (by decide) rfl (fun ls hl => ?_)
    refine lv_iconst (v := 1) S.1 S.2.1 dX11_books_21 (by decide) ?_
    refine lv_aload_n S.1 S.2.1 dX11_books_22 rfl (lv_at hl 3 rfl) ?_
    refine gM_0_5 S K w w733 dX11_books_23 ?_
    refine lv_iconst (v := 0) S.1 S.2.1 dX11_books_26 (by decide) ?_
    refine aM_4 S K w gk_0_2 dX11_books_27 ?_
    refine lv_ishl S.1 S.2.1 dX11_books_28 ?_
    refine lv_iconst (v := 1) S.1 S.2.1 dX11_books_29 (by decide) ?_
    refine lv_isub S.1 S.2.1 dX11_books_30 ?_
    refine lv_istore (lv' := [(5, .int (((1 : Int32) <<< ((A 4 ((0 : Int32)).toNatClampNeg) &&& 31)) - (1 : Int32))), (4, .int (255 : Int32)), (3, .int (-9 : Int32)), (2, .int (0 : Int32)), (0, .ref (ad 0)), (1, .int a0)]) S.1 S.2.1 dX11_books_31 hl (by decide) rfl (fun ls hl => ?_)
    exact j33 1000 _ _ _ _ _ _ _ _ h _ _ _ (lv_sub hl [4, 5, 3, 2, 1, 0] rfl) w
  · have h := og_t c19 h
    refine lv_iconst (v := -1) S.1 S.2.1 dX11_books_9 (by decide) ?_
    exact z_reti S w hr hlk dX11_books_10 trivial (Option.some.inj h).symm
set_option maxHeartbeats 4000000 in
set_option maxRecDepth 100000 in
theorem c_X11_innocent (l : Launch) (D : va_G) (cs : Nat → ClassId) (ad : Nat → Nat) (F : ZF) (A : ZA) (T : Int64) (a0 : Int32) (q : Int32) (h : f_X11_innocent a0 F A T = some q) : zMi l D cs (MW cs ad) yX11_innocent cX11_innocent 4 (some .int) rm_X11_innocent ([.ref (ad 0), .int a0] : List Value) F A T ((q, F, A, T) : Int32 × ZS) True := by
  refine z_enteri (by decide) (Nat.le_of_ble_eq_true rfl) ?_
  intro p e s m below meth c A0 ls S K w hA hr hlk hl
  have S : CallFix p m c cX11_innocent 4 s ([.ref (ad 0), .int a0] : List Value).toArray zWs RX11 := S
  have hl : lv_has ls 4 [(0, .ref (ad 0)), (1, .int a0)] := hl
  unfold f_X11_innocent at h
  have j14 : ∀ (n14 : Nat) (x1 x2 x3 : Int32), f_X11_innocent_14 F A T n14 x1 x2 x3 = some q → ∀ (H : Heap) (locs : List Loc) (ls : Array Slot), lv_has ls 4 [(0, .ref (ad 0)), (1, .int x1), (2, .int x2), (3, .int x3)] → ZW D A0 s.heap (MW cs ad F A T) H locs → W p l e rm_X11_innocent s m ([.ref (ad 0), .int a0] : List Value).toArray below meth c H locs 0 0 (zQi (MW cs ad) D A0 below ([.ref (ad 0), .int a0] : List Value) s ((q, F, A, T) : Int32 × ZS) True) (F0 m 14 ls []) := by
    intro n14
    induction n14 with
    | zero =>
      intro x1 x2 x3 h H locs ls hl w
      have h : (none : Option Int32) = some q := h
      cases h
    | succ n14 ih14 =>
      intro x1 x2 x3 h H locs ls hl w
      rw [f_X11_innocent_14_s] at h
      have j41 : ∀ (x1 x3 y0 y1 : Int32), f_X11_innocent_41 F A T (f_X11_innocent_14 F A T n14) x1 x3 y0 y1 = some q → ∀ (H : Heap) (locs : List Loc) (ls : Array Slot), lv_has ls 4 [(0, .ref (ad 0)), (1, .int x1), (3, .int x3)] → ZW D A0 s.heap (MW cs ad F A T) H locs → W p l e rm_X11_innocent s m ([.ref (ad 0), .int a0] : List Value).toArray below meth c H locs 0 0 (zQi (MW cs ad) D A0 below ([.ref (ad 0), .int a0] : List Value) s ((q, F, A, T) : Int32 × ZS) True) (F0 m 41 ls [.int y0, .int y1]) := by
        intro x1 x3 y0 y1 h H locs ls hl w
        unfold f_X11_innocent_41 at h
        refine lv_iadd S.1 S.2.1 dX11_innocent_41 ?_
        refine lv_istore_n (lv' := [(2, .int (y1 + y0)), (0, .ref (ad 0)), (1, .int x1), (3, .int x3)]) S.1 S.2.1 dX11_innocent_42 rfl hl (by decide) rfl (fun ls hl => ?_)
        refine lv_iinc (v := (x3 + (1 : Int32))) (lv' := [(3, .int (x3 + (1 : Int32))), (2, .int (y1 + y0)), (0, .ref (ad 0)), (1, .int x1)]) S.1 S.2.1 dX11_innocent_43 hl (k := 3) rfl rfl (by decide) rfl (fun ls hl => ?_)
        refine lv_goto (tgt := 14) S.1 S.2.1 dX11_innocent_46 (by decide) ?_
        exact ih14 _ _ _ h _ _ _ (lv_sub hl [2, 3, 1, 0] rfl) w
      refine lv_iload_n S.1 S.2.1 dX11_innocent_14 rfl (lv_at hl 3 rfl) ?_
      refine lv_iconst (v := 1) S.1 S.2.1 dX11_innocent_15 (by decide) ?_
      refine lv_aload_n S.1 S.2.1 dX11_innocent_16 rfl (lv_at hl 0 rfl) ?_
      refine gM_0_5 S K w w733 dX11_innocent_17 ?_
      refine lv_iconst (v := 0) S.1 S.2.1 dX11_innocent_20 (by decide) ?_
      refine aM_4 S K w gk_0_2 dX11_innocent_21 ?_
      refine lv_ishl S.1 S.2.1 dX11_innocent_22 ?_
      refine lv_icmp_ge (tgt := 49) S.1 S.2.1 dX11_innocent_23 (by decide) (fun c1 => ?_) (fun c1 => ?_)
      · have h := og_t c1 h
        refine lv_iload_n S.1 S.2.1 dX11_innocent_49 rfl (lv_at hl 2 rfl) ?_
        exact z_reti S w hr hlk dX11_innocent_50 trivial (by rw [← Option.some.inj h])
      · have h := og_f c1 h
        refine lv_iload_n S.1 S.2.1 dX11_innocent_26 rfl (lv_at hl 2 rfl) ?_
        refine lv_aload_n S.1 S.2.1 dX11_innocent_27 rfl (lv_at hl 0 rfl) ?_
        refine lv_iload_n S.1 S.2.1 dX11_innocent_28 rfl (lv_at hl 1 rfl) ?_
        refine lv_iload_n S.1 S.2.1 dX11_innocent_29 rfl (lv_at hl 3 rfl) ?_
        obtain ⟨q3, e4, h⟩ := og_b h
        refine z_callVr S K w hA (c_X11_heldBy l D cs ad F A T x1 x3 q3 e4) (cw_X11_144 S.2.2.2.2 ⟨Nat.le_of_ble_eq_true rfl, Nat.le_of_ble_eq_true rfl⟩) (z_recv K w 0 11 rfl rfl) rfl hl.1 rfl (Nat.le_of_ble_eq_true rfl) ⟨Nat.zero_le _, Nat.zero_le _⟩ dX11_innocent_30 (fun b2 H locs w => ?_)
        refine lv_if_ne (tgt := 40) S.1 S.2.1 dX11_innocent_33 (by decide) (fun c5 => ?_) (fun c5 => ?_)
        · have h := og_f c5 h
          refine lv_iconst (v := 0) S.1 S.2.1 dX11_innocent_40 (by decide) ?_
          exact j41 _ _ _ _ h _ _ _ (lv_sub hl [0, 1, 3] rfl) w
        · have h := og_t c5 h
          refine lv_iconst (v := 1) S.1 S.2.1 dX11_innocent_36 (by decide) ?_
          refine lv_goto (tgt := 41) S.1 S.2.1 dX11_innocent_37 (by decide) ?_
          exact j41 _ _ _ _ h _ _ _ (lv_sub hl [0, 1, 3] rfl) w
  refine lv_aload_n S.1 S.2.1 dX11_innocent_0 rfl (lv_at hl 0 rfl) ?_
  refine lv_iload_n S.1 S.2.1 dX11_innocent_1 rfl (lv_at hl 1 rfl) ?_
  refine z_callVr S K w hA (c_X11_isSuspect l D cs ad F A T a0 (f_X11_isSuspect a0 F A T) rfl) (cw_X11_153 S.2.2.2.2 ⟨Nat.le_of_ble_eq_true rfl, Nat.le_of_ble_eq_true rfl⟩) (z_recv K w 0 11 rfl rfl) rfl hl.1 rfl (Nat.le_of_ble_eq_true rfl) ⟨Nat.zero_le _, Nat.zero_le _⟩ dX11_innocent_2 (fun b6 H locs w => ?_)
  refine lv_if_ne (tgt := 10) S.1 S.2.1 dX11_innocent_5 (by decide) (fun c7 => ?_) (fun c7 => ?_)
  · have h := og_f c7 h
    refine lv_iconst (v := 0) S.1 S.2.1 dX11_innocent_10 (by decide) ?_
    refine lv_istore_n (lv' := [(2, .int (0 : Int32)), (0, .ref (ad 0)), (1, .int a0)]) S.1 S.2.1 dX11_innocent_11 rfl hl (by decide) rfl (fun ls hl => ?_)
    refine lv_iconst (v := 0) S.1 S.2.1 dX11_innocent_12 (by decide) ?_
    refine lv_istore_n (lv' := [(3, .int (0 : Int32)), (2, .int (0 : Int32)), (0, .ref (ad 0)), (1, .int a0)]) S.1 S.2.1 dX11_innocent_13 rfl hl (by decide) rfl (fun ls hl => ?_)
    exact j14 1000 _ _ _ h _ _ _ (lv_sub hl [2, 3, 1, 0] rfl) w
  · have h := og_t c7 h
    refine lv_iconst (v := -1) S.1 S.2.1 dX11_innocent_8 (by decide) ?_
    exact z_reti S w hr hlk dX11_innocent_9 trivial (by rw [← Option.some.inj h])
set_option maxHeartbeats 4000000 in
set_option maxRecDepth 100000 in
theorem c_X11_copy (l : Launch) (D : va_G) (cs : Nat → ClassId) (ad : Nat → Nat) (F : ZF) (A : ZA) (T : Int64) (a0 a1 : Int32) (q : ZS) (h : f_X11_copy a0 a1 F A T = some q) : zMv l D cs (MW cs ad) yX11_copy cX11_copy 4 none rm_X11_copy ([.ref (ad 0), .int a0, .int a1] : List Value) F A T q := by
  refine z_enterv (by decide) (Nat.le_of_ble_eq_true rfl) ?_
  intro p e s m below meth c A0 ls S K w hA hr hlk hl
  have S : CallFix p m c cX11_copy 4 s ([.ref (ad 0), .int a0, .int a1] : List Value).toArray zWs RX11 := S
  have hl : lv_has ls 4 [(0, .ref (ad 0)), (1, .int a0), (2, .int a1)] := hl
  unfold f_X11_copy at h
  have j2 : ∀ (n2 : Nat) (x1 x2 x3 : Int32) (F : ZF) (A : ZA) (T : Int64), f_X11_copy_2 n2 x1 x2 x3 F A T = some q → ∀ (H : Heap) (locs : List Loc) (ls : Array Slot), lv_has ls 4 [(0, .ref (ad 0)), (1, .int x1), (2, .int x2), (3, .int x3)] → ZW D A0 s.heap (MW cs ad F A T) H locs → W p l e rm_X11_copy s m ([.ref (ad 0), .int a0, .int a1] : List Value).toArray below meth c H locs 0 0 (zQv (MW cs ad) D A0 below ([.ref (ad 0), .int a0, .int a1] : List Value) s q) (F0 m 2 ls []) := by
    intro n2
    induction n2 with
    | zero =>
      intro x1 x2 x3 F A T h H locs ls hl w
      have h : (none : Option ZS) = some q := h
      cases h
    | succ n2 ih2 =>
      intro x1 x2 x3 F A T h H locs ls hl w
      rw [f_X11_copy_2_s] at h
      refine lv_iload_n S.1 S.2.1 dX11_copy_2 rfl (lv_at hl 3 rfl) ?_
      refine lv_bipush (v := 34) S.1 S.2.1 dX11_copy_3 (by decide) ?_
      refine lv_icmp_ge (tgt := 30) S.1 S.2.1 dX11_copy_5 (by decide) (fun c1 => ?_) (fun c1 => ?_)
      · have h := og_t c1 h
        exact z_retv S w hr hlk dX11_copy_30 (Option.some.inj h).symm
      · have h := og_f c1 h
        refine lv_aload_n S.1 S.2.1 dX11_copy_8 rfl (lv_at hl 0 rfl) ?_
        refine gM_0_24 S K w w752 dX11_copy_9 ?_
        refine lv_iload_n S.1 S.2.1 dX11_copy_12 rfl (lv_at hl 2 rfl) ?_
        refine lv_iload_n S.1 S.2.1 dX11_copy_13 rfl (lv_at hl 3 rfl) ?_
        refine lv_iadd S.1 S.2.1 dX11_copy_14 ?_
        refine lv_aload_n S.1 S.2.1 dX11_copy_15 rfl (lv_at hl 0 rfl) ?_
        refine gM_0_24 S K w w752 dX11_copy_16 ?_
        refine lv_iload_n S.1 S.2.1 dX11_copy_19 rfl (lv_at hl 1 rfl) ?_
        refine lv_iload_n S.1 S.2.1 dX11_copy_20 rfl (lv_at hl 3 rfl) ?_
        refine lv_iadd S.1 S.2.1 dX11_copy_21 ?_
        obtain ⟨g2, h⟩ := og_g h
        refine aM_15 S K w g2 dX11_copy_22 ?_
        obtain ⟨g3, h⟩ := og_g h
        refine sM_15 S K w g3 dX11_copy_23 (fun H locs w => ?_)
        refine lv_iinc (v := (x3 + (1 : Int32))) (lv' := [(3, .int (x3 + (1 : Int32))), (0, .ref (ad 0)), (1, .int x1), (2, .int x2)]) S.1 S.2.1 dX11_copy_24 hl (k := 3) rfl rfl (by decide) rfl (fun ls hl => ?_)
        refine lv_goto (tgt := 2) S.1 S.2.1 dX11_copy_27 (by decide) ?_
        exact ih2 _ _ _ _ _ _ h _ _ _ (lv_sub hl [1, 2, 3, 0] rfl) w
  refine lv_iconst (v := 0) S.1 S.2.1 dX11_copy_0 (by decide) ?_
  refine lv_istore_n (lv' := [(3, .int (0 : Int32)), (0, .ref (ad 0)), (1, .int a0), (2, .int a1)]) S.1 S.2.1 dX11_copy_1 rfl hl (by decide) rfl (fun ls hl => ?_)
  exact j2 1000 _ _ _ _ _ _ h _ _ _ (lv_sub hl [1, 2, 3, 0] rfl) w
set_option maxHeartbeats 4000000 in
set_option maxRecDepth 100000 in
theorem c_X11_keep (l : Launch) (D : va_G) (cs : Nat → ClassId) (ad : Nat → Nat) (F : ZF) (A : ZA) (T : Int64) (a0 : Int32) (q : (Int32 × ZS)) (h : f_X11_keep a0 F A T = some q) : zMi l D cs (MW cs ad) yX11_keep cX11_keep 2 (some .int) rm_X11_keep ([.ref (ad 0), .int a0] : List Value) F A T q True := by
  refine z_enteri (by decide) (Nat.le_of_ble_eq_true rfl) ?_
  intro p e s m below meth c A0 ls S K w hA hr hlk hl
  have S : CallFix p m c cX11_keep 2 s ([.ref (ad 0), .int a0] : List Value).toArray zWs RX11 := S
  have hl : lv_has ls 2 [(0, .ref (ad 0)), (1, .int a0)] := hl
  unfold f_X11_keep at h
  refine lv_iload_n S.1 S.2.1 dX11_keep_0 rfl (lv_at hl 1 rfl) ?_
  refine lv_iconst (v := 0) S.1 S.2.1 dX11_keep_1 (by decide) ?_
  refine lv_iconst (v := 1) S.1 S.2.1 dX11_keep_2 (by decide) ?_
  refine z_callSr S K w hA (c_X11_in l D cs ad F A T a0 (0 : Int32) (1 : Int32) (f_X11_in a0 (0 : Int32) (1 : Int32)) rfl) (cw_X11_72 S.2.2.2.2 ⟨Nat.le_of_ble_eq_true rfl, Nat.le_of_ble_eq_true rfl⟩) rfl hl.1 rfl (Nat.le_of_ble_eq_true rfl) ⟨Nat.zero_le _, Nat.zero_le _⟩ dX11_keep_3 (fun b1 H locs w => ?_)
  refine lv_if_ne (tgt := 11) S.1 S.2.1 dX11_keep_6 (by decide) (fun c2 => ?_) (fun c2 => ?_)
  · have h := og_f c2 h
    refine lv_aload_n S.1 S.2.1 dX11_keep_11 rfl (lv_at hl 0 rfl) ?_
    refine lv_iconst (v := 0) S.1 S.2.1 dX11_keep_12 (by decide) ?_
    refine lv_bipush (v := 34) S.1 S.2.1 dX11_keep_13 (by decide) ?_
    refine lv_iconst (v := 1) S.1 S.2.1 dX11_keep_15 (by decide) ?_
    refine lv_iload_n S.1 S.2.1 dX11_keep_16 rfl (lv_at hl 1 rfl) ?_
    refine lv_iadd S.1 S.2.1 dX11_keep_17 ?_
    refine lv_imul S.1 S.2.1 dX11_keep_18 ?_
    obtain ⟨q3, e4, h⟩ := og_b h
    refine z_callVv S K w hA (c_X11_copy l D cs ad F A T (0 : Int32) ((34 : Int32) * ((1 : Int32) + a0)) q3 e4) (cw_X11_228 S.2.2.2.2 ⟨Nat.le_of_ble_eq_true rfl, Nat.le_of_ble_eq_true rfl⟩) (z_recv K w 0 11 rfl rfl) rfl hl.1 rfl (Nat.le_of_ble_eq_true rfl) ⟨Nat.zero_le _, Nat.zero_le _⟩ dX11_keep_19 (fun H locs w => ?_)
    refine lv_aload_n S.1 S.2.1 dX11_keep_22 rfl (lv_at hl 0 rfl) ?_
    refine gM_0_25 S K w w753 dX11_keep_23 ?_
    refine lv_iload_n S.1 S.2.1 dX11_keep_26 rfl (lv_at hl 1 rfl) ?_
    refine lv_iconst (v := 1) S.1 S.2.1 dX11_keep_27 (by decide) ?_
    obtain ⟨g5, h⟩ := og_g h
    refine sM_16 S K w g5 dX11_keep_28 (fun H locs w => ?_)
    refine lv_aload_n S.1 S.2.1 dX11_keep_29 rfl (lv_at hl 0 rfl) ?_
    obtain ⟨q7, e8, h⟩ := og_b h
    refine z_callVi S K w hA (c_X11_theCase l D cs ad q3.1 (zst q3.2.1 16 (a0).toNatClampNeg (vp_nar .boolean (1 : Int32))) q3.2.2 q7 e8) (cw_X11_169 S.2.2.2.2 ⟨Nat.le_of_ble_eq_true rfl, Nat.le_of_ble_eq_true rfl⟩) (z_recv K w 0 11 rfl rfl) rfl hl.1 rfl (Nat.le_of_ble_eq_true rfl) ⟨Nat.zero_le _, Nat.zero_le _⟩ dX11_keep_30 (fun b6 H locs w => ?_)
    exact z_reti S w hr hlk dX11_keep_33 trivial (Option.some.inj h).symm
  · have h := og_t c2 h
    refine lv_iconst (v := -1) S.1 S.2.1 dX11_keep_9 (by decide) ?_
    exact z_reti S w hr hlk dX11_keep_10 trivial (Option.some.inj h).symm
set_option maxHeartbeats 4000000 in
set_option maxRecDepth 100000 in
theorem c_X11_back (l : Launch) (D : va_G) (cs : Nat → ClassId) (ad : Nat → Nat) (F : ZF) (A : ZA) (T : Int64) (a0 : Int32) (q : (Int32 × ZS)) (h : f_X11_back a0 F A T = some q) : zMi l D cs (MW cs ad) yX11_back cX11_back 2 (some .int) rm_X11_back ([.ref (ad 0), .int a0] : List Value) F A T q True := by
  refine z_enteri (by decide) (Nat.le_of_ble_eq_true rfl) ?_
  intro p e s m below meth c A0 ls S K w hA hr hlk hl
  have S : CallFix p m c cX11_back 2 s ([.ref (ad 0), .int a0] : List Value).toArray zWs RX11 := S
  have hl : lv_has ls 2 [(0, .ref (ad 0)), (1, .int a0)] := hl
  unfold f_X11_back at h
  refine lv_iload_n S.1 S.2.1 dX11_back_0 rfl (lv_at hl 1 rfl) ?_
  refine lv_iconst (v := 0) S.1 S.2.1 dX11_back_1 (by decide) ?_
  refine lv_iconst (v := 1) S.1 S.2.1 dX11_back_2 (by decide) ?_
  refine z_callSr S K w hA (c_X11_in l D cs ad F A T a0 (0 : Int32) (1 : Int32) (f_X11_in a0 (0 : Int32) (1 : Int32)) rfl) (cw_X11_72 S.2.2.2.2 ⟨Nat.le_of_ble_eq_true rfl, Nat.le_of_ble_eq_true rfl⟩) rfl hl.1 rfl (Nat.le_of_ble_eq_true rfl) ⟨Nat.zero_le _, Nat.zero_le _⟩ dX11_back_3 (fun b1 H locs w => ?_)
  refine lv_if_ne (tgt := 11) S.1 S.2.1 dX11_back_6 (by decide) (fun c2 => ?_) (fun c2 => ?_)
  · have h := og_f c2 h
    refine lv_aload_n S.1 S.2.1 dX11_back_11 rfl (lv_at hl 0 rfl) ?_
    refine gM_0_25 S K w w753 dX11_back_12 ?_
    refine lv_iload_n S.1 S.2.1 dX11_back_15 rfl (lv_at hl 1 rfl) ?_
    obtain ⟨g3, h⟩ := og_g h
    refine aM_16 S K w g3 dX11_back_16 ?_
    refine lv_if_ne (tgt := 23) S.1 S.2.1 dX11_back_17 (by decide) (fun c4 => ?_) (fun c4 => ?_)
    · have h := og_f c4 h
      refine lv_aload_n S.1 S.2.1 dX11_back_23 rfl (lv_at hl 0 rfl) ?_
      refine lv_bipush (v := 34) S.1 S.2.1 dX11_back_24 (by decide) ?_
      refine lv_iconst (v := 1) S.1 S.2.1 dX11_back_26 (by decide) ?_
      refine lv_iload_n S.1 S.2.1 dX11_back_27 rfl (lv_at hl 1 rfl) ?_
      refine lv_iadd S.1 S.2.1 dX11_back_28 ?_
      refine lv_imul S.1 S.2.1 dX11_back_29 ?_
      refine lv_iconst (v := 0) S.1 S.2.1 dX11_back_30 (by decide) ?_
      obtain ⟨q5, e6, h⟩ := og_b h
      refine z_callVv S K w hA (c_X11_copy l D cs ad F A T ((34 : Int32) * ((1 : Int32) + a0)) (0 : Int32) q5 e6) (cw_X11_228 S.2.2.2.2 ⟨Nat.le_of_ble_eq_true rfl, Nat.le_of_ble_eq_true rfl⟩) (z_recv K w 0 11 rfl rfl) rfl hl.1 rfl (Nat.le_of_ble_eq_true rfl) ⟨Nat.zero_le _, Nat.zero_le _⟩ dX11_back_31 (fun H locs w => ?_)
      refine lv_aload_n S.1 S.2.1 dX11_back_34 rfl (lv_at hl 0 rfl) ?_
      obtain ⟨q8, e9, h⟩ := og_b h
      refine z_callVi S K w hA (c_X11_theCase l D cs ad q5.1 q5.2.1 q5.2.2 q8 e9) (cw_X11_169 S.2.2.2.2 ⟨Nat.le_of_ble_eq_true rfl, Nat.le_of_ble_eq_true rfl⟩) (z_recv K w 0 11 rfl rfl) rfl hl.1 rfl (Nat.le_of_ble_eq_true rfl) ⟨Nat.zero_le _, Nat.zero_le _⟩ dX11_back_35 (fun b7 H locs w => ?_)
      exact z_reti S w hr hlk dX11_back_38 trivial (Option.some.inj h).symm
    · have h := og_t c4 h
      refine lv_bipush (v := -2) S.1 S.2.1 dX11_back_20 (by decide) ?_
      exact z_reti S w hr hlk dX11_back_22 trivial (Option.some.inj h).symm
  · have h := og_t c2 h
    refine lv_iconst (v := -1) S.1 S.2.1 dX11_back_9 (by decide) ?_
    exact z_reti S w hr hlk dX11_back_10 trivial (Option.some.inj h).symm
set_option maxHeartbeats 4000000 in
set_option maxRecDepth 100000 in
theorem c_X11_count (l : Launch) (D : va_G) (cs : Nat → ClassId) (ad : Nat → Nat) (F : ZF) (A : ZA) (T : Int64) (a0 : Int32) (q : Int32) (h : f_X11_count a0 F A T = q) : zMi l D cs (MW cs ad) yX11_count cX11_count 2 (some .int) rm_X11_count ([.ref (ad 0), .int a0] : List Value) F A T ((q, F, A, T) : Int32 × ZS) True := by
  refine z_enteri (by decide) (Nat.le_of_ble_eq_true rfl) ?_
  intro p e s m below meth c A0 ls S K w hA hr hlk hl
  have S : CallFix p m c cX11_count 2 s ([.ref (ad 0), .int a0] : List Value).toArray zWs RX11 := S
  have hl : lv_has ls 2 [(0, .ref (ad 0)), (1, .int a0)] := hl
  unfold f_X11_count at h
  refine lv_iload_n S.1 S.2.1 dX11_count_0 rfl (lv_at hl 1 rfl) ?_
  by_cases c1 : a0 = (0 : Int32)
  · have h := og_t c1 h
    refine lv_tableIn (tgt := 40) S.1 S.2.1 dX11_count_1 (by rw [c1]; decide) (by rw [c1]; decide) (off := 39) (by rw [c1]; decide) (by decide) ?_
    refine lv_aload_n S.1 S.2.1 dX11_count_40 rfl (lv_at hl 0 rfl) ?_
    refine gM_0_3 S K w w731 dX11_count_41 ?_
    refine lv_iconst (v := 0) S.1 S.2.1 dX11_count_44 (by decide) ?_
    refine aM_2 S K w gk_0_2 dX11_count_45 ?_
    exact z_reti S w hr hlk dX11_count_46 trivial (by rw [← h])
  · have h := og_f c1 h
    by_cases c2 : a0 = (1 : Int32)
    · have h := og_t c2 h
      refine lv_tableIn (tgt := 47) S.1 S.2.1 dX11_count_1 (by rw [c2]; decide) (by rw [c2]; decide) (off := 46) (by rw [c2]; decide) (by decide) ?_
      refine lv_aload_n S.1 S.2.1 dX11_count_47 rfl (lv_at hl 0 rfl) ?_
      refine gM_0_5 S K w w733 dX11_count_48 ?_
      refine lv_iconst (v := 0) S.1 S.2.1 dX11_count_51 (by decide) ?_
      refine aM_4 S K w gk_0_2 dX11_count_52 ?_
      exact z_reti S w hr hlk dX11_count_53 trivial (by rw [← h])
    · have h := og_f c2 h
      by_cases c3 : a0 = (2 : Int32)
      · have h := og_t c3 h
        refine lv_tableIn (tgt := 54) S.1 S.2.1 dX11_count_1 (by rw [c3]; decide) (by rw [c3]; decide) (off := 53) (by rw [c3]; decide) (by decide) ?_
        refine lv_aload_n S.1 S.2.1 dX11_count_54 rfl (lv_at hl 0 rfl) ?_
        refine gM_0_9 S K w w737 dX11_count_55 ?_
        refine lv_iconst (v := 0) S.1 S.2.1 dX11_count_58 (by decide) ?_
        refine aM_8 S K w gk_0_2 dX11_count_59 ?_
        exact z_reti S w hr hlk dX11_count_60 trivial (by rw [← h])
      · have h := og_f c3 h
        by_cases c4 : a0 = (3 : Int32)
        · have h := og_t c4 h
          refine lv_tableIn (tgt := 61) S.1 S.2.1 dX11_count_1 (by rw [c4]; decide) (by rw [c4]; decide) (off := 60) (by rw [c4]; decide) (by decide) ?_
          refine lv_aload_n S.1 S.2.1 dX11_count_61 rfl (lv_at hl 0 rfl) ?_
          refine gM_0_31 S K w w759 dX11_count_62 ?_
          exact z_reti S w hr hlk dX11_count_65 trivial (by rw [← h])
        · have h := og_f c4 h
          by_cases c5 : a0 = (4 : Int32)
          · have h := og_t c5 h
            refine lv_tableIn (tgt := 66) S.1 S.2.1 dX11_count_1 (by rw [c5]; decide) (by rw [c5]; decide) (off := 65) (by rw [c5]; decide) (by decide) ?_
            refine lv_aload_n S.1 S.2.1 dX11_count_66 rfl (lv_at hl 0 rfl) ?_
            refine gM_0_24 S K w w752 dX11_count_67 ?_
            refine lv_iconst (v := 3) S.1 S.2.1 dX11_count_70 (by decide) ?_
            refine aM_15 S K w gk_3_102 dX11_count_71 ?_
            exact z_reti S w hr hlk dX11_count_72 trivial (by rw [← h])
          · have h := og_f c5 h
            by_cases c6 : a0 = (5 : Int32)
            · have h := og_t c6 h
              refine lv_tableIn (tgt := 73) S.1 S.2.1 dX11_count_1 (by rw [c6]; decide) (by rw [c6]; decide) (off := 72) (by rw [c6]; decide) (by decide) ?_
              refine lv_aload_n S.1 S.2.1 dX11_count_73 rfl (lv_at hl 0 rfl) ?_
              refine gM_0_2 S K w w730 dX11_count_74 ?_
              exact z_reti S w hr hlk dX11_count_77 trivial (by rw [← h])
            · have h := og_f c6 h
              refine lv_tableOut (tgt := 78) S.1 S.2.1 dX11_count_1 (by have := lv_neT (k := (0 : Int32)) (a := 0) c1 (by decide); have := lv_neT (k := (1 : Int32)) (a := 1) c2 (by decide); have := lv_neT (k := (2 : Int32)) (a := 2) c3 (by decide); have := lv_neT (k := (3 : Int32)) (a := 3) c4 (by decide); have := lv_neT (k := (4 : Int32)) (a := 4) c5 (by decide); have := lv_neT (k := (5 : Int32)) (a := 5) c6 (by decide); omega) (by decide) ?_
              refine lv_iconst (v := -1) S.1 S.2.1 dX11_count_78 (by decide) ?_
              exact z_reti S w hr hlk dX11_count_79 trivial (by rw [← h])
set_option maxHeartbeats 4000000 in
set_option maxRecDepth 100000 in
theorem c_X11_trace (l : Launch) (D : va_G) (cs : Nat → ClassId) (ad : Nat → Nat) (F : ZF) (A : ZA) (T : Int64) (q : Int64) (h : f_X11_trace F A T = q) : zMl l D cs (MW cs ad) yX11_trace cX11_trace 1 (some .long) rm_X11_trace ([.ref (ad 0)] : List Value) F A T ((q, F, A, T) : Int64 × ZS) := by
  refine z_enterl (by decide) (Nat.le_of_ble_eq_true rfl) ?_
  intro p e s m below meth c A0 ls S K w hA hr hlk hl
  have S : CallFix p m c cX11_trace 1 s ([.ref (ad 0)] : List Value).toArray zWs RX11 := S
  have hl : lv_has ls 1 [(0, .ref (ad 0))] := hl
  unfold f_X11_trace at h
  refine lv_aload_n S.1 S.2.1 dX11_trace_0 rfl (lv_at hl 0 rfl) ?_
  refine gM_0_0 S K w w728 dX11_trace_1 ?_
  exact z_retl S w hr hlk dX11_trace_4 (by rw [← h])
set_option maxHeartbeats 4000000 in
set_option maxRecDepth 100000 in
theorem c_X11_here (l : Launch) (D : va_G) (cs : Nat → ClassId) (ad : Nat → Nat) (F : ZF) (A : ZA) (T : Int64) (q : Int32) (h : f_X11_here F A T = some q) : zMi l D cs (MW cs ad) yX11_here cX11_here 1 (some .int) rm_X11_here ([.ref (ad 0)] : List Value) F A T ((q, F, A, T) : Int32 × ZS) True := by
  refine z_enteri (by decide) (Nat.le_of_ble_eq_true rfl) ?_
  intro p e s m below meth c A0 ls S K w hA hr hlk hl
  have S : CallFix p m c cX11_here 1 s ([.ref (ad 0)] : List Value).toArray zWs RX11 := S
  have hl : lv_has ls 1 [(0, .ref (ad 0))] := hl
  unfold f_X11_here at h
  refine lv_aload_n S.1 S.2.1 dX11_here_0 rfl (lv_at hl 0 rfl) ?_
  refine gM_0_16 S K w w744 dX11_here_1 ?_
  refine lv_aload_n S.1 S.2.1 dX11_here_4 rfl (lv_at hl 0 rfl) ?_
  refine gM_0_2 S K w w730 dX11_here_5 ?_
  refine lv_icmp_ge (tgt := 27) S.1 S.2.1 dX11_here_8 (by decide) (fun c1 => ?_) (fun c1 => ?_)
  · have h := og_t c1 h
    refine lv_iconst (v := -1) S.1 S.2.1 dX11_here_27 (by decide) ?_
    exact z_reti S w hr hlk dX11_here_28 trivial (by rw [← Option.some.inj h])
  · have h := og_f c1 h
    refine lv_aload_n S.1 S.2.1 dX11_here_11 rfl (lv_at hl 0 rfl) ?_
    refine gM_0_1 S K w w729 dX11_here_12 ?_
    refine lv_aload_n S.1 S.2.1 dX11_here_15 rfl (lv_at hl 0 rfl) ?_
    refine gM_0_16 S K w w744 dX11_here_16 ?_
    obtain ⟨g2, h⟩ := og_g h
    refine aM_1 S K w g2 dX11_here_19 ?_
    refine lv_sipush (v := 255) S.1 S.2.1 dX11_here_20 (by decide) ?_
    refine lv_iand S.1 S.2.1 dX11_here_23 ?_
    refine lv_goto (tgt := 28) S.1 S.2.1 dX11_here_24 (by decide) ?_
    exact z_reti S w hr hlk dX11_here_28 trivial (by rw [← Option.some.inj h])
set_option maxHeartbeats 4000000 in
set_option maxRecDepth 100000 in
theorem c_X11_next (l : Launch) (D : va_G) (cs : Nat → ClassId) (ad : Nat → Nat) (F : ZF) (A : ZA) (T : Int64) (q : ZS) (h : f_X11_next F A T = some q) : zMv l D cs (MW cs ad) yX11_next cX11_next 2 none rm_X11_next ([.ref (ad 0)] : List Value) F A T q := by
  refine z_enterv (by decide) (Nat.le_of_ble_eq_true rfl) ?_
  intro p e s m below meth c A0 ls S K w hA hr hlk hl
  have S : CallFix p m c cX11_next 2 s ([.ref (ad 0)] : List Value).toArray zWs RX11 := S
  have hl : lv_has ls 2 [(0, .ref (ad 0))] := hl
  unfold f_X11_next at h
  have j0 : ∀ (n0 : Nat) (F : ZF) (A : ZA) (T : Int64), f_X11_next_0 n0 F A T = some q → ∀ (H : Heap) (locs : List Loc) (ls : Array Slot), lv_has ls 2 [(0, .ref (ad 0))] → ZW D A0 s.heap (MW cs ad F A T) H locs → W p l e rm_X11_next s m ([.ref (ad 0)] : List Value).toArray below meth c H locs 0 0 (zQv (MW cs ad) D A0 below ([.ref (ad 0)] : List Value) s q) (F0 m 0 ls []) := by
    intro n0
    induction n0 with
    | zero =>
      intro F A T h H locs ls hl w
      have h : (none : Option ZS) = some q := h
      cases h
    | succ n0 ih0 =>
      intro F A T h H locs ls hl w
      rw [f_X11_next_0_s] at h
      have j250 : ∀ (y0 : Int32) (F : ZF) (A : ZA) (T : Int64), f_X11_next_250 y0 F A T = some q → ∀ (H : Heap) (locs : List Loc) (ls : Array Slot), lv_has ls 2 [] → ZW D A0 s.heap (MW cs ad F A T) H locs → W p l e rm_X11_next s m ([.ref (ad 0)] : List Value).toArray below meth c H locs 0 0 (zQv (MW cs ad) D A0 below ([.ref (ad 0)] : List Value) s q) (F0 m 250 ls [.int y0, .ref (ad 0)]) := by
        intro y0 F A T h H locs ls hl w
        unfold f_X11_next_250 at h
        refine pM_0_18 S K w w746 dX11_next_250 (fun H locs w => ?_)
        exact z_retv S w hr hlk dX11_next_253 (Option.some.inj h).symm
      have j126 : ∀ (n126 : Nat) (x1 : Int32) (F : ZF) (A : ZA) (T : Int64), f_X11_next_126 n126 x1 F A T = some q → ∀ (H : Heap) (locs : List Loc) (ls : Array Slot), lv_has ls 2 [(0, .ref (ad 0)), (1, .int x1)] → ZW D A0 s.heap (MW cs ad F A T) H locs → W p l e rm_X11_next s m ([.ref (ad 0)] : List Value).toArray below meth c H locs 0 0 (zQv (MW cs ad) D A0 below ([.ref (ad 0)] : List Value) s q) (F0 m 126 ls []) := by
        intro n126
        induction n126 with
        | zero =>
          intro x1 F A T h H locs ls hl w
          have h : (none : Option ZS) = some q := h
          cases h
        | succ n126 ih126 =>
          intro x1 F A T h H locs ls hl w
          rw [f_X11_next_126_s] at h
          have j222 : ∀ (y0 : Int32) (F : ZF) (A : ZA) (T : Int64), f_X11_next_222 y0 F A T = some q → ∀ (H : Heap) (locs : List Loc) (ls : Array Slot), lv_has ls 2 [] → ZW D A0 s.heap (MW cs ad F A T) H locs → W p l e rm_X11_next s m ([.ref (ad 0)] : List Value).toArray below meth c H locs 0 0 (zQv (MW cs ad) D A0 below ([.ref (ad 0)] : List Value) s q) (F0 m 222 ls [.int y0, .ref (ad 0)]) := by
            intro y0 F A T h H locs ls hl w
            unfold f_X11_next_222 at h
            refine pM_0_18 S K w w746 dX11_next_222 (fun H locs w => ?_)
            refine lv_goto (tgt := 253) S.1 S.2.1 dX11_next_225 (by decide) ?_
            exact z_retv S w hr hlk dX11_next_253 (Option.some.inj h).symm
          have j172 : ∀ (x1 y0 : Int32) (F : ZF) (A : ZA) (T : Int64), f_X11_next_172 (f_X11_next_126 n126) x1 y0 F A T = some q → ∀ (H : Heap) (locs : List Loc) (ls : Array Slot), lv_has ls 2 [(0, .ref (ad 0)), (1, .int x1)] → ZW D A0 s.heap (MW cs ad F A T) H locs → W p l e rm_X11_next s m ([.ref (ad 0)] : List Value).toArray below meth c H locs 0 0 (zQv (MW cs ad) D A0 below ([.ref (ad 0)] : List Value) s q) (F0 m 172 ls [.int y0, .ref (ad 0)]) := by
            intro x1 y0 F A T h H locs ls hl w
            unfold f_X11_next_172 at h
            refine pM_0_19 S K w w747 dX11_next_172 (fun H locs w => ?_)
            refine lv_aload_n S.1 S.2.1 dX11_next_175 rfl (lv_at hl 0 rfl) ?_
            refine lv_dup S.1 S.2.1 dX11_next_176 rfl ?_
            refine gM_0_16 S K w w744 dX11_next_177 ?_
            refine lv_iconst (v := 1) S.1 S.2.1 dX11_next_180 (by decide) ?_
            refine lv_iadd S.1 S.2.1 dX11_next_181 ?_
            refine pM_0_16 S K w w744 dX11_next_182 (fun H locs w => ?_)
            refine lv_goto (tgt := 126) S.1 S.2.1 dX11_next_185 (by decide) ?_
            exact ih126 _ _ _ _ h _ _ _ (lv_sub hl [0, 1] rfl) w
          refine lv_aload_n S.1 S.2.1 dX11_next_126 rfl (lv_at hl 0 rfl) ?_
          obtain ⟨q15, e16, h⟩ := og_b h
          refine z_callVr S K w hA (c_X11_here l D cs ad F A T q15 e16) (cw_X11_83 S.2.2.2.2 ⟨Nat.le_of_ble_eq_true rfl, Nat.le_of_ble_eq_true rfl⟩) (z_recv K w 0 11 rfl rfl) rfl hl.1 rfl (Nat.le_of_ble_eq_true rfl) ⟨Nat.zero_le _, Nat.zero_le _⟩ dX11_next_127 (fun b14 H locs w => ?_)
          refine lv_bipush (v := 48) S.1 S.2.1 dX11_next_130 (by decide) ?_
          refine lv_bipush (v := 57) S.1 S.2.1 dX11_next_132 (by decide) ?_
          refine z_callSr S K w hA (c_X11_in l D cs ad F A T q15 (48 : Int32) (57 : Int32) (f_X11_in q15 (48 : Int32) (57 : Int32)) rfl) (cw_X11_72 S.2.2.2.2 ⟨Nat.le_of_ble_eq_true rfl, Nat.le_of_ble_eq_true rfl⟩) rfl hl.1 rfl (Nat.le_of_ble_eq_true rfl) ⟨Nat.zero_le _, Nat.zero_le _⟩ dX11_next_134 (fun b17 H locs w => ?_)
          refine lv_if_eq (tgt := 188) S.1 S.2.1 dX11_next_137 (by decide) (fun c18 => ?_) (fun c18 => ?_)
          · have h := og_t c18 h
            refine lv_aload_n S.1 S.2.1 dX11_next_188 rfl (lv_at hl 0 rfl) ?_
            refine lv_aload_n S.1 S.2.1 dX11_next_189 rfl (lv_at hl 0 rfl) ?_
            refine gM_0_19 S K w w747 dX11_next_190 ?_
            refine lv_bipush (v := 99) S.1 S.2.1 dX11_next_193 (by decide) ?_
            refine lv_icmp_gt (tgt := 217) S.1 S.2.1 dX11_next_195 (by decide) (fun c19 => ?_) (fun c19 => ?_)
            · have h := og_t c19 h
              refine lv_iconst (v := 4) S.1 S.2.1 dX11_next_217 (by decide) ?_
              refine lv_goto (tgt := 222) S.1 S.2.1 dX11_next_218 (by decide) ?_
              exact j222 _ _ _ _ h _ _ _ (lv_sub hl [] rfl) w
            · have h := og_f c19 h
              refine lv_iload_n S.1 S.2.1 dX11_next_198 rfl (lv_at hl 1 rfl) ?_
              refine lv_bipush (v := 48) S.1 S.2.1 dX11_next_199 (by decide) ?_
              refine lv_icmp_ne (tgt := 221) S.1 S.2.1 dX11_next_201 (by decide) (fun c20 => ?_) (fun c20 => ?_)
              · have h := og_f c20 h
                refine lv_iconst (v := 1) S.1 S.2.1 dX11_next_221 (by decide) ?_
                exact j222 _ _ _ _ h _ _ _ (lv_sub hl [] rfl) w
              · have h := og_t c20 h
                refine lv_aload_n S.1 S.2.1 dX11_next_204 rfl (lv_at hl 0 rfl) ?_
                refine gM_0_16 S K w w744 dX11_next_205 ?_
                refine lv_aload_n S.1 S.2.1 dX11_next_208 rfl (lv_at hl 0 rfl) ?_
                refine gM_0_17 S K w w745 dX11_next_209 ?_
                refine lv_isub S.1 S.2.1 dX11_next_212 ?_
                refine lv_iconst (v := 1) S.1 S.2.1 dX11_next_213 (by decide) ?_
                refine lv_icmp_le (tgt := 221) S.1 S.2.1 dX11_next_214 (by decide) (fun c21 => ?_) (fun c21 => ?_)
                · have h := og_t c21 h
                  refine lv_iconst (v := 1) S.1 S.2.1 dX11_next_221 (by decide) ?_
                  exact j222 _ _ _ _ h _ _ _ (lv_sub hl [] rfl) w
                · have h := og_f c21 h
                  refine lv_iconst (v := 4) S.1 S.2.1 dX11_next_217 (by decide) ?_
                  refine lv_goto (tgt := 222) S.1 S.2.1 dX11_next_218 (by decide) ?_
                  exact j222 _ _ _ _ h _ _ _ (lv_sub hl [] rfl) w
          · have h := og_f c18 h
            refine lv_aload_n S.1 S.2.1 dX11_next_140 rfl (lv_at hl 0 rfl) ?_
            refine lv_aload_n S.1 S.2.1 dX11_next_141 rfl (lv_at hl 0 rfl) ?_
            refine gM_0_19 S K w w747 dX11_next_142 ?_
            refine lv_bipush (v := 99) S.1 S.2.1 dX11_next_145 (by decide) ?_
            refine lv_icmp_le (tgt := 157) S.1 S.2.1 dX11_next_147 (by decide) (fun c22 => ?_) (fun c22 => ?_)
            · have h := og_t c22 h
              refine lv_bipush (v := 10) S.1 S.2.1 dX11_next_157 (by decide) ?_
              refine lv_aload_n S.1 S.2.1 dX11_next_159 rfl (lv_at hl 0 rfl) ?_
              refine gM_0_19 S K w w747 dX11_next_160 ?_
              refine lv_imul S.1 S.2.1 dX11_next_163 ?_
              refine lv_aload_n S.1 S.2.1 dX11_next_164 rfl (lv_at hl 0 rfl) ?_
              obtain ⟨q24, e25, h⟩ := og_b h
              refine z_callVr S K w hA (c_X11_here l D cs ad F A T q24 e25) (cw_X11_83 S.2.2.2.2 ⟨Nat.le_of_ble_eq_true rfl, Nat.le_of_ble_eq_true rfl⟩) (z_recv K w 0 11 rfl rfl) rfl hl.1 rfl (Nat.le_of_ble_eq_true rfl) ⟨Nat.zero_le _, Nat.zero_le _⟩ dX11_next_165 (fun b23 H locs w => ?_)
              refine lv_iadd S.1 S.2.1 dX11_next_168 ?_
              refine lv_bipush (v := 48) S.1 S.2.1 dX11_next_169 (by decide) ?_
              refine lv_isub S.1 S.2.1 dX11_next_171 ?_
              exact j172 _ _ _ _ _ h _ _ _ (lv_sub hl [0, 1] rfl) w
            · have h := og_f c22 h
              refine lv_aload_n S.1 S.2.1 dX11_next_150 rfl (lv_at hl 0 rfl) ?_
              refine gM_0_19 S K w w747 dX11_next_151 ?_
              refine lv_goto (tgt := 172) S.1 S.2.1 dX11_next_154 (by decide) ?_
              exact j172 _ _ _ _ _ h _ _ _ (lv_sub hl [0, 1] rfl) w
      have j63 : ∀ (n63 : Nat) (x1 : Int32) (F : ZF) (A : ZA) (T : Int64), f_X11_next_63 n63 x1 F A T = some q → ∀ (H : Heap) (locs : List Loc) (ls : Array Slot), lv_has ls 2 [(0, .ref (ad 0)), (1, .int x1)] → ZW D A0 s.heap (MW cs ad F A T) H locs → W p l e rm_X11_next s m ([.ref (ad 0)] : List Value).toArray below meth c H locs 0 0 (zQv (MW cs ad) D A0 below ([.ref (ad 0)] : List Value) s q) (F0 m 63 ls []) := by
        intro n63
        induction n63 with
        | zero =>
          intro x1 F A T h H locs ls hl w
          have h : (none : Option ZS) = some q := h
          cases h
        | succ n63 ih63 =>
          intro x1 F A T h H locs ls hl w
          rw [f_X11_next_63_s] at h
          have j109 : ∀ (y0 : Int32) (F : ZF) (A : ZA) (T : Int64), f_X11_next_109 y0 F A T = some q → ∀ (H : Heap) (locs : List Loc) (ls : Array Slot), lv_has ls 2 [] → ZW D A0 s.heap (MW cs ad F A T) H locs → W p l e rm_X11_next s m ([.ref (ad 0)] : List Value).toArray below meth c H locs 0 0 (zQv (MW cs ad) D A0 below ([.ref (ad 0)] : List Value) s q) (F0 m 109 ls [.int y0, .ref (ad 0)]) := by
            intro y0 F A T h H locs ls hl w
            unfold f_X11_next_109 at h
            refine pM_0_18 S K w w746 dX11_next_109 (fun H locs w => ?_)
            refine lv_goto (tgt := 253) S.1 S.2.1 dX11_next_112 (by decide) ?_
            exact z_retv S w hr hlk dX11_next_253 (Option.some.inj h).symm
          refine lv_aload_n S.1 S.2.1 dX11_next_63 rfl (lv_at hl 0 rfl) ?_
          obtain ⟨q27, e28, h⟩ := og_b h
          refine z_callVr S K w hA (c_X11_here l D cs ad F A T q27 e28) (cw_X11_83 S.2.2.2.2 ⟨Nat.le_of_ble_eq_true rfl, Nat.le_of_ble_eq_true rfl⟩) (z_recv K w 0 11 rfl rfl) rfl hl.1 rfl (Nat.le_of_ble_eq_true rfl) ⟨Nat.zero_le _, Nat.zero_le _⟩ dX11_next_64 (fun b26 H locs w => ?_)
          refine lv_bipush (v := 97) S.1 S.2.1 dX11_next_67 (by decide) ?_
          refine lv_bipush (v := 122) S.1 S.2.1 dX11_next_69 (by decide) ?_
          refine z_callSr S K w hA (c_X11_in l D cs ad F A T q27 (97 : Int32) (122 : Int32) (f_X11_in q27 (97 : Int32) (122 : Int32)) rfl) (cw_X11_72 S.2.2.2.2 ⟨Nat.le_of_ble_eq_true rfl, Nat.le_of_ble_eq_true rfl⟩) rfl hl.1 rfl (Nat.le_of_ble_eq_true rfl) ⟨Nat.zero_le _, Nat.zero_le _⟩ dX11_next_71 (fun b29 H locs w => ?_)
          refine lv_if_eq (tgt := 90) S.1 S.2.1 dX11_next_74 (by decide) (fun c30 => ?_) (fun c30 => ?_)
          · have h := og_t c30 h
            refine lv_aload_n S.1 S.2.1 dX11_next_90 rfl (lv_at hl 0 rfl) ?_
            refine lv_aload_n S.1 S.2.1 dX11_next_91 rfl (lv_at hl 0 rfl) ?_
            refine gM_0_16 S K w w744 dX11_next_92 ?_
            refine lv_aload_n S.1 S.2.1 dX11_next_95 rfl (lv_at hl 0 rfl) ?_
            refine gM_0_17 S K w w745 dX11_next_96 ?_
            refine lv_isub S.1 S.2.1 dX11_next_99 ?_
            refine lv_iconst (v := 1) S.1 S.2.1 dX11_next_100 (by decide) ?_
            refine lv_icmp_ne (tgt := 108) S.1 S.2.1 dX11_next_101 (by decide) (fun c31 => ?_) (fun c31 => ?_)
            · have h := og_f c31 h
              refine lv_iconst (v := 4) S.1 S.2.1 dX11_next_108 (by decide) ?_
              exact j109 _ _ _ _ h _ _ _ (lv_sub hl [] rfl) w
            · have h := og_t c31 h
              refine lv_iload_n S.1 S.2.1 dX11_next_104 rfl (lv_at hl 1 rfl) ?_
              refine lv_goto (tgt := 109) S.1 S.2.1 dX11_next_105 (by decide) ?_
              exact j109 _ _ _ _ h _ _ _ (lv_sub hl [] rfl) w
          · have h := og_f c30 h
            refine lv_aload_n S.1 S.2.1 dX11_next_77 rfl (lv_at hl 0 rfl) ?_
            refine lv_dup S.1 S.2.1 dX11_next_78 rfl ?_
            refine gM_0_16 S K w w744 dX11_next_79 ?_
            refine lv_iconst (v := 1) S.1 S.2.1 dX11_next_82 (by decide) ?_
            refine lv_iadd S.1 S.2.1 dX11_next_83 ?_
            refine pM_0_16 S K w w744 dX11_next_84 (fun H locs w => ?_)
            refine lv_goto (tgt := 63) S.1 S.2.1 dX11_next_87 (by decide) ?_
            exact ih63 _ _ _ _ h _ _ _ (lv_sub hl [0, 1] rfl) w
      refine lv_aload_n S.1 S.2.1 dX11_next_0 rfl (lv_at hl 0 rfl) ?_
      obtain ⟨q2, e3, h⟩ := og_b h
      refine z_callVr S K w hA (c_X11_here l D cs ad F A T q2 e3) (cw_X11_83 S.2.2.2.2 ⟨Nat.le_of_ble_eq_true rfl, Nat.le_of_ble_eq_true rfl⟩) (z_recv K w 0 11 rfl rfl) rfl hl.1 rfl (Nat.le_of_ble_eq_true rfl) ⟨Nat.zero_le _, Nat.zero_le _⟩ dX11_next_1 (fun b1 H locs w => ?_)
      refine lv_bipush (v := 32) S.1 S.2.1 dX11_next_4 (by decide) ?_
      refine lv_icmp_ne (tgt := 22) S.1 S.2.1 dX11_next_6 (by decide) (fun c4 => ?_) (fun c4 => ?_)
      · have h := og_f c4 h
        refine lv_aload_n S.1 S.2.1 dX11_next_22 rfl (lv_at hl 0 rfl) ?_
        refine lv_aload_n S.1 S.2.1 dX11_next_23 rfl (lv_at hl 0 rfl) ?_
        refine gM_0_16 S K w w744 dX11_next_24 ?_
        refine pM_0_17 S K w w745 dX11_next_27 (fun H locs w => ?_)
        refine lv_aload_n S.1 S.2.1 dX11_next_30 rfl (lv_at hl 0 rfl) ?_
        refine lv_iconst (v := 0) S.1 S.2.1 dX11_next_31 (by decide) ?_
        refine pM_0_19 S K w w747 dX11_next_32 (fun H locs w => ?_)
        refine lv_aload_n S.1 S.2.1 dX11_next_35 rfl (lv_at hl 0 rfl) ?_
        obtain ⟨q6, e7, h⟩ := og_b h
        refine z_callVr S K w hA (c_X11_here l D cs ad (upd (upd F 2 (F 1)) 4 (0 : Int32)) A T q6 e7) (cw_X11_83 S.2.2.2.2 ⟨Nat.le_of_ble_eq_true rfl, Nat.le_of_ble_eq_true rfl⟩) (z_recv K w 0 11 rfl rfl) rfl hl.1 rfl (Nat.le_of_ble_eq_true rfl) ⟨Nat.zero_le _, Nat.zero_le _⟩ dX11_next_36 (fun b5 H locs w => ?_)
        refine lv_istore_n (lv' := [(1, .int q6), (0, .ref (ad 0))]) S.1 S.2.1 dX11_next_39 rfl hl (by decide) rfl (fun ls hl => ?_)
        refine lv_iload_n S.1 S.2.1 dX11_next_40 rfl (lv_at hl 0 rfl) ?_
        refine lv_if_ge (tgt := 52) S.1 S.2.1 dX11_next_41 (by decide) (fun c8 => ?_) (fun c8 => ?_)
        · have h := og_t c8 h
          refine lv_iload_n S.1 S.2.1 dX11_next_52 rfl (lv_at hl 0 rfl) ?_
          refine lv_bipush (v := 97) S.1 S.2.1 dX11_next_53 (by decide) ?_
          refine lv_bipush (v := 122) S.1 S.2.1 dX11_next_55 (by decide) ?_
          refine z_callSr S K w hA (c_X11_in l D cs ad (upd (upd F 2 (F 1)) 4 (0 : Int32)) A T q6 (97 : Int32) (122 : Int32) (f_X11_in q6 (97 : Int32) (122 : Int32)) rfl) (cw_X11_72 S.2.2.2.2 ⟨Nat.le_of_ble_eq_true rfl, Nat.le_of_ble_eq_true rfl⟩) rfl hl.1 rfl (Nat.le_of_ble_eq_true rfl) ⟨Nat.zero_le _, Nat.zero_le _⟩ dX11_next_57 (fun b9 H locs w => ?_)
          refine lv_if_eq (tgt := 115) S.1 S.2.1 dX11_next_60 (by decide) (fun c10 => ?_) (fun c10 => ?_)
          · have h := og_t c10 h
            refine lv_iload_n S.1 S.2.1 dX11_next_115 rfl (lv_at hl 0 rfl) ?_
            refine lv_bipush (v := 48) S.1 S.2.1 dX11_next_116 (by decide) ?_
            refine lv_bipush (v := 57) S.1 S.2.1 dX11_next_118 (by decide) ?_
            refine z_callSr S K w hA (c_X11_in l D cs ad (upd (upd F 2 (F 1)) 4 (0 : Int32)) A T q6 (48 : Int32) (57 : Int32) (f_X11_in q6 (48 : Int32) (57 : Int32)) rfl) (cw_X11_72 S.2.2.2.2 ⟨Nat.le_of_ble_eq_true rfl, Nat.le_of_ble_eq_true rfl⟩) rfl hl.1 rfl (Nat.le_of_ble_eq_true rfl) ⟨Nat.zero_le _, Nat.zero_le _⟩ dX11_next_120 (fun b11 H locs w => ?_)
            refine lv_if_eq (tgt := 228) S.1 S.2.1 dX11_next_123 (by decide) (fun c12 => ?_) (fun c12 => ?_)
            · have h := og_t c12 h
              refine lv_aload_n S.1 S.2.1 dX11_next_228 rfl (lv_at hl 1 rfl) ?_
              refine lv_dup S.1 S.2.1 dX11_next_229 rfl ?_
              refine gM_0_16 S K w w744 dX11_next_230 ?_
              refine lv_iconst (v := 1) S.1 S.2.1 dX11_next_233 (by decide) ?_
              refine lv_iadd S.1 S.2.1 dX11_next_234 ?_
              refine pM_0_16 S K w w744 dX11_next_235 (fun H locs w => ?_)
              refine lv_aload_n S.1 S.2.1 dX11_next_238 rfl (lv_at hl 1 rfl) ?_
              refine lv_iload_n S.1 S.2.1 dX11_next_239 rfl (lv_at hl 0 rfl) ?_
              refine lv_bipush (v := 59) S.1 S.2.1 dX11_next_240 (by decide) ?_
              refine lv_icmp_ne (tgt := 249) S.1 S.2.1 dX11_next_242 (by decide) (fun c13 => ?_) (fun c13 => ?_)
              · have h := og_f c13 h
                refine lv_iconst (v := 4) S.1 S.2.1 dX11_next_249 (by decide) ?_
                exact j250 _ _ _ _ h _ _ _ (lv_sub hl [] rfl) w
              · have h := og_t c13 h
                refine lv_iconst (v := 2) S.1 S.2.1 dX11_next_245 (by decide) ?_
                refine lv_goto (tgt := 250) S.1 S.2.1 dX11_next_246 (by decide) ?_
                exact j250 _ _ _ _ h _ _ _ (lv_sub hl [] rfl) w
            · have h := og_f c12 h
              exact j126 1000 _ _ _ _ h _ _ _ (lv_sub hl [1, 0] rfl) w
          · have h := og_f c10 h
            exact j63 1000 _ _ _ _ h _ _ _ (lv_sub hl [1, 0] rfl) w
        · have h := og_f c8 h
          refine lv_aload_n S.1 S.2.1 dX11_next_44 rfl (lv_at hl 1 rfl) ?_
          refine lv_iconst (v := 3) S.1 S.2.1 dX11_next_45 (by decide) ?_
          refine pM_0_18 S K w w746 dX11_next_46 (fun H locs w => ?_)
          refine lv_goto (tgt := 253) S.1 S.2.1 dX11_next_49 (by decide) ?_
          exact z_retv S w hr hlk dX11_next_253 (Option.some.inj h).symm
      · have h := og_t c4 h
        refine lv_aload_n S.1 S.2.1 dX11_next_9 rfl (lv_at hl 0 rfl) ?_
        refine lv_dup S.1 S.2.1 dX11_next_10 rfl ?_
        refine gM_0_16 S K w w744 dX11_next_11 ?_
        refine lv_iconst (v := 1) S.1 S.2.1 dX11_next_14 (by decide) ?_
        refine lv_iadd S.1 S.2.1 dX11_next_15 ?_
        refine pM_0_16 S K w w744 dX11_next_16 (fun H locs w => ?_)
        refine lv_goto (tgt := 0) S.1 S.2.1 dX11_next_19 (by decide) ?_
        exact ih0 _ _ _ h _ _ _ (lv_sub hl [0] rfl) w
  exact j0 1000 _ _ _ h _ _ _ (lv_sub hl [0] rfl) w
set_option maxHeartbeats 4000000 in
set_option maxRecDepth 100000 in
theorem c_X11_mayBe (l : Launch) (D : va_G) (cs : Nat → ClassId) (ad : Nat → Nat) (F : ZF) (A : ZA) (T : Int64) (a0 : Int32) (q : Int32) (h : f_X11_mayBe a0 F A T = q) : zMi l D cs (MW cs ad) yX11_mayBe cX11_mayBe 2 (some .boolean) rm_X11_mayBe ([.ref (ad 0), .int a0] : List Value) F A T ((q, F, A, T) : Int32 × ZS) (((q, F, A, T) : Int32 × ZS).1 &&& 1 = ((q, F, A, T) : Int32 × ZS).1) := by
  refine z_enteri (by decide) (Nat.le_of_ble_eq_true rfl) ?_
  intro p e s m below meth c A0 ls S K w hA hr hlk hl
  have S : CallFix p m c cX11_mayBe 2 s ([.ref (ad 0), .int a0] : List Value).toArray zWs RX11 := S
  have hl : lv_has ls 2 [(0, .ref (ad 0)), (1, .int a0)] := hl
  unfold f_X11_mayBe at h
  refine lv_iload_n S.1 S.2.1 dX11_mayBe_0 rfl (lv_at hl 1 rfl) ?_
  by_cases c1 : a0 = (97 : Int32)
  · have h := og_t c1 h
    refine lv_lookup (tgt := 86) S.1 S.2.1 dX11_mayBe_1 (by decide) (off := 85) (by rw [c1]; decide) (by decide) ?_
    refine lv_aload_n S.1 S.2.1 dX11_mayBe_86 rfl (lv_at hl 0 rfl) ?_
    refine gM_0_9 S K w w737 dX11_mayBe_87 ?_
    refine lv_iconst (v := 1) S.1 S.2.1 dX11_mayBe_90 (by decide) ?_
    refine aM_8 S K w gk_1_2 dX11_mayBe_91 ?_
    refine lv_bipush (v := 8) S.1 S.2.1 dX11_mayBe_92 (by decide) ?_
    refine lv_icmp_ge (tgt := 101) S.1 S.2.1 dX11_mayBe_94 (by decide) (fun c2 => ?_) (fun c2 => ?_)
    · have h := og_t c2 h
      refine lv_iconst (v := 0) S.1 S.2.1 dX11_mayBe_101 (by decide) ?_
      exact z_retz S w hr hlk dX11_mayBe_102 (by decide) (by rw [← h])
    · have h := og_f c2 h
      refine lv_iconst (v := 1) S.1 S.2.1 dX11_mayBe_97 (by decide) ?_
      refine lv_goto (tgt := 102) S.1 S.2.1 dX11_mayBe_98 (by decide) ?_
      exact z_retz S w hr hlk dX11_mayBe_102 (by decide) (by rw [← h])
  · have h := og_f c1 h
    by_cases c3 : a0 = (100 : Int32)
    · have h := og_t c3 h
      refine lv_lookup (tgt := 116) S.1 S.2.1 dX11_mayBe_1 (by decide) (off := 115) (by rw [c3]; decide) (by decide) ?_
      refine lv_aload_n S.1 S.2.1 dX11_mayBe_116 rfl (lv_at hl 0 rfl) ?_
      refine gM_0_22 S K w w750 dX11_mayBe_117 ?_
      refine lv_if_ne (tgt := 127) S.1 S.2.1 dX11_mayBe_120 (by decide) (fun c4 => ?_) (fun c4 => ?_)
      · have h := og_f c4 h
        refine lv_iconst (v := 0) S.1 S.2.1 dX11_mayBe_127 (by decide) ?_
        exact z_retz S w hr hlk dX11_mayBe_128 (by decide) (by rw [← h])
      · have h := og_t c4 h
        refine lv_iconst (v := 1) S.1 S.2.1 dX11_mayBe_123 (by decide) ?_
        refine lv_goto (tgt := 128) S.1 S.2.1 dX11_mayBe_124 (by decide) ?_
        exact z_retz S w hr hlk dX11_mayBe_128 (by decide) (by rw [← h])
    · have h := og_f c3 h
      by_cases c5 : a0 = (102 : Int32)
      · have h := og_t c5 h
        refine lv_lookup (tgt := 69) S.1 S.2.1 dX11_mayBe_1 (by decide) (off := 68) (by rw [c5]; decide) (by decide) ?_
        refine lv_aload_n S.1 S.2.1 dX11_mayBe_69 rfl (lv_at hl 0 rfl) ?_
        refine gM_0_5 S K w w733 dX11_mayBe_70 ?_
        refine lv_iconst (v := 1) S.1 S.2.1 dX11_mayBe_73 (by decide) ?_
        refine aM_4 S K w gk_1_2 dX11_mayBe_74 ?_
        refine lv_bipush (v := 8) S.1 S.2.1 dX11_mayBe_75 (by decide) ?_
        refine lv_icmp_ge (tgt := 84) S.1 S.2.1 dX11_mayBe_77 (by decide) (fun c6 => ?_) (fun c6 => ?_)
        · have h := og_t c6 h
          refine lv_iconst (v := 0) S.1 S.2.1 dX11_mayBe_84 (by decide) ?_
          exact z_retz S w hr hlk dX11_mayBe_85 (by decide) (by rw [← h])
        · have h := og_f c6 h
          refine lv_iconst (v := 1) S.1 S.2.1 dX11_mayBe_80 (by decide) ?_
          refine lv_goto (tgt := 85) S.1 S.2.1 dX11_mayBe_81 (by decide) ?_
          exact z_retz S w hr hlk dX11_mayBe_85 (by decide) (by rw [← h])
      · have h := og_f c5 h
        by_cases c7 : a0 = (115 : Int32)
        · have h := og_t c7 h
          refine lv_lookup (tgt := 52) S.1 S.2.1 dX11_mayBe_1 (by decide) (off := 51) (by rw [c7]; decide) (by decide) ?_
          refine lv_aload_n S.1 S.2.1 dX11_mayBe_52 rfl (lv_at hl 0 rfl) ?_
          refine gM_0_3 S K w w731 dX11_mayBe_53 ?_
          refine lv_iconst (v := 1) S.1 S.2.1 dX11_mayBe_56 (by decide) ?_
          refine aM_2 S K w gk_1_2 dX11_mayBe_57 ?_
          refine lv_bipush (v := 6) S.1 S.2.1 dX11_mayBe_58 (by decide) ?_
          refine lv_icmp_ge (tgt := 67) S.1 S.2.1 dX11_mayBe_60 (by decide) (fun c8 => ?_) (fun c8 => ?_)
          · have h := og_t c8 h
            refine lv_iconst (v := 0) S.1 S.2.1 dX11_mayBe_67 (by decide) ?_
            exact z_retz S w hr hlk dX11_mayBe_68 (by decide) (by rw [← h])
          · have h := og_f c8 h
            refine lv_iconst (v := 1) S.1 S.2.1 dX11_mayBe_63 (by decide) ?_
            refine lv_goto (tgt := 68) S.1 S.2.1 dX11_mayBe_64 (by decide) ?_
            exact z_retz S w hr hlk dX11_mayBe_68 (by decide) (by rw [← h])
        · have h := og_f c7 h
          by_cases c9 : a0 = (116 : Int32)
          · have h := og_t c9 h
            refine lv_lookup (tgt := 103) S.1 S.2.1 dX11_mayBe_1 (by decide) (off := 102) (by rw [c9]; decide) (by decide) ?_
            refine lv_aload_n S.1 S.2.1 dX11_mayBe_103 rfl (lv_at hl 0 rfl) ?_
            refine gM_0_21 S K w w749 dX11_mayBe_104 ?_
            refine lv_if_ne (tgt := 114) S.1 S.2.1 dX11_mayBe_107 (by decide) (fun c10 => ?_) (fun c10 => ?_)
            · have h := og_f c10 h
              refine lv_iconst (v := 0) S.1 S.2.1 dX11_mayBe_114 (by decide) ?_
              exact z_retz S w hr hlk dX11_mayBe_115 (by decide) (by rw [← h])
            · have h := og_t c10 h
              refine lv_iconst (v := 1) S.1 S.2.1 dX11_mayBe_110 (by decide) ?_
              refine lv_goto (tgt := 115) S.1 S.2.1 dX11_mayBe_111 (by decide) ?_
              exact z_retz S w hr hlk dX11_mayBe_115 (by decide) (by rw [← h])
          · have h := og_f c9 h
            refine lv_lookup (tgt := 129) S.1 S.2.1 dX11_mayBe_1 (by decide) (off := 128) (by show Op.lookupswitch.offset [(97, 85), (100, 115), (102, 68), (115, 51), (116, 102)] 128 _ = 128; rw [lv_osw (k := (97 : Int32)) c1 (by decide), lv_osw (k := (100 : Int32)) c3 (by decide), lv_osw (k := (102 : Int32)) c5 (by decide), lv_osw (k := (115 : Int32)) c7 (by decide), lv_osw (k := (116 : Int32)) c9 (by decide)]; rfl) (by decide) ?_
            refine lv_iconst (v := 0) S.1 S.2.1 dX11_mayBe_129 (by decide) ?_
            exact z_retz S w hr hlk dX11_mayBe_130 (by decide) (by rw [← h])
set_option maxHeartbeats 4000000 in
set_option maxRecDepth 100000 in
theorem c_X11_due (l : Launch) (D : va_G) (cs : Nat → ClassId) (ad : Nat → Nat) (F : ZF) (A : ZA) (T : Int64) (a0 : Int32) (q : (Int32 × ZS)) (h : f_X11_due a0 F A T = some q) : zMi l D cs (MW cs ad) yX11_due cX11_due 3 (some .int) rm_X11_due ([.ref (ad 0), .int a0] : List Value) F A T q True := by
  refine z_enteri (by decide) (Nat.le_of_ble_eq_true rfl) ?_
  intro p e s m below meth c A0 ls S K w hA hr hlk hl
  have S : CallFix p m c cX11_due 3 s ([.ref (ad 0), .int a0] : List Value).toArray zWs RX11 := S
  have hl : lv_has ls 3 [(0, .ref (ad 0)), (1, .int a0)] := hl
  unfold f_X11_due at h
  refine lv_aload_n S.1 S.2.1 dX11_due_0 rfl (lv_at hl 0 rfl) ?_
  refine gM_0_19 S K w w747 dX11_due_1 ?_
  refine lv_istore_n (lv' := [(2, .int (F 4)), (0, .ref (ad 0)), (1, .int a0)]) S.1 S.2.1 dX11_due_4 rfl hl (by decide) rfl (fun ls hl => ?_)
  refine lv_aload_n S.1 S.2.1 dX11_due_5 rfl (lv_at hl 1 rfl) ?_
  refine gM_0_20 S K w w748 dX11_due_6 ?_
  refine lv_bipush (v := -9) S.1 S.2.1 dX11_due_9 (by decide) ?_
  refine lv_icmp_ne (tgt := 33) S.1 S.2.1 dX11_due_11 (by decide) (fun c1 => ?_) (fun c1 => ?_)
  · have h := og_f c1 h
    refine lv_iload_n S.1 S.2.1 dX11_due_33 rfl (lv_at hl 0 rfl) ?_
    exact z_reti S w hr hlk dX11_due_34 trivial (Option.some.inj h).symm
  · have h := og_t c1 h
    refine lv_iload_n S.1 S.2.1 dX11_due_14 rfl (lv_at hl 2 rfl) ?_
    refine lv_if_eq (tgt := 25) S.1 S.2.1 dX11_due_15 (by decide) (fun c2 => ?_) (fun c2 => ?_)
    · have h := og_t c2 h
      refine lv_aload_n S.1 S.2.1 dX11_due_25 rfl (lv_at hl 1 rfl) ?_
      refine lv_aload_n S.1 S.2.1 dX11_due_26 rfl (lv_at hl 1 rfl) ?_
      refine gM_0_17 S K w w745 dX11_due_27 ?_
      refine pM_0_20 S K w w748 dX11_due_30 (fun H locs w => ?_)
      refine lv_iload_n S.1 S.2.1 dX11_due_33 rfl (lv_at hl 0 rfl) ?_
      exact z_reti S w hr hlk dX11_due_34 trivial (Option.some.inj h).symm
    · have h := og_f c2 h
      refine lv_aload_n S.1 S.2.1 dX11_due_18 rfl (lv_at hl 1 rfl) ?_
      obtain ⟨q3, e4, h⟩ := og_b h
      refine z_callVv S K w hA (c_X11_next l D cs ad F A T q3 e4) (cw_X11_99 S.2.2.2.2 ⟨Nat.le_of_ble_eq_true rfl, Nat.le_of_ble_eq_true rfl⟩) (z_recv K w 0 11 rfl rfl) rfl hl.1 rfl (Nat.le_of_ble_eq_true rfl) ⟨Nat.zero_le _, Nat.zero_le _⟩ dX11_due_19 (fun H locs w => ?_)
      refine lv_goto (tgt := 33) S.1 S.2.1 dX11_due_22 (by decide) ?_
      refine lv_iload_n S.1 S.2.1 dX11_due_33 rfl (lv_at hl 0 rfl) ?_
      exact z_reti S w hr hlk dX11_due_34 trivial (Option.some.inj h).symm
set_option maxHeartbeats 4000000 in
set_option maxRecDepth 100000 in
theorem c_X11_number (l : Launch) (D : va_G) (cs : Nat → ClassId) (ad : Nat → Nat) (F : ZF) (A : ZA) (T : Int64) (a0 a1 : Int32) (q : (Int32 × ZS)) (h : f_X11_number a0 a1 F A T = some q) : zMi l D cs (MW cs ad) yX11_number cX11_number 3 (some .int) rm_X11_number ([.ref (ad 0), .int a0, .int a1] : List Value) F A T q True := by
  refine z_enteri (by decide) (Nat.le_of_ble_eq_true rfl) ?_
  intro p e s m below meth c A0 ls S K w hA hr hlk hl
  have S : CallFix p m c cX11_number 3 s ([.ref (ad 0), .int a0, .int a1] : List Value).toArray zWs RX11 := S
  have hl : lv_has ls 3 [(0, .ref (ad 0)), (1, .int a0), (2, .int a1)] := hl
  unfold f_X11_number at h
  have j26 : ∀ (y0 : Int32) (F : ZF) (A : ZA) (T : Int64), f_X11_number_26 y0 F A T = some q → ∀ (H : Heap) (locs : List Loc) (ls : Array Slot), lv_has ls 3 [] → ZW D A0 s.heap (MW cs ad F A T) H locs → W p l e rm_X11_number s m ([.ref (ad 0), .int a0, .int a1] : List Value).toArray below meth c H locs 0 0 (zQi (MW cs ad) D A0 below ([.ref (ad 0), .int a0, .int a1] : List Value) s q True) (F0 m 26 ls [.int y0, .ref (ad 0)]) := by
    intro y0 F A T h H locs ls hl w
    unfold f_X11_number_26 at h
    obtain ⟨q2, e3, h⟩ := og_b h
    refine z_callVi S K w hA (c_X11_due l D cs ad F A T y0 q2 e3) (cw_X11_102 S.2.2.2.2 ⟨Nat.le_of_ble_eq_true rfl, Nat.le_of_ble_eq_true rfl⟩) (z_recv K w 0 11 rfl rfl) rfl hl.1 rfl (Nat.le_of_ble_eq_true rfl) ⟨Nat.zero_le _, Nat.zero_le _⟩ dX11_number_26 (fun b1 H locs w => ?_)
    exact z_reti S w hr hlk dX11_number_29 trivial (Option.some.inj h).symm
  refine lv_aload_n S.1 S.2.1 dX11_number_0 rfl (lv_at hl 0 rfl) ?_
  refine lv_aload_n S.1 S.2.1 dX11_number_1 rfl (lv_at hl 0 rfl) ?_
  refine gM_0_18 S K w w746 dX11_number_2 ?_
  refine lv_iconst (v := 1) S.1 S.2.1 dX11_number_5 (by decide) ?_
  refine lv_icmp_ne (tgt := 25) S.1 S.2.1 dX11_number_6 (by decide) (fun c4 => ?_) (fun c4 => ?_)
  · have h := og_f c4 h
    refine lv_iconst (v := 0) S.1 S.2.1 dX11_number_25 (by decide) ?_
    exact j26 _ _ _ _ h _ _ _ (lv_sub hl [] rfl) w
  · have h := og_t c4 h
    refine lv_aload_n S.1 S.2.1 dX11_number_9 rfl (lv_at hl 0 rfl) ?_
    refine gM_0_19 S K w w747 dX11_number_10 ?_
    refine lv_iload_n S.1 S.2.1 dX11_number_13 rfl (lv_at hl 1 rfl) ?_
    refine lv_iload_n S.1 S.2.1 dX11_number_14 rfl (lv_at hl 2 rfl) ?_
    refine z_callSr S K w hA (c_X11_in l D cs ad F A T (F 4) a0 a1 (f_X11_in (F 4) a0 a1) rfl) (cw_X11_72 S.2.2.2.2 ⟨Nat.le_of_ble_eq_true rfl, Nat.le_of_ble_eq_true rfl⟩) rfl hl.1 rfl (Nat.le_of_ble_eq_true rfl) ⟨Nat.zero_le _, Nat.zero_le _⟩ dX11_number_15 (fun b5 H locs w => ?_)
    refine lv_if_eq (tgt := 25) S.1 S.2.1 dX11_number_18 (by decide) (fun c6 => ?_) (fun c6 => ?_)
    · have h := og_t c6 h
      refine lv_iconst (v := 0) S.1 S.2.1 dX11_number_25 (by decide) ?_
      exact j26 _ _ _ _ h _ _ _ (lv_sub hl [] rfl) w
    · have h := og_f c6 h
      refine lv_iconst (v := 1) S.1 S.2.1 dX11_number_21 (by decide) ?_
      refine lv_goto (tgt := 26) S.1 S.2.1 dX11_number_22 (by decide) ?_
      exact j26 _ _ _ _ h _ _ _ (lv_sub hl [] rfl) w
set_option maxHeartbeats 4000000 in
set_option maxRecDepth 100000 in
theorem c_X11_readFact (l : Launch) (D : va_G) (cs : Nat → ClassId) (ad : Nat → Nat) (F : ZF) (A : ZA) (T : Int64) (q : ZS) (h : f_X11_readFact F A T = some q) : zMv l D cs (MW cs ad) yX11_readFact cX11_readFact 3 none rm_X11_readFact ([.ref (ad 0)] : List Value) F A T q := by
  refine z_enterv (by decide) (Nat.le_of_ble_eq_true rfl) ?_
  intro p e s m below meth c A0 ls S K w hA hr hlk hl
  have S : CallFix p m c cX11_readFact 3 s ([.ref (ad 0)] : List Value).toArray zWs RX11 := S
  have hl : lv_has ls 3 [(0, .ref (ad 0))] := hl
  unfold f_X11_readFact at h
  have j38 : ∀ (n38 : Nat) (x1 x2 : Int32) (F : ZF) (A : ZA) (T : Int64), f_X11_readFact_38 n38 x1 x2 F A T = some q → ∀ (H : Heap) (locs : List Loc) (ls : Array Slot), lv_has ls 3 [(0, .ref (ad 0)), (1, .int x1), (2, .int x2)] → ZW D A0 s.heap (MW cs ad F A T) H locs → W p l e rm_X11_readFact s m ([.ref (ad 0)] : List Value).toArray below meth c H locs 0 0 (zQv (MW cs ad) D A0 below ([.ref (ad 0)] : List Value) s q) (F0 m 38 ls []) := by
    intro n38
    induction n38 with
    | zero =>
      intro x1 x2 F A T h H locs ls hl w
      have h : (none : Option ZS) = some q := h
      cases h
    | succ n38 ih38 =>
      intro x1 x2 F A T h H locs ls hl w
      rw [f_X11_readFact_38_s] at h
      have j78 : ∀ (x1 x2 y0 y1 : Int32) (F : ZF) (A : ZA) (T : Int64), f_X11_readFact_78 (f_X11_readFact_38 n38) x1 x2 y0 y1 F A T = some q → ∀ (H : Heap) (locs : List Loc) (ls : Array Slot), lv_has ls 3 [(0, .ref (ad 0)), (1, .int x1), (2, .int x2)] → ZW D A0 s.heap (MW cs ad F A T) H locs → W p l e rm_X11_readFact s m ([.ref (ad 0)] : List Value).toArray below meth c H locs 0 0 (zQv (MW cs ad) D A0 below ([.ref (ad 0)] : List Value) s q) (F0 m 78 ls [.int y0, .int y1, .ref (ad 7)]) := by
        intro x1 x2 y0 y1 F A T h H locs ls hl w
        unfold f_X11_readFact_78 at h
        obtain ⟨g6, h⟩ := og_g h
        refine sM_7 S K w g6 dX11_readFact_78 (fun H locs w => ?_)
        refine lv_iinc (v := (x2 + (1 : Int32))) (lv' := [(2, .int (x2 + (1 : Int32))), (0, .ref (ad 0)), (1, .int x1)]) S.1 S.2.1 dX11_readFact_79 hl (k := 2) rfl rfl (by decide) rfl (fun ls hl => ?_)
        refine lv_goto (tgt := 38) S.1 S.2.1 dX11_readFact_82 (by decide) ?_
        exact ih38 _ _ _ _ _ h _ _ _ (lv_sub hl [1, 2, 0] rfl) w
      refine lv_iload_n S.1 S.2.1 dX11_readFact_38 rfl (lv_at hl 2 rfl) ?_
      refine lv_bipush (v := 6) S.1 S.2.1 dX11_readFact_39 (by decide) ?_
      refine lv_icmp_ge (tgt := 85) S.1 S.2.1 dX11_readFact_41 (by decide) (fun c1 => ?_) (fun c1 => ?_)
      · have h := og_t c1 h
        refine lv_aload_n S.1 S.2.1 dX11_readFact_85 rfl (lv_at hl 0 rfl) ?_
        refine gM_0_5 S K w w733 dX11_readFact_86 ?_
        refine lv_iconst (v := 1) S.1 S.2.1 dX11_readFact_89 (by decide) ?_
        refine lv_dup2_11 S.1 S.2.1 dX11_readFact_90 rfl rfl ?_
        refine aM_4 S K w gk_1_2 dX11_readFact_91 ?_
        refine lv_iconst (v := 1) S.1 S.2.1 dX11_readFact_92 (by decide) ?_
        refine lv_iadd S.1 S.2.1 dX11_readFact_93 ?_
        refine sM_4 S K w gk_1_2 dX11_readFact_94 (fun H locs w => ?_)
        exact z_retv S w hr hlk dX11_readFact_95 (Option.some.inj h).symm
      · have h := og_f c1 h
        refine lv_aload_n S.1 S.2.1 dX11_readFact_44 rfl (lv_at hl 0 rfl) ?_
        refine gM_0_8 S K w w736 dX11_readFact_45 ?_
        refine lv_bipush (v := 6) S.1 S.2.1 dX11_readFact_48 (by decide) ?_
        refine lv_iload_n S.1 S.2.1 dX11_readFact_50 rfl (lv_at hl 1 rfl) ?_
        refine lv_imul S.1 S.2.1 dX11_readFact_51 ?_
        refine lv_iload_n S.1 S.2.1 dX11_readFact_52 rfl (lv_at hl 2 rfl) ?_
        refine lv_iadd S.1 S.2.1 dX11_readFact_53 ?_
        refine lv_iload_n S.1 S.2.1 dX11_readFact_54 rfl (lv_at hl 2 rfl) ?_
        refine lv_aload_n S.1 S.2.1 dX11_readFact_55 rfl (lv_at hl 0 rfl) ?_
        refine gM_0_3 S K w w731 dX11_readFact_56 ?_
        refine lv_iconst (v := 1) S.1 S.2.1 dX11_readFact_59 (by decide) ?_
        refine aM_2 S K w gk_1_2 dX11_readFact_60 ?_
        refine lv_icmp_ge (tgt := 77) S.1 S.2.1 dX11_readFact_61 (by decide) (fun c2 => ?_) (fun c2 => ?_)
        · have h := og_t c2 h
          refine lv_iconst (v := 0) S.1 S.2.1 dX11_readFact_77 (by decide) ?_
          exact j78 _ _ _ _ _ _ _ h _ _ _ (lv_sub hl [0, 1, 2] rfl) w
        · have h := og_f c2 h
          refine lv_aload_n S.1 S.2.1 dX11_readFact_64 rfl (lv_at hl 0 rfl) ?_
          refine lv_iconst (v := 0) S.1 S.2.1 dX11_readFact_65 (by decide) ?_
          refine lv_bipush (v := 18) S.1 S.2.1 dX11_readFact_66 (by decide) ?_
          obtain ⟨q4, e5, h⟩ := og_b h
          refine z_callVi S K w hA (c_X11_number l D cs ad F A T (0 : Int32) (18 : Int32) q4 e5) (cw_X11_113 S.2.2.2.2 ⟨Nat.le_of_ble_eq_true rfl, Nat.le_of_ble_eq_true rfl⟩) (z_recv K w 0 11 rfl rfl) rfl hl.1 rfl (Nat.le_of_ble_eq_true rfl) ⟨Nat.zero_le _, Nat.zero_le _⟩ dX11_readFact_68 (fun b3 H locs w => ?_)
          refine lv_bipush (v := 9) S.1 S.2.1 dX11_readFact_71 (by decide) ?_
          refine lv_isub S.1 S.2.1 dX11_readFact_73 ?_
          refine lv_goto (tgt := 78) S.1 S.2.1 dX11_readFact_74 (by decide) ?_
          exact j78 _ _ _ _ _ _ _ h _ _ _ (lv_sub hl [0, 1, 2] rfl) w
  refine lv_bipush (v := 8) S.1 S.2.1 dX11_readFact_0 (by decide) ?_
  refine lv_aload_n S.1 S.2.1 dX11_readFact_2 rfl (lv_at hl 0 rfl) ?_
  refine gM_0_5 S K w w733 dX11_readFact_3 ?_
  refine lv_iconst (v := 1) S.1 S.2.1 dX11_readFact_6 (by decide) ?_
  refine aM_4 S K w gk_1_2 dX11_readFact_7 ?_
  refine lv_iadd S.1 S.2.1 dX11_readFact_8 ?_
  refine lv_istore_n (lv' := [(1, .int ((8 : Int32) + (A 4 ((1 : Int32)).toNatClampNeg))), (0, .ref (ad 0))]) S.1 S.2.1 dX11_readFact_9 rfl hl (by decide) rfl (fun ls hl => ?_)
  refine lv_aload_n S.1 S.2.1 dX11_readFact_10 rfl (lv_at hl 1 rfl) ?_
  refine gM_0_6 S K w w734 dX11_readFact_11 ?_
  refine lv_iload_n S.1 S.2.1 dX11_readFact_14 rfl (lv_at hl 0 rfl) ?_
  refine lv_aload_n S.1 S.2.1 dX11_readFact_15 rfl (lv_at hl 1 rfl) ?_
  refine lv_iconst (v := 1) S.1 S.2.1 dX11_readFact_16 (by decide) ?_
  refine lv_bipush (v := 9) S.1 S.2.1 dX11_readFact_17 (by decide) ?_
  obtain ⟨q8, e9, h⟩ := og_b h
  refine z_callVi S K w hA (c_X11_number l D cs ad F A T (1 : Int32) (9 : Int32) q8 e9) (cw_X11_113 S.2.2.2.2 ⟨Nat.le_of_ble_eq_true rfl, Nat.le_of_ble_eq_true rfl⟩) (z_recv K w 0 11 rfl rfl) rfl hl.1 rfl (Nat.le_of_ble_eq_true rfl) ⟨Nat.zero_le _, Nat.zero_le _⟩ dX11_readFact_19 (fun b7 H locs w => ?_)
  obtain ⟨g10, h⟩ := og_g h
  refine sM_5 S K w g10 dX11_readFact_22 (fun H locs w => ?_)
  refine lv_aload_n S.1 S.2.1 dX11_readFact_23 rfl (lv_at hl 1 rfl) ?_
  refine gM_0_7 S K w w735 dX11_readFact_24 ?_
  refine lv_iload_n S.1 S.2.1 dX11_readFact_27 rfl (lv_at hl 0 rfl) ?_
  refine lv_aload_n S.1 S.2.1 dX11_readFact_28 rfl (lv_at hl 1 rfl) ?_
  refine lv_iconst (v := 0) S.1 S.2.1 dX11_readFact_29 (by decide) ?_
  refine lv_bipush (v := 10) S.1 S.2.1 dX11_readFact_30 (by decide) ?_
  obtain ⟨q12, e13, h⟩ := og_b h
  refine z_callVi S K w hA (c_X11_number l D cs ad q8.2.1 (zst q8.2.2.1 5 (((8 : Int32) + (A 4 ((1 : Int32)).toNatClampNeg))).toNatClampNeg q8.1) q8.2.2.2 (0 : Int32) (10 : Int32) q12 e13) (cw_X11_113 S.2.2.2.2 ⟨Nat.le_of_ble_eq_true rfl, Nat.le_of_ble_eq_true rfl⟩) (z_recv K w 0 11 rfl rfl) rfl hl.1 rfl (Nat.le_of_ble_eq_true rfl) ⟨Nat.zero_le _, Nat.zero_le _⟩ dX11_readFact_32 (fun b11 H locs w => ?_)
  obtain ⟨g14, h⟩ := og_g h
  refine sM_6 S K w g14 dX11_readFact_35 (fun H locs w => ?_)
  refine lv_iconst (v := 0) S.1 S.2.1 dX11_readFact_36 (by decide) ?_
  refine lv_istore_n (lv' := [(2, .int (0 : Int32)), (1, .int ((8 : Int32) + (A 4 ((1 : Int32)).toNatClampNeg))), (0, .ref (ad 0))]) S.1 S.2.1 dX11_readFact_37 rfl hl (by decide) rfl (fun ls hl => ?_)
  exact j38 1000 _ _ _ _ _ h _ _ _ (lv_sub hl [2, 1, 0] rfl) w
set_option maxHeartbeats 4000000 in
set_option maxRecDepth 100000 in
theorem c_X11_readRow (l : Launch) (D : va_G) (cs : Nat → ClassId) (ad : Nat → Nat) (F : ZF) (A : ZA) (T : Int64) (a0 : Int32) (q : ZS) (h : f_X11_readRow a0 F A T = some q) : zMv l D cs (MW cs ad) yX11_readRow cX11_readRow 3 none rm_X11_readRow ([.ref (ad 0), .int a0] : List Value) F A T q := by
  refine z_enterv (by decide) (Nat.le_of_ble_eq_true rfl) ?_
  intro p e s m below meth c A0 ls S K w hA hr hlk hl
  have S : CallFix p m c cX11_readRow 3 s ([.ref (ad 0), .int a0] : List Value).toArray zWs RX11 := S
  have hl : lv_has ls 3 [(0, .ref (ad 0)), (1, .int a0)] := hl
  unfold f_X11_readRow at h
  refine lv_iload_n S.1 S.2.1 dX11_readRow_0 rfl (lv_at hl 1 rfl) ?_
  refine lv_bipush (v := 115) S.1 S.2.1 dX11_readRow_1 (by decide) ?_
  refine lv_icmp_ne (tgt := 40) S.1 S.2.1 dX11_readRow_3 (by decide) (fun c1 => ?_) (fun c1 => ?_)
  · have h := og_f c1 h
    refine lv_iload_n S.1 S.2.1 dX11_readRow_40 rfl (lv_at hl 1 rfl) ?_
    refine lv_bipush (v := 102) S.1 S.2.1 dX11_readRow_41 (by decide) ?_
    refine lv_icmp_ne (tgt := 53) S.1 S.2.1 dX11_readRow_43 (by decide) (fun c2 => ?_) (fun c2 => ?_)
    · have h := og_f c2 h
      refine lv_iload_n S.1 S.2.1 dX11_readRow_53 rfl (lv_at hl 1 rfl) ?_
      refine lv_bipush (v := 97) S.1 S.2.1 dX11_readRow_54 (by decide) ?_
      refine lv_icmp_ne (tgt := 144) S.1 S.2.1 dX11_readRow_56 (by decide) (fun c3 => ?_) (fun c3 => ?_)
      · have h := og_f c3 h
        refine lv_iload_n S.1 S.2.1 dX11_readRow_144 rfl (lv_at hl 1 rfl) ?_
        refine lv_bipush (v := 116) S.1 S.2.1 dX11_readRow_145 (by decide) ?_
        refine lv_icmp_ne (tgt := 189) S.1 S.2.1 dX11_readRow_147 (by decide) (fun c4 => ?_) (fun c4 => ?_)
        · have h := og_f c4 h
          refine lv_aload_n S.1 S.2.1 dX11_readRow_189 rfl (lv_at hl 0 rfl) ?_
          refine lv_aload_n S.1 S.2.1 dX11_readRow_190 rfl (lv_at hl 0 rfl) ?_
          refine lv_iconst (v := 0) S.1 S.2.1 dX11_readRow_191 (by decide) ?_
          refine lv_bipush (v := 60) S.1 S.2.1 dX11_readRow_192 (by decide) ?_
          obtain ⟨q6, e7, h⟩ := og_b h
          refine z_callVi S K w hA (c_X11_number l D cs ad F A T (0 : Int32) (60 : Int32) q6 e7) (cw_X11_113 S.2.2.2.2 ⟨Nat.le_of_ble_eq_true rfl, Nat.le_of_ble_eq_true rfl⟩) (z_recv K w 0 11 rfl rfl) rfl hl.1 rfl (Nat.le_of_ble_eq_true rfl) ⟨Nat.zero_le _, Nat.zero_le _⟩ dX11_readRow_194 (fun b5 H locs w => ?_)
          refine pM_0_23 S K w w751 dX11_readRow_197 (fun H locs w => ?_)
          refine lv_aload_n S.1 S.2.1 dX11_readRow_200 rfl (lv_at hl 0 rfl) ?_
          refine lv_iconst (v := 1) S.1 S.2.1 dX11_readRow_201 (by decide) ?_
          refine pM_0_22 S K w rfl rfl w750 dX11_readRow_202 (fun H locs w => ?_)
          exact z_retv S w hr hlk dX11_readRow_205 (Option.some.inj h).symm
        · have h := og_t c4 h
          refine lv_aload_n S.1 S.2.1 dX11_readRow_150 rfl (lv_at hl 0 rfl) ?_
          refine gM_0_14 S K w w742 dX11_readRow_151 ?_
          refine lv_iconst (v := 1) S.1 S.2.1 dX11_readRow_154 (by decide) ?_
          refine lv_aload_n S.1 S.2.1 dX11_readRow_155 rfl (lv_at hl 0 rfl) ?_
          refine lv_iconst (v := 0) S.1 S.2.1 dX11_readRow_156 (by decide) ?_
          refine lv_bipush (v := 23) S.1 S.2.1 dX11_readRow_157 (by decide) ?_
          obtain ⟨q9, e10, h⟩ := og_b h
          refine z_callVi S K w hA (c_X11_number l D cs ad F A T (0 : Int32) (23 : Int32) q9 e10) (cw_X11_113 S.2.2.2.2 ⟨Nat.le_of_ble_eq_true rfl, Nat.le_of_ble_eq_true rfl⟩) (z_recv K w 0 11 rfl rfl) rfl hl.1 rfl (Nat.le_of_ble_eq_true rfl) ⟨Nat.zero_le _, Nat.zero_le _⟩ dX11_readRow_159 (fun b8 H locs w => ?_)
          refine sM_13 S K w gk_1_2 dX11_readRow_162 (fun H locs w => ?_)
          refine lv_aload_n S.1 S.2.1 dX11_readRow_163 rfl (lv_at hl 0 rfl) ?_
          refine gM_0_15 S K w w743 dX11_readRow_164 ?_
          refine lv_iconst (v := 1) S.1 S.2.1 dX11_readRow_167 (by decide) ?_
          refine lv_aload_n S.1 S.2.1 dX11_readRow_168 rfl (lv_at hl 0 rfl) ?_
          refine lv_aload_n S.1 S.2.1 dX11_readRow_169 rfl (lv_at hl 0 rfl) ?_
          refine gM_0_14 S K w w742 dX11_readRow_170 ?_
          refine lv_iconst (v := 1) S.1 S.2.1 dX11_readRow_173 (by decide) ?_
          refine aM_13 S K w gk_1_2 dX11_readRow_174 ?_
          refine lv_bipush (v := 23) S.1 S.2.1 dX11_readRow_175 (by decide) ?_
          obtain ⟨q12, e13, h⟩ := og_b h
          refine z_callVi S K w hA (c_X11_number l D cs ad q9.2.1 (zst q9.2.2.1 13 ((1 : Int32)).toNatClampNeg q9.1) q9.2.2.2 ((zst q9.2.2.1 13 ((1 : Int32)).toNatClampNeg q9.1) 13 ((1 : Int32)).toNatClampNeg) (23 : Int32) q12 e13) (cw_X11_113 S.2.2.2.2 ⟨Nat.le_of_ble_eq_true rfl, Nat.le_of_ble_eq_true rfl⟩) (z_recv K w 0 11 rfl rfl) rfl hl.1 rfl (Nat.le_of_ble_eq_true rfl) ⟨Nat.zero_le _, Nat.zero_le _⟩ dX11_readRow_177 (fun b11 H locs w => ?_)
          refine sM_14 S K w gk_1_2 dX11_readRow_180 (fun H locs w => ?_)
          refine lv_aload_n S.1 S.2.1 dX11_readRow_181 rfl (lv_at hl 0 rfl) ?_
          refine lv_iconst (v := 1) S.1 S.2.1 dX11_readRow_182 (by decide) ?_
          refine pM_0_21 S K w rfl rfl w749 dX11_readRow_183 (fun H locs w => ?_)
          refine lv_goto (tgt := 205) S.1 S.2.1 dX11_readRow_186 (by decide) ?_
          exact z_retv S w hr hlk dX11_readRow_205 (Option.some.inj h).symm
      · have h := og_t c3 h
        refine lv_bipush (v := 8) S.1 S.2.1 dX11_readRow_59 (by decide) ?_
        refine lv_aload_n S.1 S.2.1 dX11_readRow_61 rfl (lv_at hl 0 rfl) ?_
        refine gM_0_9 S K w w737 dX11_readRow_62 ?_
        refine lv_iconst (v := 1) S.1 S.2.1 dX11_readRow_65 (by decide) ?_
        refine aM_8 S K w gk_1_2 dX11_readRow_66 ?_
        refine lv_iadd S.1 S.2.1 dX11_readRow_67 ?_
        refine lv_istore_n (lv' := [(2, .int ((8 : Int32) + (A 8 ((1 : Int32)).toNatClampNeg))), (0, .ref (ad 0)), (1, .int a0)]) S.1 S.2.1 dX11_readRow_68 rfl hl (by decide) rfl (fun ls hl => ?_)
        refine lv_aload_n S.1 S.2.1 dX11_readRow_69 rfl (lv_at hl 1 rfl) ?_
        refine gM_0_10 S K w w738 dX11_readRow_70 ?_
        refine lv_iload_n S.1 S.2.1 dX11_readRow_73 rfl (lv_at hl 0 rfl) ?_
        refine lv_aload_n S.1 S.2.1 dX11_readRow_74 rfl (lv_at hl 1 rfl) ?_
        refine lv_iconst (v := 0) S.1 S.2.1 dX11_readRow_75 (by decide) ?_
        refine lv_aload_n S.1 S.2.1 dX11_readRow_76 rfl (lv_at hl 1 rfl) ?_
        refine gM_0_3 S K w w731 dX11_readRow_77 ?_
        refine lv_iconst (v := 1) S.1 S.2.1 dX11_readRow_80 (by decide) ?_
        refine aM_2 S K w gk_1_2 dX11_readRow_81 ?_
        refine lv_iconst (v := 1) S.1 S.2.1 dX11_readRow_82 (by decide) ?_
        refine lv_isub S.1 S.2.1 dX11_readRow_83 ?_
        obtain ⟨q15, e16, h⟩ := og_b h
        refine z_callVi S K w hA (c_X11_number l D cs ad F A T (0 : Int32) ((A 2 ((1 : Int32)).toNatClampNeg) - (1 : Int32)) q15 e16) (cw_X11_113 S.2.2.2.2 ⟨Nat.le_of_ble_eq_true rfl, Nat.le_of_ble_eq_true rfl⟩) (z_recv K w 0 11 rfl rfl) rfl hl.1 rfl (Nat.le_of_ble_eq_true rfl) ⟨Nat.zero_le _, Nat.zero_le _⟩ dX11_readRow_84 (fun b14 H locs w => ?_)
        obtain ⟨g17, h⟩ := og_g h
        refine sM_9 S K w g17 dX11_readRow_87 (fun H locs w => ?_)
        refine lv_aload_n S.1 S.2.1 dX11_readRow_88 rfl (lv_at hl 1 rfl) ?_
        refine gM_0_11 S K w w739 dX11_readRow_89 ?_
        refine lv_iload_n S.1 S.2.1 dX11_readRow_92 rfl (lv_at hl 0 rfl) ?_
        refine lv_aload_n S.1 S.2.1 dX11_readRow_93 rfl (lv_at hl 1 rfl) ?_
        refine lv_iconst (v := 0) S.1 S.2.1 dX11_readRow_94 (by decide) ?_
        refine lv_iconst (v := 3) S.1 S.2.1 dX11_readRow_95 (by decide) ?_
        obtain ⟨q19, e20, h⟩ := og_b h
        refine z_callVi S K w hA (c_X11_number l D cs ad q15.2.1 (zst q15.2.2.1 9 (((8 : Int32) + (A 8 ((1 : Int32)).toNatClampNeg))).toNatClampNeg q15.1) q15.2.2.2 (0 : Int32) (3 : Int32) q19 e20) (cw_X11_113 S.2.2.2.2 ⟨Nat.le_of_ble_eq_true rfl, Nat.le_of_ble_eq_true rfl⟩) (z_recv K w 0 11 rfl rfl) rfl hl.1 rfl (Nat.le_of_ble_eq_true rfl) ⟨Nat.zero_le _, Nat.zero_le _⟩ dX11_readRow_96 (fun b18 H locs w => ?_)
        obtain ⟨g21, h⟩ := og_g h
        refine sM_10 S K w g21 dX11_readRow_99 (fun H locs w => ?_)
        refine lv_aload_n S.1 S.2.1 dX11_readRow_100 rfl (lv_at hl 1 rfl) ?_
        refine gM_0_12 S K w w740 dX11_readRow_101 ?_
        refine lv_iload_n S.1 S.2.1 dX11_readRow_104 rfl (lv_at hl 0 rfl) ?_
        refine lv_aload_n S.1 S.2.1 dX11_readRow_105 rfl (lv_at hl 1 rfl) ?_
        refine lv_iconst (v := 0) S.1 S.2.1 dX11_readRow_106 (by decide) ?_
        refine lv_bipush (v := 23) S.1 S.2.1 dX11_readRow_107 (by decide) ?_
        obtain ⟨q23, e24, h⟩ := og_b h
        refine z_callVi S K w hA (c_X11_number l D cs ad q19.2.1 (zst q19.2.2.1 10 (((8 : Int32) + (A 8 ((1 : Int32)).toNatClampNeg))).toNatClampNeg q19.1) q19.2.2.2 (0 : Int32) (23 : Int32) q23 e24) (cw_X11_113 S.2.2.2.2 ⟨Nat.le_of_ble_eq_true rfl, Nat.le_of_ble_eq_true rfl⟩) (z_recv K w 0 11 rfl rfl) rfl hl.1 rfl (Nat.le_of_ble_eq_true rfl) ⟨Nat.zero_le _, Nat.zero_le _⟩ dX11_readRow_109 (fun b22 H locs w => ?_)
        obtain ⟨g25, h⟩ := og_g h
        refine sM_11 S K w g25 dX11_readRow_112 (fun H locs w => ?_)
        refine lv_aload_n S.1 S.2.1 dX11_readRow_113 rfl (lv_at hl 1 rfl) ?_
        refine gM_0_13 S K w w741 dX11_readRow_114 ?_
        refine lv_iload_n S.1 S.2.1 dX11_readRow_117 rfl (lv_at hl 0 rfl) ?_
        refine lv_aload_n S.1 S.2.1 dX11_readRow_118 rfl (lv_at hl 1 rfl) ?_
        refine lv_aload_n S.1 S.2.1 dX11_readRow_119 rfl (lv_at hl 1 rfl) ?_
        refine gM_0_12 S K w w740 dX11_readRow_120 ?_
        refine lv_iload_n S.1 S.2.1 dX11_readRow_123 rfl (lv_at hl 0 rfl) ?_
        obtain ⟨g26, h⟩ := og_g h
        refine aM_11 S K w g26 dX11_readRow_124 ?_
        refine lv_bipush (v := 23) S.1 S.2.1 dX11_readRow_125 (by decide) ?_
        obtain ⟨q28, e29, h⟩ := og_b h
        refine z_callVi S K w hA (c_X11_number l D cs ad q23.2.1 (zst q23.2.2.1 11 (((8 : Int32) + (A 8 ((1 : Int32)).toNatClampNeg))).toNatClampNeg q23.1) q23.2.2.2 ((zst q23.2.2.1 11 (((8 : Int32) + (A 8 ((1 : Int32)).toNatClampNeg))).toNatClampNeg q23.1) 11 (((8 : Int32) + (A 8 ((1 : Int32)).toNatClampNeg))).toNatClampNeg) (23 : Int32) q28 e29) (cw_X11_113 S.2.2.2.2 ⟨Nat.le_of_ble_eq_true rfl, Nat.le_of_ble_eq_true rfl⟩) (z_recv K w 0 11 rfl rfl) rfl hl.1 rfl (Nat.le_of_ble_eq_true rfl) ⟨Nat.zero_le _, Nat.zero_le _⟩ dX11_readRow_127 (fun b27 H locs w => ?_)
        obtain ⟨g30, h⟩ := og_g h
        refine sM_12 S K w g30 dX11_readRow_130 (fun H locs w => ?_)
        refine lv_aload_n S.1 S.2.1 dX11_readRow_131 rfl (lv_at hl 1 rfl) ?_
        refine gM_0_9 S K w w737 dX11_readRow_132 ?_
        refine lv_iconst (v := 1) S.1 S.2.1 dX11_readRow_135 (by decide) ?_
        refine lv_dup2_11 S.1 S.2.1 dX11_readRow_136 rfl rfl ?_
        refine aM_8 S K w gk_1_2 dX11_readRow_137 ?_
        refine lv_iconst (v := 1) S.1 S.2.1 dX11_readRow_138 (by decide) ?_
        refine lv_iadd S.1 S.2.1 dX11_readRow_139 ?_
        refine sM_8 S K w gk_1_2 dX11_readRow_140 (fun H locs w => ?_)
        refine lv_goto (tgt := 205) S.1 S.2.1 dX11_readRow_141 (by decide) ?_
        exact z_retv S w hr hlk dX11_readRow_205 (Option.some.inj h).symm
    · have h := og_t c2 h
      refine lv_aload_n S.1 S.2.1 dX11_readRow_46 rfl (lv_at hl 0 rfl) ?_
      obtain ⟨q31, e32, h⟩ := og_b h
      refine z_callVv S K w hA (c_X11_readFact l D cs ad F A T q31 e32) (cw_X11_117 S.2.2.2.2 ⟨Nat.le_of_ble_eq_true rfl, Nat.le_of_ble_eq_true rfl⟩) (z_recv K w 0 11 rfl rfl) rfl hl.1 rfl (Nat.le_of_ble_eq_true rfl) ⟨Nat.zero_le _, Nat.zero_le _⟩ dX11_readRow_47 (fun H locs w => ?_)
      refine lv_goto (tgt := 205) S.1 S.2.1 dX11_readRow_50 (by decide) ?_
      exact z_retv S w hr hlk dX11_readRow_205 (Option.some.inj h).symm
  · have h := og_t c1 h
    refine lv_aload_n S.1 S.2.1 dX11_readRow_6 rfl (lv_at hl 0 rfl) ?_
    refine gM_0_4 S K w w732 dX11_readRow_7 ?_
    refine lv_bipush (v := 6) S.1 S.2.1 dX11_readRow_10 (by decide) ?_
    refine lv_aload_n S.1 S.2.1 dX11_readRow_12 rfl (lv_at hl 0 rfl) ?_
    refine gM_0_3 S K w w731 dX11_readRow_13 ?_
    refine lv_iconst (v := 1) S.1 S.2.1 dX11_readRow_16 (by decide) ?_
    refine aM_2 S K w gk_1_2 dX11_readRow_17 ?_
    refine lv_iadd S.1 S.2.1 dX11_readRow_18 ?_
    refine lv_aload_n S.1 S.2.1 dX11_readRow_19 rfl (lv_at hl 0 rfl) ?_
    refine lv_iconst (v := 0) S.1 S.2.1 dX11_readRow_20 (by decide) ?_
    refine lv_bipush (v := 20) S.1 S.2.1 dX11_readRow_21 (by decide) ?_
    obtain ⟨q34, e35, h⟩ := og_b h
    refine z_callVi S K w hA (c_X11_number l D cs ad F A T (0 : Int32) (20 : Int32) q34 e35) (cw_X11_113 S.2.2.2.2 ⟨Nat.le_of_ble_eq_true rfl, Nat.le_of_ble_eq_true rfl⟩) (z_recv K w 0 11 rfl rfl) rfl hl.1 rfl (Nat.le_of_ble_eq_true rfl) ⟨Nat.zero_le _, Nat.zero_le _⟩ dX11_readRow_23 (fun b33 H locs w => ?_)
    obtain ⟨g36, h⟩ := og_g h
    refine sM_3 S K w g36 dX11_readRow_26 (fun H locs w => ?_)
    refine lv_aload_n S.1 S.2.1 dX11_readRow_27 rfl (lv_at hl 0 rfl) ?_
    refine gM_0_3 S K w w731 dX11_readRow_28 ?_
    refine lv_iconst (v := 1) S.1 S.2.1 dX11_readRow_31 (by decide) ?_
    refine lv_dup2_11 S.1 S.2.1 dX11_readRow_32 rfl rfl ?_
    refine aM_2 S K w gk_1_2 dX11_readRow_33 ?_
    refine lv_iconst (v := 1) S.1 S.2.1 dX11_readRow_34 (by decide) ?_
    refine lv_iadd S.1 S.2.1 dX11_readRow_35 ?_
    refine sM_2 S K w gk_1_2 dX11_readRow_36 (fun H locs w => ?_)
    refine lv_goto (tgt := 205) S.1 S.2.1 dX11_readRow_37 (by decide) ?_
    exact z_retv S w hr hlk dX11_readRow_205 (Option.some.inj h).symm
set_option maxHeartbeats 4000000 in
set_option maxRecDepth 100000 in
theorem c_X11_take (l : Launch) (D : va_G) (cs : Nat → ClassId) (ad : Nat → Nat) (F : ZF) (A : ZA) (T : Int64) (q : ZS) (h : f_X11_take F A T = some q) : zMv l D cs (MW cs ad) yX11_take cX11_take 3 none rm_X11_take ([.ref (ad 0)] : List Value) F A T q := by
  refine z_enterv (by decide) (Nat.le_of_ble_eq_true rfl) ?_
  intro p e s m below meth c A0 ls S K w hA hr hlk hl
  have S : CallFix p m c cX11_take 3 s ([.ref (ad 0)] : List Value).toArray zWs RX11 := S
  have hl : lv_has ls 3 [(0, .ref (ad 0))] := hl
  unfold f_X11_take at h
  have j62 : ∀ (n62 : Nat) (x1 : Int32) (F : ZF) (A : ZA) (T : Int64), f_X11_take_62 n62 x1 F A T = some q → ∀ (H : Heap) (locs : List Loc) (ls : Array Slot), lv_has ls 3 [(0, .ref (ad 0)), (1, .int x1)] → ZW D A0 s.heap (MW cs ad F A T) H locs → W p l e rm_X11_take s m ([.ref (ad 0)] : List Value).toArray below meth c H locs 0 0 (zQv (MW cs ad) D A0 below ([.ref (ad 0)] : List Value) s q) (F0 m 62 ls []) := by
    intro n62
    induction n62 with
    | zero =>
      intro x1 F A T h H locs ls hl w
      have h : (none : Option ZS) = some q := h
      cases h
    | succ n62 ih62 =>
      intro x1 F A T h H locs ls hl w
      rw [f_X11_take_62_s] at h
      have j91 : ∀ (n91 : Nat) (x1 : Int32) (F : ZF) (A : ZA) (T : Int64), f_X11_take_91 n91 x1 F A T = some q → ∀ (H : Heap) (locs : List Loc) (ls : Array Slot), lv_has ls 3 [(0, .ref (ad 0)), (1, .int x1)] → ZW D A0 s.heap (MW cs ad F A T) H locs → W p l e rm_X11_take s m ([.ref (ad 0)] : List Value).toArray below meth c H locs 0 0 (zQv (MW cs ad) D A0 below ([.ref (ad 0)] : List Value) s q) (F0 m 91 ls []) := by
        intro n91
        induction n91 with
        | zero =>
          intro x1 F A T h H locs ls hl w
          have h : (none : Option ZS) = some q := h
          cases h
        | succ n91 ih91 =>
          intro x1 F A T h H locs ls hl w
          rw [f_X11_take_91_s] at h
          have j174 : ∀ (n174 : Nat) (x1 : Int32) (F : ZF) (A : ZA) (T : Int64), f_X11_take_174 n174 x1 F A T = some q → ∀ (H : Heap) (locs : List Loc) (ls : Array Slot), lv_has ls 3 [(0, .ref (ad 0)), (1, .int x1)] → ZW D A0 s.heap (MW cs ad F A T) H locs → W p l e rm_X11_take s m ([.ref (ad 0)] : List Value).toArray below meth c H locs 0 0 (zQv (MW cs ad) D A0 below ([.ref (ad 0)] : List Value) s q) (F0 m 174 ls []) := by
            intro n174
            induction n174 with
            | zero =>
              intro x1 F A T h H locs ls hl w
              have h : (none : Option ZS) = some q := h
              cases h
            | succ n174 ih174 =>
              intro x1 F A T h H locs ls hl w
              rw [f_X11_take_174_s] at h
              refine lv_iload_n S.1 S.2.1 dX11_take_174 rfl (lv_at hl 1 rfl) ?_
              refine lv_bipush (v := 8) S.1 S.2.1 dX11_take_175 (by decide) ?_
              refine lv_icmp_ge (tgt := 246) S.1 S.2.1 dX11_take_177 (by decide) (fun c9 => ?_) (fun c9 => ?_)
              · have h := og_t c9 h
                exact z_retv S w hr hlk dX11_take_246 (Option.some.inj h).symm
              · have h := og_f c9 h
                refine lv_aload_n S.1 S.2.1 dX11_take_180 rfl (lv_at hl 0 rfl) ?_
                refine gM_0_10 S K w w738 dX11_take_181 ?_
                refine lv_iload_n S.1 S.2.1 dX11_take_184 rfl (lv_at hl 1 rfl) ?_
                refine lv_aload_n S.1 S.2.1 dX11_take_185 rfl (lv_at hl 0 rfl) ?_
                refine gM_0_10 S K w w738 dX11_take_186 ?_
                refine lv_bipush (v := 8) S.1 S.2.1 dX11_take_189 (by decide) ?_
                refine lv_iload_n S.1 S.2.1 dX11_take_191 rfl (lv_at hl 1 rfl) ?_
                refine lv_iadd S.1 S.2.1 dX11_take_192 ?_
                obtain ⟨g10, h⟩ := og_g h
                refine aM_9 S K w g10 dX11_take_193 ?_
                obtain ⟨g11, h⟩ := og_g h
                refine sM_9 S K w g11 dX11_take_194 (fun H locs w => ?_)
                refine lv_aload_n S.1 S.2.1 dX11_take_195 rfl (lv_at hl 0 rfl) ?_
                refine gM_0_11 S K w w739 dX11_take_196 ?_
                refine lv_iload_n S.1 S.2.1 dX11_take_199 rfl (lv_at hl 1 rfl) ?_
                refine lv_aload_n S.1 S.2.1 dX11_take_200 rfl (lv_at hl 0 rfl) ?_
                refine gM_0_11 S K w w739 dX11_take_201 ?_
                refine lv_bipush (v := 8) S.1 S.2.1 dX11_take_204 (by decide) ?_
                refine lv_iload_n S.1 S.2.1 dX11_take_206 rfl (lv_at hl 1 rfl) ?_
                refine lv_iadd S.1 S.2.1 dX11_take_207 ?_
                obtain ⟨g12, h⟩ := og_g h
                refine aM_10 S K w g12 dX11_take_208 ?_
                obtain ⟨g13, h⟩ := og_g h
                refine sM_10 S K w g13 dX11_take_209 (fun H locs w => ?_)
                refine lv_aload_n S.1 S.2.1 dX11_take_210 rfl (lv_at hl 0 rfl) ?_
                refine gM_0_12 S K w w740 dX11_take_211 ?_
                refine lv_iload_n S.1 S.2.1 dX11_take_214 rfl (lv_at hl 1 rfl) ?_
                refine lv_aload_n S.1 S.2.1 dX11_take_215 rfl (lv_at hl 0 rfl) ?_
                refine gM_0_12 S K w w740 dX11_take_216 ?_
                refine lv_bipush (v := 8) S.1 S.2.1 dX11_take_219 (by decide) ?_
                refine lv_iload_n S.1 S.2.1 dX11_take_221 rfl (lv_at hl 1 rfl) ?_
                refine lv_iadd S.1 S.2.1 dX11_take_222 ?_
                obtain ⟨g14, h⟩ := og_g h
                refine aM_11 S K w g14 dX11_take_223 ?_
                obtain ⟨g15, h⟩ := og_g h
                refine sM_11 S K w g15 dX11_take_224 (fun H locs w => ?_)
                refine lv_aload_n S.1 S.2.1 dX11_take_225 rfl (lv_at hl 0 rfl) ?_
                refine gM_0_13 S K w w741 dX11_take_226 ?_
                refine lv_iload_n S.1 S.2.1 dX11_take_229 rfl (lv_at hl 1 rfl) ?_
                refine lv_aload_n S.1 S.2.1 dX11_take_230 rfl (lv_at hl 0 rfl) ?_
                refine gM_0_13 S K w w741 dX11_take_231 ?_
                refine lv_bipush (v := 8) S.1 S.2.1 dX11_take_234 (by decide) ?_
                refine lv_iload_n S.1 S.2.1 dX11_take_236 rfl (lv_at hl 1 rfl) ?_
                refine lv_iadd S.1 S.2.1 dX11_take_237 ?_
                obtain ⟨g16, h⟩ := og_g h
                refine aM_12 S K w g16 dX11_take_238 ?_
                obtain ⟨g17, h⟩ := og_g h
                refine sM_12 S K w g17 dX11_take_239 (fun H locs w => ?_)
                refine lv_iinc (v := (x1 + (1 : Int32))) (lv' := [(1, .int (x1 + (1 : Int32))), (0, .ref (ad 0))]) S.1 S.2.1 dX11_take_240 hl (k := 1) rfl rfl (by decide) rfl (fun ls hl => ?_)
                refine lv_goto (tgt := 174) S.1 S.2.1 dX11_take_243 (by decide) ?_
                exact ih174 _ _ _ _ h _ _ _ (lv_sub hl [1, 0] rfl) w
          have j129 : ∀ (n129 : Nat) (x1 x2 : Int32) (F : ZF) (A : ZA) (T : Int64), f_X11_take_129 (f_X11_take_91 n91) n129 x1 x2 F A T = some q → ∀ (H : Heap) (locs : List Loc) (ls : Array Slot), lv_has ls 3 [(0, .ref (ad 0)), (1, .int x1), (2, .int x2)] → ZW D A0 s.heap (MW cs ad F A T) H locs → W p l e rm_X11_take s m ([.ref (ad 0)] : List Value).toArray below meth c H locs 0 0 (zQv (MW cs ad) D A0 below ([.ref (ad 0)] : List Value) s q) (F0 m 129 ls []) := by
            intro n129
            induction n129 with
            | zero =>
              intro x1 x2 F A T h H locs ls hl w
              have h : (none : Option ZS) = some q := h
              cases h
            | succ n129 ih129 =>
              intro x1 x2 F A T h H locs ls hl w
              rw [f_X11_take_129_s] at h
              refine lv_iload_n S.1 S.2.1 dX11_take_129 rfl (lv_at hl 2 rfl) ?_
              refine lv_bipush (v := 6) S.1 S.2.1 dX11_take_130 (by decide) ?_
              refine lv_icmp_ge (tgt := 166) S.1 S.2.1 dX11_take_132 (by decide) (fun c18 => ?_) (fun c18 => ?_)
              · have h := og_t c18 h
                refine lv_iinc (v := (x1 + (1 : Int32))) (lv' := [(1, .int (x1 + (1 : Int32))), (0, .ref (ad 0)), (2, .int x2)]) S.1 S.2.1 dX11_take_166 hl (k := 1) rfl rfl (by decide) rfl (fun ls hl => ?_)
                refine lv_goto (tgt := 91) S.1 S.2.1 dX11_take_169 (by decide) ?_
                exact ih91 _ _ _ _ h _ _ _ (lv_sub hl [1, 0] rfl) w
              · have h := og_f c18 h
                refine lv_aload_n S.1 S.2.1 dX11_take_135 rfl (lv_at hl 0 rfl) ?_
                refine gM_0_8 S K w w736 dX11_take_136 ?_
                refine lv_bipush (v := 6) S.1 S.2.1 dX11_take_139 (by decide) ?_
                refine lv_iload_n S.1 S.2.1 dX11_take_141 rfl (lv_at hl 1 rfl) ?_
                refine lv_imul S.1 S.2.1 dX11_take_142 ?_
                refine lv_iload_n S.1 S.2.1 dX11_take_143 rfl (lv_at hl 2 rfl) ?_
                refine lv_iadd S.1 S.2.1 dX11_take_144 ?_
                refine lv_aload_n S.1 S.2.1 dX11_take_145 rfl (lv_at hl 0 rfl) ?_
                refine gM_0_8 S K w w736 dX11_take_146 ?_
                refine lv_bipush (v := 6) S.1 S.2.1 dX11_take_149 (by decide) ?_
                refine lv_bipush (v := 8) S.1 S.2.1 dX11_take_151 (by decide) ?_
                refine lv_iload_n S.1 S.2.1 dX11_take_153 rfl (lv_at hl 1 rfl) ?_
                refine lv_iadd S.1 S.2.1 dX11_take_154 ?_
                refine lv_imul S.1 S.2.1 dX11_take_155 ?_
                refine lv_iload_n S.1 S.2.1 dX11_take_156 rfl (lv_at hl 2 rfl) ?_
                refine lv_iadd S.1 S.2.1 dX11_take_157 ?_
                obtain ⟨g19, h⟩ := og_g h
                refine aM_7 S K w g19 dX11_take_158 ?_
                obtain ⟨g20, h⟩ := og_g h
                refine sM_7 S K w g20 dX11_take_159 (fun H locs w => ?_)
                refine lv_iinc (v := (x2 + (1 : Int32))) (lv' := [(2, .int (x2 + (1 : Int32))), (0, .ref (ad 0)), (1, .int x1)]) S.1 S.2.1 dX11_take_160 hl (k := 2) rfl rfl (by decide) rfl (fun ls hl => ?_)
                refine lv_goto (tgt := 129) S.1 S.2.1 dX11_take_163 (by decide) ?_
                exact ih129 _ _ _ _ _ h _ _ _ (lv_sub hl [1, 2, 0] rfl) w
          refine lv_iload_n S.1 S.2.1 dX11_take_91 rfl (lv_at hl 1 rfl) ?_
          refine lv_bipush (v := 8) S.1 S.2.1 dX11_take_92 (by decide) ?_
          refine lv_icmp_ge (tgt := 172) S.1 S.2.1 dX11_take_94 (by decide) (fun c4 => ?_) (fun c4 => ?_)
          · have h := og_t c4 h
            refine lv_iconst (v := 0) S.1 S.2.1 dX11_take_172 (by decide) ?_
            refine lv_istore_n (lv' := [(1, .int (0 : Int32)), (0, .ref (ad 0))]) S.1 S.2.1 dX11_take_173 rfl hl (by decide) rfl (fun ls hl => ?_)
            exact j174 1000 _ _ _ _ h _ _ _ (lv_sub hl [1, 0] rfl) w
          · have h := og_f c4 h
            refine lv_aload_n S.1 S.2.1 dX11_take_97 rfl (lv_at hl 0 rfl) ?_
            refine gM_0_6 S K w w734 dX11_take_98 ?_
            refine lv_iload_n S.1 S.2.1 dX11_take_101 rfl (lv_at hl 1 rfl) ?_
            refine lv_aload_n S.1 S.2.1 dX11_take_102 rfl (lv_at hl 0 rfl) ?_
            refine gM_0_6 S K w w734 dX11_take_103 ?_
            refine lv_bipush (v := 8) S.1 S.2.1 dX11_take_106 (by decide) ?_
            refine lv_iload_n S.1 S.2.1 dX11_take_108 rfl (lv_at hl 1 rfl) ?_
            refine lv_iadd S.1 S.2.1 dX11_take_109 ?_
            obtain ⟨g5, h⟩ := og_g h
            refine aM_5 S K w g5 dX11_take_110 ?_
            obtain ⟨g6, h⟩ := og_g h
            refine sM_5 S K w g6 dX11_take_111 (fun H locs w => ?_)
            refine lv_aload_n S.1 S.2.1 dX11_take_112 rfl (lv_at hl 0 rfl) ?_
            refine gM_0_7 S K w w735 dX11_take_113 ?_
            refine lv_iload_n S.1 S.2.1 dX11_take_116 rfl (lv_at hl 1 rfl) ?_
            refine lv_aload_n S.1 S.2.1 dX11_take_117 rfl (lv_at hl 0 rfl) ?_
            refine gM_0_7 S K w w735 dX11_take_118 ?_
            refine lv_bipush (v := 8) S.1 S.2.1 dX11_take_121 (by decide) ?_
            refine lv_iload_n S.1 S.2.1 dX11_take_123 rfl (lv_at hl 1 rfl) ?_
            refine lv_iadd S.1 S.2.1 dX11_take_124 ?_
            obtain ⟨g7, h⟩ := og_g h
            refine aM_6 S K w g7 dX11_take_125 ?_
            obtain ⟨g8, h⟩ := og_g h
            refine sM_6 S K w g8 dX11_take_126 (fun H locs w => ?_)
            refine lv_iconst (v := 0) S.1 S.2.1 dX11_take_127 (by decide) ?_
            refine lv_istore_n (lv' := [(2, .int (0 : Int32)), (0, .ref (ad 0)), (1, .int x1)]) S.1 S.2.1 dX11_take_128 rfl hl (by decide) rfl (fun ls hl => ?_)
            exact j129 1000 _ _ _ _ _ h _ _ _ (lv_sub hl [1, 2, 0] rfl) w
      refine lv_iload_n S.1 S.2.1 dX11_take_62 rfl (lv_at hl 1 rfl) ?_
      refine lv_bipush (v := 6) S.1 S.2.1 dX11_take_63 (by decide) ?_
      refine lv_icmp_ge (tgt := 89) S.1 S.2.1 dX11_take_65 (by decide) (fun c1 => ?_) (fun c1 => ?_)
      · have h := og_t c1 h
        refine lv_iconst (v := 0) S.1 S.2.1 dX11_take_89 (by decide) ?_
        refine lv_istore_n (lv' := [(1, .int (0 : Int32)), (0, .ref (ad 0))]) S.1 S.2.1 dX11_take_90 rfl hl (by decide) rfl (fun ls hl => ?_)
        exact j91 1000 _ _ _ _ h _ _ _ (lv_sub hl [1, 0] rfl) w
      · have h := og_f c1 h
        refine lv_aload_n S.1 S.2.1 dX11_take_68 rfl (lv_at hl 0 rfl) ?_
        refine gM_0_4 S K w w732 dX11_take_69 ?_
        refine lv_iload_n S.1 S.2.1 dX11_take_72 rfl (lv_at hl 1 rfl) ?_
        refine lv_aload_n S.1 S.2.1 dX11_take_73 rfl (lv_at hl 0 rfl) ?_
        refine gM_0_4 S K w w732 dX11_take_74 ?_
        refine lv_bipush (v := 6) S.1 S.2.1 dX11_take_77 (by decide) ?_
        refine lv_iload_n S.1 S.2.1 dX11_take_79 rfl (lv_at hl 1 rfl) ?_
        refine lv_iadd S.1 S.2.1 dX11_take_80 ?_
        obtain ⟨g2, h⟩ := og_g h
        refine aM_3 S K w g2 dX11_take_81 ?_
        obtain ⟨g3, h⟩ := og_g h
        refine sM_3 S K w g3 dX11_take_82 (fun H locs w => ?_)
        refine lv_iinc (v := (x1 + (1 : Int32))) (lv' := [(1, .int (x1 + (1 : Int32))), (0, .ref (ad 0))]) S.1 S.2.1 dX11_take_83 hl (k := 1) rfl rfl (by decide) rfl (fun ls hl => ?_)
        refine lv_goto (tgt := 62) S.1 S.2.1 dX11_take_86 (by decide) ?_
        exact ih62 _ _ _ _ h _ _ _ (lv_sub hl [1, 0] rfl) w
  refine lv_aload_n S.1 S.2.1 dX11_take_0 rfl (lv_at hl 0 rfl) ?_
  refine gM_0_3 S K w w731 dX11_take_1 ?_
  refine lv_iconst (v := 0) S.1 S.2.1 dX11_take_4 (by decide) ?_
  refine lv_aload_n S.1 S.2.1 dX11_take_5 rfl (lv_at hl 0 rfl) ?_
  refine gM_0_3 S K w w731 dX11_take_6 ?_
  refine lv_iconst (v := 1) S.1 S.2.1 dX11_take_9 (by decide) ?_
  refine aM_2 S K w gk_1_2 dX11_take_10 ?_
  refine sM_2 S K w gk_0_2 dX11_take_11 (fun H locs w => ?_)
  refine lv_aload_n S.1 S.2.1 dX11_take_12 rfl (lv_at hl 0 rfl) ?_
  refine gM_0_5 S K w w733 dX11_take_13 ?_
  refine lv_iconst (v := 0) S.1 S.2.1 dX11_take_16 (by decide) ?_
  refine lv_aload_n S.1 S.2.1 dX11_take_17 rfl (lv_at hl 0 rfl) ?_
  refine gM_0_5 S K w w733 dX11_take_18 ?_
  refine lv_iconst (v := 1) S.1 S.2.1 dX11_take_21 (by decide) ?_
  refine aM_4 S K w gk_1_2 dX11_take_22 ?_
  refine sM_4 S K w gk_0_2 dX11_take_23 (fun H locs w => ?_)
  refine lv_aload_n S.1 S.2.1 dX11_take_24 rfl (lv_at hl 0 rfl) ?_
  refine gM_0_9 S K w w737 dX11_take_25 ?_
  refine lv_iconst (v := 0) S.1 S.2.1 dX11_take_28 (by decide) ?_
  refine lv_aload_n S.1 S.2.1 dX11_take_29 rfl (lv_at hl 0 rfl) ?_
  refine gM_0_9 S K w w737 dX11_take_30 ?_
  refine lv_iconst (v := 1) S.1 S.2.1 dX11_take_33 (by decide) ?_
  refine aM_8 S K w gk_1_2 dX11_take_34 ?_
  refine sM_8 S K w gk_0_2 dX11_take_35 (fun H locs w => ?_)
  refine lv_aload_n S.1 S.2.1 dX11_take_36 rfl (lv_at hl 0 rfl) ?_
  refine gM_0_14 S K w w742 dX11_take_37 ?_
  refine lv_iconst (v := 0) S.1 S.2.1 dX11_take_40 (by decide) ?_
  refine lv_aload_n S.1 S.2.1 dX11_take_41 rfl (lv_at hl 0 rfl) ?_
  refine gM_0_14 S K w w742 dX11_take_42 ?_
  refine lv_iconst (v := 1) S.1 S.2.1 dX11_take_45 (by decide) ?_
  refine aM_13 S K w gk_1_2 dX11_take_46 ?_
  refine sM_13 S K w gk_0_2 dX11_take_47 (fun H locs w => ?_)
  refine lv_aload_n S.1 S.2.1 dX11_take_48 rfl (lv_at hl 0 rfl) ?_
  refine gM_0_15 S K w w743 dX11_take_49 ?_
  refine lv_iconst (v := 0) S.1 S.2.1 dX11_take_52 (by decide) ?_
  refine lv_aload_n S.1 S.2.1 dX11_take_53 rfl (lv_at hl 0 rfl) ?_
  refine gM_0_15 S K w w743 dX11_take_54 ?_
  refine lv_iconst (v := 1) S.1 S.2.1 dX11_take_57 (by decide) ?_
  refine aM_14 S K w gk_1_2 dX11_take_58 ?_
  refine sM_14 S K w gk_0_2 dX11_take_59 (fun H locs w => ?_)
  refine lv_iconst (v := 0) S.1 S.2.1 dX11_take_60 (by decide) ?_
  refine lv_istore_n (lv' := [(1, .int (0 : Int32)), (0, .ref (ad 0))]) S.1 S.2.1 dX11_take_61 rfl hl (by decide) rfl (fun ls hl => ?_)
  exact j62 1000 _ _ _ _ h _ _ _ (lv_sub hl [1, 0] rfl) w
set_option maxHeartbeats 4000000 in
set_option maxRecDepth 100000 in
theorem c_X11_court (l : Launch) (D : va_G) (cs : Nat → ClassId) (ad : Nat → Nat) (F : ZF) (A : ZA) (T : Int64) (q : (Int32 × ZS)) (h : f_X11_court F A T = some q) : zMi l D cs (MW cs ad) yX11_court cX11_court 3 (some .int) rm_X11_court ([.ref (ad 0)] : List Value) F A T q True := by
  refine z_enteri (by decide) (Nat.le_of_ble_eq_true rfl) ?_
  intro p e s m below meth c A0 ls S K w hA hr hlk hl
  have S : CallFix p m c cX11_court 3 s ([.ref (ad 0)] : List Value).toArray zWs RX11 := S
  have hl : lv_has ls 3 [(0, .ref (ad 0))] := hl
  unfold f_X11_court at h
  have j70 : ∀ (n70 : Nat) (x1 : Int32) (F : ZF) (A : ZA) (T : Int64), f_X11_court_70 n70 x1 F A T = some q → ∀ (H : Heap) (locs : List Loc) (ls : Array Slot), lv_has ls 3 [(0, .ref (ad 0)), (1, .int x1)] → ZW D A0 s.heap (MW cs ad F A T) H locs → W p l e rm_X11_court s m ([.ref (ad 0)] : List Value).toArray below meth c H locs 0 0 (zQi (MW cs ad) D A0 below ([.ref (ad 0)] : List Value) s q True) (F0 m 70 ls []) := by
    intro n70
    induction n70 with
    | zero =>
      intro x1 F A T h H locs ls hl w
      have h : (none : Option (Int32 × ZS)) = some q := h
      cases h
    | succ n70 ih70 =>
      intro x1 F A T h H locs ls hl w
      rw [f_X11_court_70_s] at h
      have j140 : ∀ (x1 : Int32) (F : ZF) (A : ZA) (T : Int64), f_X11_court_140 x1 F A T = some q → ∀ (H : Heap) (locs : List Loc) (ls : Array Slot), lv_has ls 3 [(0, .ref (ad 0)), (1, .int x1)] → ZW D A0 s.heap (MW cs ad F A T) H locs → W p l e rm_X11_court s m ([.ref (ad 0)] : List Value).toArray below meth c H locs 0 0 (zQi (MW cs ad) D A0 below ([.ref (ad 0)] : List Value) s q True) (F0 m 140 ls []) := by
        intro x1 F A T h H locs ls hl w
        unfold f_X11_court_140 at h
        refine lv_aload_n S.1 S.2.1 dX11_court_140 rfl (lv_at hl 0 rfl) ?_
        refine gM_0_20 S K w w748 dX11_court_141 ?_
        refine lv_bipush (v := -9) S.1 S.2.1 dX11_court_144 (by decide) ?_
        refine lv_icmp_eq (tgt := 157) S.1 S.2.1 dX11_court_146 (by decide) (fun c11 => ?_) (fun c11 => ?_)
        · have h := og_t c11 h
          refine lv_aload_n S.1 S.2.1 dX11_court_157 rfl (lv_at hl 0 rfl) ?_
          obtain ⟨q12, e13, h⟩ := og_b h
          refine z_callVv S K w hA (c_X11_take l D cs ad F A T q12 e13) (cw_X11_131 S.2.2.2.2 ⟨Nat.le_of_ble_eq_true rfl, Nat.le_of_ble_eq_true rfl⟩) (z_recv K w 0 11 rfl rfl) rfl hl.1 rfl (Nat.le_of_ble_eq_true rfl) ⟨Nat.zero_le _, Nat.zero_le _⟩ dX11_court_158 (fun H locs w => ?_)
          refine lv_aload_n S.1 S.2.1 dX11_court_161 rfl (lv_at hl 0 rfl) ?_
          refine gM_0_24 S K w w752 dX11_court_162 ?_
          refine lv_iconst (v := 0) S.1 S.2.1 dX11_court_165 (by decide) ?_
          refine lv_iconst (v := 0) S.1 S.2.1 dX11_court_166 (by decide) ?_
          refine sM_15 S K w gk_0_102 dX11_court_167 (fun H locs w => ?_)
          refine lv_aload_n S.1 S.2.1 dX11_court_168 rfl (lv_at hl 0 rfl) ?_
          refine gM_0_24 S K w w752 dX11_court_169 ?_
          refine lv_iconst (v := 1) S.1 S.2.1 dX11_court_172 (by decide) ?_
          refine lv_iconst (v := 0) S.1 S.2.1 dX11_court_173 (by decide) ?_
          refine sM_15 S K w gk_1_102 dX11_court_174 (fun H locs w => ?_)
          refine lv_aload_n S.1 S.2.1 dX11_court_175 rfl (lv_at hl 0 rfl) ?_
          refine gM_0_24 S K w w752 dX11_court_176 ?_
          refine lv_iconst (v := 2) S.1 S.2.1 dX11_court_179 (by decide) ?_
          refine lv_aload_n S.1 S.2.1 dX11_court_180 rfl (lv_at hl 0 rfl) ?_
          refine gM_0_23 S K w w751 dX11_court_181 ?_
          refine sM_15 S K w gk_2_102 dX11_court_184 (fun H locs w => ?_)
          refine lv_aload_n S.1 S.2.1 dX11_court_185 rfl (lv_at hl 0 rfl) ?_
          refine gM_0_24 S K w w752 dX11_court_186 ?_
          refine lv_iconst (v := 3) S.1 S.2.1 dX11_court_189 (by decide) ?_
          refine lv_iconst (v := 0) S.1 S.2.1 dX11_court_190 (by decide) ?_
          refine sM_15 S K w gk_3_102 dX11_court_191 (fun H locs w => ?_)
          refine lv_aload_n S.1 S.2.1 dX11_court_192 rfl (lv_at hl 0 rfl) ?_
          refine lv_iconst (v := 0) S.1 S.2.1 dX11_court_193 (by decide) ?_
          refine pM_0_31 S K w w759 dX11_court_194 (fun H locs w => ?_)
          refine lv_aload_n S.1 S.2.1 dX11_court_197 rfl (lv_at hl 0 rfl) ?_
          refine gM_0_25 S K w w753 dX11_court_198 ?_
          refine lv_iconst (v := 0) S.1 S.2.1 dX11_court_201 (by decide) ?_
          refine lv_iconst (v := 0) S.1 S.2.1 dX11_court_202 (by decide) ?_
          refine sM_16 S K w gk_0_2 dX11_court_203 (fun H locs w => ?_)
          refine lv_aload_n S.1 S.2.1 dX11_court_204 rfl (lv_at hl 0 rfl) ?_
          refine gM_0_25 S K w w753 dX11_court_205 ?_
          refine lv_iconst (v := 1) S.1 S.2.1 dX11_court_208 (by decide) ?_
          refine lv_iconst (v := 0) S.1 S.2.1 dX11_court_209 (by decide) ?_
          refine sM_16 S K w gk_1_2 dX11_court_210 (fun H locs w => ?_)
          refine lv_aload_n S.1 S.2.1 dX11_court_211 rfl (lv_at hl 0 rfl) ?_
          refine lv_iconst (v := 0) S.1 S.2.1 dX11_court_212 (by decide) ?_
          refine pM_0_2 S K w w730 dX11_court_213 (fun H locs w => ?_)
          refine lv_iload_n S.1 S.2.1 dX11_court_216 rfl (lv_at hl 1 rfl) ?_
          exact z_reti S w hr hlk dX11_court_217 trivial (Option.some.inj h).symm
        · have h := og_f c11 h
          refine lv_bipush (v := -10) S.1 S.2.1 dX11_court_149 (by decide) ?_
          refine lv_aload_n S.1 S.2.1 dX11_court_151 rfl (lv_at hl 0 rfl) ?_
          refine gM_0_20 S K w w748 dX11_court_152 ?_
          refine lv_isub S.1 S.2.1 dX11_court_155 ?_
          exact z_reti S w hr hlk dX11_court_156 trivial (Option.some.inj h).symm
      have j130 : ∀ (x1 y0 : Int32) (F : ZF) (A : ZA) (T : Int64), f_X11_court_130 (f_X11_court_70 n70) x1 y0 F A T = some q → ∀ (H : Heap) (locs : List Loc) (ls : Array Slot), lv_has ls 3 [(0, .ref (ad 0)), (1, .int x1)] → ZW D A0 s.heap (MW cs ad F A T) H locs → W p l e rm_X11_court s m ([.ref (ad 0)] : List Value).toArray below meth c H locs 0 0 (zQi (MW cs ad) D A0 below ([.ref (ad 0)] : List Value) s q True) (F0 m 130 ls [.int y0, .ref (ad 0)]) := by
        intro x1 y0 F A T h H locs ls hl w
        unfold f_X11_court_130 at h
        obtain ⟨q15, e16, h⟩ := og_b h
        refine z_callVi S K w hA (c_X11_due l D cs ad F A T y0 q15 e16) (cw_X11_102 S.2.2.2.2 ⟨Nat.le_of_ble_eq_true rfl, Nat.le_of_ble_eq_true rfl⟩) (z_recv K w 0 11 rfl rfl) rfl hl.1 rfl (Nat.le_of_ble_eq_true rfl) ⟨Nat.zero_le _, Nat.zero_le _⟩ dX11_court_130 (fun b14 H locs w => ?_)
        refine lv_pop S.1 S.2.1 dX11_court_133 rfl ?_
        refine lv_iinc (v := (x1 + (1 : Int32))) (lv' := [(1, .int (x1 + (1 : Int32))), (0, .ref (ad 0))]) S.1 S.2.1 dX11_court_134 hl (k := 1) rfl rfl (by decide) rfl (fun ls hl => ?_)
        refine lv_goto (tgt := 70) S.1 S.2.1 dX11_court_137 (by decide) ?_
        exact ih70 _ _ _ _ h _ _ _ (lv_sub hl [1, 0] rfl) w
      refine lv_aload_n S.1 S.2.1 dX11_court_70 rfl (lv_at hl 0 rfl) ?_
      refine gM_0_20 S K w w748 dX11_court_71 ?_
      refine lv_bipush (v := -9) S.1 S.2.1 dX11_court_74 (by decide) ?_
      refine lv_icmp_ne (tgt := 140) S.1 S.2.1 dX11_court_76 (by decide) (fun c1 => ?_) (fun c1 => ?_)
      · have h := og_f c1 h
        exact j140 _ _ _ _ h _ _ _ (lv_sub hl [0, 1] rfl) w
      · have h := og_t c1 h
        refine lv_aload_n S.1 S.2.1 dX11_court_79 rfl (lv_at hl 0 rfl) ?_
        refine gM_0_18 S K w w746 dX11_court_80 ?_
        refine lv_iconst (v := 3) S.1 S.2.1 dX11_court_83 (by decide) ?_
        refine lv_icmp_eq (tgt := 140) S.1 S.2.1 dX11_court_84 (by decide) (fun c2 => ?_) (fun c2 => ?_)
        · have h := og_t c2 h
          exact j140 _ _ _ _ h _ _ _ (lv_sub hl [0, 1] rfl) w
        · have h := og_f c2 h
          refine lv_aload_n S.1 S.2.1 dX11_court_87 rfl (lv_at hl 0 rfl) ?_
          refine gM_0_18 S K w w746 dX11_court_88 ?_
          refine lv_istore_n (lv' := [(2, .int (F 3)), (0, .ref (ad 0)), (1, .int x1)]) S.1 S.2.1 dX11_court_91 rfl hl (by decide) rfl (fun ls hl => ?_)
          refine lv_aload_n S.1 S.2.1 dX11_court_92 rfl (lv_at hl 1 rfl) ?_
          refine lv_aload_n S.1 S.2.1 dX11_court_93 rfl (lv_at hl 1 rfl) ?_
          refine lv_iload_n S.1 S.2.1 dX11_court_94 rfl (lv_at hl 0 rfl) ?_
          refine z_callVr S K w hA (c_X11_mayBe l D cs ad F A T (F 3) (f_X11_mayBe (F 3) F A T) rfl) (cw_X11_123 S.2.2.2.2 ⟨Nat.le_of_ble_eq_true rfl, Nat.le_of_ble_eq_true rfl⟩) (z_recv K w 0 11 rfl rfl) rfl hl.1 rfl (Nat.le_of_ble_eq_true rfl) ⟨Nat.zero_le _, Nat.zero_le _⟩ dX11_court_95 (fun b3 H locs w => ?_)
          obtain ⟨q5, e6, h⟩ := og_b h
          refine z_callVi S K w hA (c_X11_due l D cs ad F A T (f_X11_mayBe (F 3) F A T) q5 e6) (cw_X11_102 S.2.2.2.2 ⟨Nat.le_of_ble_eq_true rfl, Nat.le_of_ble_eq_true rfl⟩) (z_recv K w 0 11 rfl rfl) rfl hl.1 rfl (Nat.le_of_ble_eq_true rfl) ⟨Nat.zero_le _, Nat.zero_le _⟩ dX11_court_98 (fun b4 H locs w => ?_)
          refine lv_pop S.1 S.2.1 dX11_court_101 rfl ?_
          refine lv_aload_n S.1 S.2.1 dX11_court_102 rfl (lv_at hl 1 rfl) ?_
          refine gM_0_20 S K w w748 dX11_court_103 ?_
          refine lv_bipush (v := -9) S.1 S.2.1 dX11_court_106 (by decide) ?_
          refine lv_icmp_ne (tgt := 137) S.1 S.2.1 dX11_court_108 (by decide) (fun c7 => ?_) (fun c7 => ?_)
          · have h := og_f c7 h
            refine lv_goto (tgt := 70) S.1 S.2.1 dX11_court_137 (by decide) ?_
            exact ih70 _ _ _ _ h _ _ _ (lv_sub hl [1, 2] rfl) w
          · have h := og_t c7 h
            refine lv_aload_n S.1 S.2.1 dX11_court_111 rfl (lv_at hl 1 rfl) ?_
            refine lv_iload_n S.1 S.2.1 dX11_court_112 rfl (lv_at hl 0 rfl) ?_
            obtain ⟨q8, e9, h⟩ := og_b h
            refine z_callVv S K w hA (c_X11_readRow l D cs ad q5.2.1 q5.2.2.1 q5.2.2.2 (F 3) q8 e9) (cw_X11_127 S.2.2.2.2 ⟨Nat.le_of_ble_eq_true rfl, Nat.le_of_ble_eq_true rfl⟩) (z_recv K w 0 11 rfl rfl) rfl hl.1 rfl (Nat.le_of_ble_eq_true rfl) ⟨Nat.zero_le _, Nat.zero_le _⟩ dX11_court_113 (fun H locs w => ?_)
            refine lv_aload_n S.1 S.2.1 dX11_court_116 rfl (lv_at hl 1 rfl) ?_
            refine lv_aload_n S.1 S.2.1 dX11_court_117 rfl (lv_at hl 1 rfl) ?_
            refine gM_0_18 S K w w746 dX11_court_118 ?_
            refine lv_iconst (v := 2) S.1 S.2.1 dX11_court_121 (by decide) ?_
            refine lv_icmp_ne (tgt := 129) S.1 S.2.1 dX11_court_122 (by decide) (fun c10 => ?_) (fun c10 => ?_)
            · have h := og_f c10 h
              refine lv_iconst (v := 0) S.1 S.2.1 dX11_court_129 (by decide) ?_
              exact j130 _ _ _ _ _ h _ _ _ (lv_sub hl [1, 2] rfl) w
            · have h := og_t c10 h
              refine lv_iconst (v := 1) S.1 S.2.1 dX11_court_125 (by decide) ?_
              refine lv_goto (tgt := 130) S.1 S.2.1 dX11_court_126 (by decide) ?_
              exact j130 _ _ _ _ _ h _ _ _ (lv_sub hl [1, 2] rfl) w
  refine lv_aload_n S.1 S.2.1 dX11_court_0 rfl (lv_at hl 0 rfl) ?_
  refine lv_iconst (v := 0) S.1 S.2.1 dX11_court_1 (by decide) ?_
  refine pM_0_16 S K w w744 dX11_court_2 (fun H locs w => ?_)
  refine lv_aload_n S.1 S.2.1 dX11_court_5 rfl (lv_at hl 0 rfl) ?_
  refine lv_bipush (v := -9) S.1 S.2.1 dX11_court_6 (by decide) ?_
  refine pM_0_20 S K w w748 dX11_court_8 (fun H locs w => ?_)
  refine lv_aload_n S.1 S.2.1 dX11_court_11 rfl (lv_at hl 0 rfl) ?_
  refine lv_iconst (v := 0) S.1 S.2.1 dX11_court_12 (by decide) ?_
  refine pM_0_21 S K w rfl rfl w749 dX11_court_13 (fun H locs w => ?_)
  refine lv_aload_n S.1 S.2.1 dX11_court_16 rfl (lv_at hl 0 rfl) ?_
  refine lv_iconst (v := 0) S.1 S.2.1 dX11_court_17 (by decide) ?_
  refine pM_0_22 S K w rfl rfl w750 dX11_court_18 (fun H locs w => ?_)
  refine lv_aload_n S.1 S.2.1 dX11_court_21 rfl (lv_at hl 0 rfl) ?_
  refine lv_bipush (v := 10) S.1 S.2.1 dX11_court_22 (by decide) ?_
  refine pM_0_23 S K w w751 dX11_court_24 (fun H locs w => ?_)
  refine lv_aload_n S.1 S.2.1 dX11_court_27 rfl (lv_at hl 0 rfl) ?_
  refine gM_0_3 S K w w731 dX11_court_28 ?_
  refine lv_iconst (v := 1) S.1 S.2.1 dX11_court_31 (by decide) ?_
  refine lv_iconst (v := 0) S.1 S.2.1 dX11_court_32 (by decide) ?_
  refine sM_2 S K w gk_1_2 dX11_court_33 (fun H locs w => ?_)
  refine lv_aload_n S.1 S.2.1 dX11_court_34 rfl (lv_at hl 0 rfl) ?_
  refine gM_0_5 S K w w733 dX11_court_35 ?_
  refine lv_iconst (v := 1) S.1 S.2.1 dX11_court_38 (by decide) ?_
  refine lv_iconst (v := 0) S.1 S.2.1 dX11_court_39 (by decide) ?_
  refine sM_4 S K w gk_1_2 dX11_court_40 (fun H locs w => ?_)
  refine lv_aload_n S.1 S.2.1 dX11_court_41 rfl (lv_at hl 0 rfl) ?_
  refine gM_0_9 S K w w737 dX11_court_42 ?_
  refine lv_iconst (v := 1) S.1 S.2.1 dX11_court_45 (by decide) ?_
  refine lv_iconst (v := 0) S.1 S.2.1 dX11_court_46 (by decide) ?_
  refine sM_8 S K w gk_1_2 dX11_court_47 (fun H locs w => ?_)
  refine lv_aload_n S.1 S.2.1 dX11_court_48 rfl (lv_at hl 0 rfl) ?_
  refine gM_0_14 S K w w742 dX11_court_49 ?_
  refine lv_iconst (v := 1) S.1 S.2.1 dX11_court_52 (by decide) ?_
  refine lv_bipush (v := 8) S.1 S.2.1 dX11_court_53 (by decide) ?_
  refine sM_13 S K w gk_1_2 dX11_court_55 (fun H locs w => ?_)
  refine lv_aload_n S.1 S.2.1 dX11_court_56 rfl (lv_at hl 0 rfl) ?_
  refine gM_0_15 S K w w743 dX11_court_57 ?_
  refine lv_iconst (v := 1) S.1 S.2.1 dX11_court_60 (by decide) ?_
  refine lv_bipush (v := 15) S.1 S.2.1 dX11_court_61 (by decide) ?_
  refine sM_14 S K w gk_1_2 dX11_court_63 (fun H locs w => ?_)
  refine lv_iconst (v := 0) S.1 S.2.1 dX11_court_64 (by decide) ?_
  refine lv_istore_n (lv' := [(1, .int (0 : Int32)), (0, .ref (ad 0))]) S.1 S.2.1 dX11_court_65 rfl hl (by decide) rfl (fun ls hl => ?_)
  refine lv_aload_n S.1 S.2.1 dX11_court_66 rfl (lv_at hl 1 rfl) ?_
  obtain ⟨q17, e18, h⟩ := og_b h
  refine z_callVv S K w hA (c_X11_next l D cs ad (upd (upd (upd (upd (upd F 1 (0 : Int32)) 5 (-9 : Int32)) 6 (0 : Int32)) 7 (0 : Int32)) 8 (10 : Int32)) (zst (zst (zst (zst (zst A 2 ((1 : Int32)).toNatClampNeg (0 : Int32)) 4 ((1 : Int32)).toNatClampNeg (0 : Int32)) 8 ((1 : Int32)).toNatClampNeg (0 : Int32)) 13 ((1 : Int32)).toNatClampNeg (8 : Int32)) 14 ((1 : Int32)).toNatClampNeg (15 : Int32)) T q17 e18) (cw_X11_99 S.2.2.2.2 ⟨Nat.le_of_ble_eq_true rfl, Nat.le_of_ble_eq_true rfl⟩) (z_recv K w 0 11 rfl rfl) rfl hl.1 rfl (Nat.le_of_ble_eq_true rfl) ⟨Nat.zero_le _, Nat.zero_le _⟩ dX11_court_67 (fun H locs w => ?_)
  exact j70 1000 _ _ _ _ h _ _ _ (lv_sub hl [1, 0] rfl) w
