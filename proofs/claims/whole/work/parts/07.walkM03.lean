set_option maxHeartbeats 4000000 in
set_option maxRecDepth 100000 in
theorem c_X11_mark (l : Launch) (D : va_G) (cs : Nat → ClassId) (ad : Nat → Nat) (F : ZF) (A : ZA) (T : Int64) (a0 a1 : Int32) (q : (Int32 × ZS)) (h : f_X11_mark a0 a1 F A T = some q) : zMi l D cs (MW cs ad) yX11_mark cX11_mark 6 (some .int) rm_X11_mark ([.ref (ad 0), .int a0, .int a1] : List Value) F A T q True := by
  refine z_enteri (by decide) (Nat.le_of_ble_eq_true rfl) ?_
  intro p e s m below meth c A0 ls S K w hA hr hlk hl
  have S : CallFix p m c cX11_mark 6 s ([.ref (ad 0), .int a0, .int a1] : List Value).toArray zWs RX11 := S
  have hl : lv_has ls 6 [(0, .ref (ad 0)), (1, .int a0), (2, .int a1)] := hl
  unfold f_X11_mark at h
  have j38 : ∀ (n38 : Nat) (x1 x2 x3 x4 x5 : Int32) (F : ZF) (A : ZA) (T : Int64), f_X11_mark_38 n38 x1 x2 x3 x4 x5 F A T = some q → ∀ (H : Heap) (locs : List Loc) (ls : Array Slot), lv_has ls 6 [(0, .ref (ad 0)), (1, .int x1), (2, .int x2), (3, .int x3), (4, .int x4), (5, .int x5)] → ZW D A0 s.heap (MW cs ad F A T) H locs → W p l e rm_X11_mark s m ([.ref (ad 0), .int a0, .int a1] : List Value).toArray below meth c H locs 0 0 (zQi (MW cs ad) D A0 below ([.ref (ad 0), .int a0, .int a1] : List Value) s q True) (F0 m 38 ls []) := by
    intro n38
    induction n38 with
    | zero =>
      intro x1 x2 x3 x4 x5 F A T h H locs ls hl w
      have h : (none : Option (Int32 × ZS)) = some q := h
      cases h
    | succ n38 ih38 =>
      intro x1 x2 x3 x4 x5 F A T h H locs ls hl w
      rw [f_X11_mark_38_s] at h
      have j67 : ∀ (x1 x2 x3 x5 y0 y1 : Int32) (F : ZF) (A : ZA) (T : Int64), f_X11_mark_67 (f_X11_mark_38 n38) x1 x2 x3 x5 y0 y1 F A T = some q → ∀ (H : Heap) (locs : List Loc) (ls : Array Slot), lv_has ls 6 [(0, .ref (ad 0)), (1, .int x1), (2, .int x2), (3, .int x3), (5, .int x5)] → ZW D A0 s.heap (MW cs ad F A T) H locs → W p l e rm_X11_mark s m ([.ref (ad 0), .int a0, .int a1] : List Value).toArray below meth c H locs 0 0 (zQi (MW cs ad) D A0 below ([.ref (ad 0), .int a0, .int a1] : List Value) s q True) (F0 m 67 ls [.int y0, .int y1]) := by
        intro x1 x2 x3 x5 y0 y1 F A T h H locs ls hl w
        unfold f_X11_mark_67 at h
        refine lv_iadd S.1 S.2.1 dX11_mark_67 ?_
        refine lv_istore (lv' := [(4, .int (y1 + y0)), (0, .ref (ad 0)), (1, .int x1), (2, .int x2), (3, .int x3), (5, .int x5)]) S.1 S.2.1 dX11_mark_68 hl (by decide) rfl (fun ls hl => ?_)
        refine lv_iinc (v := (x5 + (1 : Int32))) (lv' := [(5, .int (x5 + (1 : Int32))), (4, .int (y1 + y0)), (0, .ref (ad 0)), (1, .int x1), (2, .int x2), (3, .int x3)]) S.1 S.2.1 dX11_mark_70 hl (k := 5) rfl rfl (by decide) rfl (fun ls hl => ?_)
        refine lv_goto (tgt := 38) S.1 S.2.1 dX11_mark_73 (by decide) ?_
        exact ih38 _ _ _ _ _ _ _ _ h _ _ _ (lv_sub hl [2, 3, 4, 5, 1, 0] rfl) w
      refine lv_iload S.1 S.2.1 dX11_mark_38 (lv_at hl 5 rfl) ?_
      refine lv_aload_n S.1 S.2.1 dX11_mark_40 rfl (lv_at hl 0 rfl) ?_
      refine gM_0_9 S K w w737 dX11_mark_41 ?_
      refine lv_iconst (v := 0) S.1 S.2.1 dX11_mark_44 (by decide) ?_
      refine aM_8 S K w gk_0_2 dX11_mark_45 ?_
      refine lv_icmp_ge (tgt := 76) S.1 S.2.1 dX11_mark_46 (by decide) (fun c1 => ?_) (fun c1 => ?_)
      · have h := og_t c1 h
        refine lv_iload_n S.1 S.2.1 dX11_mark_76 rfl (lv_at hl 1 rfl) ?_
        by_cases c2 : x1 = (0 : Int32)
        · have h := og_t c2 h
          refine lv_tableIn (tgt := 112) S.1 S.2.1 dX11_mark_77 (by rw [c2]; decide) (by rw [c2]; decide) (off := 35) (by rw [c2]; decide) (by decide) ?_
          refine lv_aload_n S.1 S.2.1 dX11_mark_112 rfl (lv_at hl 0 rfl) ?_
          refine lv_dup S.1 S.2.1 dX11_mark_113 rfl ?_
          refine gM_0_0 S K w w728 dX11_mark_114 ?_
          refine lv_lconst (v := 1) S.1 S.2.1 dX11_mark_117 (by decide) ?_
          refine lv_ladd S.1 S.2.1 dX11_mark_118 ?_
          refine pM_0_0 S K w w728 dX11_mark_119 (fun H locs w => ?_)
          refine lv_iload_n S.1 S.2.1 dX11_mark_122 rfl (lv_at hl 3 rfl) ?_
          exact z_reti S w hr hlk dX11_mark_123 trivial (Option.some.inj h).symm
        · have h := og_f c2 h
          by_cases c3 : x1 = (1 : Int32)
          · have h := og_t c3 h
            refine lv_tableIn (tgt := 124) S.1 S.2.1 dX11_mark_77 (by rw [c3]; decide) (by rw [c3]; decide) (off := 47) (by rw [c3]; decide) (by decide) ?_
            refine lv_aload_n S.1 S.2.1 dX11_mark_124 rfl (lv_at hl 0 rfl) ?_
            refine lv_dup S.1 S.2.1 dX11_mark_125 rfl ?_
            refine gM_0_0 S K w w728 dX11_mark_126 ?_
            refine lv_ldc2 (v := 11) S.1 S.2.1 S.2.2.2.1 (S.2.2.2.2 _ w1061) dX11_mark_129 ?_
            refine lv_ladd S.1 S.2.1 dX11_mark_132 ?_
            refine pM_0_0 S K w w728 dX11_mark_133 (fun H locs w => ?_)
            refine lv_iload_n S.1 S.2.1 dX11_mark_136 rfl (lv_at hl 3 rfl) ?_
            refine lv_aload_n S.1 S.2.1 dX11_mark_137 rfl (lv_at hl 0 rfl) ?_
            refine gM_0_4 S K w w732 dX11_mark_138 ?_
            refine lv_iload_n S.1 S.2.1 dX11_mark_141 rfl (lv_at hl 2 rfl) ?_
            obtain ⟨g4, h⟩ := og_g h
            refine aM_3 S K w g4 dX11_mark_142 ?_
            refine lv_iadd S.1 S.2.1 dX11_mark_143 ?_
            exact z_reti S w hr hlk dX11_mark_144 trivial (Option.some.inj h).symm
          · have h := og_f c3 h
            by_cases c5 : x1 = (2 : Int32)
            · have h := og_t c5 h
              refine lv_tableIn (tgt := 145) S.1 S.2.1 dX11_mark_77 (by rw [c5]; decide) (by rw [c5]; decide) (off := 68) (by rw [c5]; decide) (by decide) ?_
              refine lv_aload_n S.1 S.2.1 dX11_mark_145 rfl (lv_at hl 0 rfl) ?_
              refine lv_dup S.1 S.2.1 dX11_mark_146 rfl ?_
              refine gM_0_0 S K w w728 dX11_mark_147 ?_
              refine lv_ldc2 (v := 101) S.1 S.2.1 S.2.2.2.1 (S.2.2.2.2 _ w1062) dX11_mark_150 ?_
              refine lv_ladd S.1 S.2.1 dX11_mark_153 ?_
              refine pM_0_0 S K w w728 dX11_mark_154 (fun H locs w => ?_)
              refine lv_iload_n S.1 S.2.1 dX11_mark_157 rfl (lv_at hl 3 rfl) ?_
              refine lv_iload S.1 S.2.1 dX11_mark_158 (lv_at hl 4 rfl) ?_
              refine lv_isub S.1 S.2.1 dX11_mark_160 ?_
              exact z_reti S w hr hlk dX11_mark_161 trivial (Option.some.inj h).symm
            · have h := og_f c5 h
              by_cases c6 : x1 = (3 : Int32)
              · have h := og_t c6 h
                refine lv_tableIn (tgt := 162) S.1 S.2.1 dX11_mark_77 (by rw [c6]; decide) (by rw [c6]; decide) (off := 85) (by rw [c6]; decide) (by decide) ?_
                refine lv_aload_n S.1 S.2.1 dX11_mark_162 rfl (lv_at hl 0 rfl) ?_
                refine lv_dup S.1 S.2.1 dX11_mark_163 rfl ?_
                refine gM_0_0 S K w w728 dX11_mark_164 ?_
                refine lv_ldc2 (v := 1011) S.1 S.2.1 S.2.2.2.1 (S.2.2.2.2 _ w1063) dX11_mark_167 ?_
                refine lv_ladd S.1 S.2.1 dX11_mark_170 ?_
                refine pM_0_0 S K w w728 dX11_mark_171 (fun H locs w => ?_)
                refine lv_iconst (v := 2) S.1 S.2.1 dX11_mark_174 (by decide) ?_
                refine lv_iload_n S.1 S.2.1 dX11_mark_175 rfl (lv_at hl 3 rfl) ?_
                refine lv_aload_n S.1 S.2.1 dX11_mark_176 rfl (lv_at hl 0 rfl) ?_
                refine gM_0_4 S K w w732 dX11_mark_177 ?_
                refine lv_iload_n S.1 S.2.1 dX11_mark_180 rfl (lv_at hl 2 rfl) ?_
                obtain ⟨g7, h⟩ := og_g h
                refine aM_3 S K w g7 dX11_mark_181 ?_
                refine lv_iadd S.1 S.2.1 dX11_mark_182 ?_
                refine lv_imul S.1 S.2.1 dX11_mark_183 ?_
                exact z_reti S w hr hlk dX11_mark_184 trivial (Option.some.inj h).symm
              · have h := og_f c6 h
                by_cases c8 : x1 = (4 : Int32)
                · have h := og_t c8 h
                  refine lv_tableIn (tgt := 185) S.1 S.2.1 dX11_mark_77 (by rw [c8]; decide) (by rw [c8]; decide) (off := 108) (by rw [c8]; decide) (by decide) ?_
                  refine lv_aload_n S.1 S.2.1 dX11_mark_185 rfl (lv_at hl 0 rfl) ?_
                  refine lv_dup S.1 S.2.1 dX11_mark_186 rfl ?_
                  refine gM_0_0 S K w w728 dX11_mark_187 ?_
                  refine lv_ldc2 (v := 10101) S.1 S.2.1 S.2.2.2.1 (S.2.2.2.2 _ w1064) dX11_mark_190 ?_
                  refine lv_ladd S.1 S.2.1 dX11_mark_193 ?_
                  refine pM_0_0 S K w w728 dX11_mark_194 (fun H locs w => ?_)
                  refine lv_iload_n S.1 S.2.1 dX11_mark_197 rfl (lv_at hl 3 rfl) ?_
                  refine lv_iload S.1 S.2.1 dX11_mark_198 (lv_at hl 4 rfl) ?_
                  refine lv_isub S.1 S.2.1 dX11_mark_200 ?_
                  refine lv_iload_n S.1 S.2.1 dX11_mark_201 rfl (lv_at hl 2 rfl) ?_
                  refine lv_iadd S.1 S.2.1 dX11_mark_202 ?_
                  exact z_reti S w hr hlk dX11_mark_203 trivial (Option.some.inj h).symm
                · have h := og_f c8 h
                  refine lv_tableOut (tgt := 204) S.1 S.2.1 dX11_mark_77 (by have := lv_neT (k := (0 : Int32)) (a := 0) c2 (by decide); have := lv_neT (k := (1 : Int32)) (a := 1) c3 (by decide); have := lv_neT (k := (2 : Int32)) (a := 2) c5 (by decide); have := lv_neT (k := (3 : Int32)) (a := 3) c6 (by decide); have := lv_neT (k := (4 : Int32)) (a := 4) c8 (by decide); omega) (by decide) ?_
                  refine lv_aload_n S.1 S.2.1 dX11_mark_204 rfl (lv_at hl 0 rfl) ?_
                  refine lv_dup S.1 S.2.1 dX11_mark_205 rfl ?_
                  refine gM_0_0 S K w w728 dX11_mark_206 ?_
                  refine lv_ldc2 (v := 100001) S.1 S.2.1 S.2.2.2.1 (S.2.2.2.2 _ w1065) dX11_mark_209 ?_
                  refine lv_ladd S.1 S.2.1 dX11_mark_212 ?_
                  refine pM_0_0 S K w w728 dX11_mark_213 (fun H locs w => ?_)
                  refine lv_iload_n S.1 S.2.1 dX11_mark_216 rfl (lv_at hl 3 rfl) ?_
                  refine lv_aload_n S.1 S.2.1 dX11_mark_217 rfl (lv_at hl 0 rfl) ?_
                  refine gM_0_24 S K w w752 dX11_mark_218 ?_
                  refine lv_iconst (v := 0) S.1 S.2.1 dX11_mark_221 (by decide) ?_
                  refine aM_15 S K w gk_0_102 dX11_mark_222 ?_
                  obtain ⟨q10, e11, h⟩ := og_b h
                  refine z_callSr S K w hA (c_X11_manyOf l D cs ad F A (T + (100001 : Int64)) (A 15 ((0 : Int32)).toNatClampNeg) q10 e11) (cw_X11_193 S.2.2.2.2 ⟨Nat.le_of_ble_eq_true rfl, Nat.le_of_ble_eq_true rfl⟩) rfl hl.1 rfl (Nat.le_of_ble_eq_true rfl) ⟨Nat.zero_le _, Nat.zero_le _⟩ dX11_mark_223 (fun b9 H locs w => ?_)
                  refine lv_iadd S.1 S.2.1 dX11_mark_226 ?_
                  exact z_reti S w hr hlk dX11_mark_227 trivial (Option.some.inj h).symm
      · have h := og_f c1 h
        refine lv_iload S.1 S.2.1 dX11_mark_49 (lv_at hl 4 rfl) ?_
        refine lv_aload_n S.1 S.2.1 dX11_mark_51 rfl (lv_at hl 0 rfl) ?_
        refine gM_0_10 S K w w738 dX11_mark_52 ?_
        refine lv_iload S.1 S.2.1 dX11_mark_55 (lv_at hl 5 rfl) ?_
        obtain ⟨g12, h⟩ := og_g h
        refine aM_9 S K w g12 dX11_mark_57 ?_
        refine lv_iload_n S.1 S.2.1 dX11_mark_58 rfl (lv_at hl 2 rfl) ?_
        refine lv_icmp_ne (tgt := 66) S.1 S.2.1 dX11_mark_59 (by decide) (fun c13 => ?_) (fun c13 => ?_)
        · have h := og_f c13 h
          refine lv_iconst (v := 0) S.1 S.2.1 dX11_mark_66 (by decide) ?_
          exact j67 _ _ _ _ _ _ _ _ _ h _ _ _ (lv_sub hl [0, 1, 2, 3, 5] rfl) w
        · have h := og_t c13 h
          refine lv_iconst (v := 1) S.1 S.2.1 dX11_mark_62 (by decide) ?_
          refine lv_goto (tgt := 67) S.1 S.2.1 dX11_mark_63 (by decide) ?_
          exact j67 _ _ _ _ _ _ _ _ _ h _ _ _ (lv_sub hl [0, 1, 2, 3, 5] rfl) w
  refine lv_iload_n S.1 S.2.1 dX11_mark_0 rfl (lv_at hl 1 rfl) ?_
  refine lv_iconst (v := 0) S.1 S.2.1 dX11_mark_1 (by decide) ?_
  refine lv_iconst (v := 5) S.1 S.2.1 dX11_mark_2 (by decide) ?_
  refine z_callSr S K w hA (c_X11_in l D cs ad F A T a0 (0 : Int32) (5 : Int32) (f_X11_in a0 (0 : Int32) (5 : Int32)) rfl) (cw_X11_72 S.2.2.2.2 ⟨Nat.le_of_ble_eq_true rfl, Nat.le_of_ble_eq_true rfl⟩) rfl hl.1 rfl (Nat.le_of_ble_eq_true rfl) ⟨Nat.zero_le _, Nat.zero_le _⟩ dX11_mark_3 (fun b14 H locs w => ?_)
  refine lv_if_eq (tgt := 17) S.1 S.2.1 dX11_mark_6 (by decide) (fun c15 => ?_) (fun c15 => ?_)
  · have h := og_t c15 h
    refine lv_ldc (v := -1000000) S.1 S.2.1 S.2.2.2.1 (S.2.2.2.2 _ w913) dX11_mark_17 ?_
    exact z_reti S w hr hlk dX11_mark_19 trivial (Option.some.inj h).symm
  · have h := og_f c15 h
    refine lv_aload_n S.1 S.2.1 dX11_mark_9 rfl (lv_at hl 0 rfl) ?_
    refine lv_iload_n S.1 S.2.1 dX11_mark_10 rfl (lv_at hl 2 rfl) ?_
    refine z_callVr S K w hA (c_X11_isSuspect l D cs ad F A T a1 (f_X11_isSuspect a1 F A T) rfl) (cw_X11_153 S.2.2.2.2 ⟨Nat.le_of_ble_eq_true rfl, Nat.le_of_ble_eq_true rfl⟩) (z_recv K w 0 11 rfl rfl) rfl hl.1 rfl (Nat.le_of_ble_eq_true rfl) ⟨Nat.zero_le _, Nat.zero_le _⟩ dX11_mark_11 (fun b16 H locs w => ?_)
    refine lv_if_ne (tgt := 20) S.1 S.2.1 dX11_mark_14 (by decide) (fun c17 => ?_) (fun c17 => ?_)
    · have h := og_f c17 h
      refine lv_aload_n S.1 S.2.1 dX11_mark_20 rfl (lv_at hl 0 rfl) ?_
      refine lv_iload_n S.1 S.2.1 dX11_mark_21 rfl (lv_at hl 2 rfl) ?_
      refine lv_aload_n S.1 S.2.1 dX11_mark_22 rfl (lv_at hl 0 rfl) ?_
      refine gM_0_24 S K w w752 dX11_mark_23 ?_
      refine lv_iconst (v := 0) S.1 S.2.1 dX11_mark_26 (by decide) ?_
      refine aM_15 S K w gk_0_102 dX11_mark_27 ?_
      obtain ⟨q19, e20, h⟩ := og_b h
      refine z_callVr S K w hA (c_X11_heldBy l D cs ad F A T a1 (A 15 ((0 : Int32)).toNatClampNeg) q19 e20) (cw_X11_144 S.2.2.2.2 ⟨Nat.le_of_ble_eq_true rfl, Nat.le_of_ble_eq_true rfl⟩) (z_recv K w 0 11 rfl rfl) rfl hl.1 rfl (Nat.le_of_ble_eq_true rfl) ⟨Nat.zero_le _, Nat.zero_le _⟩ dX11_mark_28 (fun b18 H locs w => ?_)
      refine lv_istore_n (lv' := [(3, .int q19), (0, .ref (ad 0)), (1, .int a0), (2, .int a1)]) S.1 S.2.1 dX11_mark_31 rfl hl (by decide) rfl (fun ls hl => ?_)
      refine lv_iconst (v := 0) S.1 S.2.1 dX11_mark_32 (by decide) ?_
      refine lv_istore (lv' := [(4, .int (0 : Int32)), (3, .int q19), (0, .ref (ad 0)), (1, .int a0), (2, .int a1)]) S.1 S.2.1 dX11_mark_33 hl (by decide) rfl (fun ls hl => ?_)
      refine lv_iconst (v := 0) S.1 S.2.1 dX11_mark_35 (by decide) ?_
      refine lv_istore (lv' := [(5, .int (0 : Int32)), (4, .int (0 : Int32)), (3, .int q19), (0, .ref (ad 0)), (1, .int a0), (2, .int a1)]) S.1 S.2.1 dX11_mark_36 hl (by decide) rfl (fun ls hl => ?_)
      exact j38 1000 _ _ _ _ _ _ _ _ h _ _ _ (lv_sub hl [3, 4, 5, 2, 1, 0] rfl) w
    · have h := og_t c17 h
      refine lv_ldc (v := -1000000) S.1 S.2.1 S.2.2.2.1 (S.2.2.2.2 _ w913) dX11_mark_17 ?_
      exact z_reti S w hr hlk dX11_mark_19 trivial (Option.some.inj h).symm
