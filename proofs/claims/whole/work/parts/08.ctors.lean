abbrev rm_X7_init : Room := { frames := 1, cells := 2, slots := 208, locals := 20 }
abbrev rm_X5_init : Room := { frames := 1, cells := 4, slots := 24, locals := 20 }
abbrev rm_X6_init : Room := { frames := 1, cells := 1, slots := 10, locals := 20 }
abbrev rm_X0_init : Room := { frames := 1, cells := 0, slots := 0, locals := 20 }
abbrev rm_X8_init : Room := { frames := 2, cells := 0, slots := 0, locals := 40 }
abbrev rm_X9_init : Room := { frames := 2, cells := 0, slots := 0, locals := 40 }
abbrev rm_X2_init : Room := { frames := 3, cells := 0, slots := 0, locals := 60 }
abbrev rm_X3_init : Room := { frames := 3, cells := 0, slots := 0, locals := 60 }
abbrev rm_X4_init : Room := { frames := 2, cells := 0, slots := 0, locals := 40 }
abbrev rm_X1_init : Room := { frames := 1, cells := 9, slots := 150, locals := 20 }
def xF0 : ZF := (upd (upd (upd (upd (upd (upd (upd (upd (upd (upd (fun _ => 0) 22 (0 : Int32)) 23 (0 : Int32)) 24 (0 : Int32)) 25 (8 : Int32)) 26 (15 : Int32)) 27 (10 : Int32)) 10 (0 : Int32)) 11 (0 : Int32)) 12 ((upd (upd (upd (upd (upd (upd (fun _ => 0) 22 (0 : Int32)) 23 (0 : Int32)) 24 (0 : Int32)) 25 (8 : Int32)) 26 (15 : Int32)) 27 (10 : Int32)) 27)) 13 (0 : Int32))
def mA0 : ZA := (zst (zst (zst (fun _ _ => 0) 13 ((0 : Int32)).toNatClampNeg (8 : Int32)) 14 ((0 : Int32)).toNatClampNeg (15 : Int32)) 15 ((2 : Int32)).toNatClampNeg (10 : Int32))
abbrev rm_X10_init : Room := { frames := 4, cells := 46, slots := 652, locals := 80 }
abbrev rm_X11_init : Room := { frames := 1, cells := 20, slots := 542, locals := 20 }
theorem ci_L_12 {R : Room} {s : State} {args : Array Value} (hz : ∀ w ∈ zWs, w.before args s = true) (hR : rm_X11_init.frames + 1 ≤ R.frames ∧ 8 + (1 + 11) + rm_X11_init.locals ≤ R.locals) : CallB R s args RL 12 yX11_init cX11_init 1 none (.code yX11_init cX11_init 1 none :: zWs) rm_X11_init 20 542 0 ∧ yX11_init.name = "<init>" ∧ (Cond.instanceMethod yX11_init).before args s = true :=
  ⟨callB_of 0 hz (z_gC w726) rfl rfl rfl (hz _ w67) (hz _ w724) (by decide +kernel) hR, rfl, hz _ w725⟩
theorem ci_L_9 {R : Room} {s : State} {args : Array Value} (hz : ∀ w ∈ zWs, w.before args s = true) (hR : rm_X10_init.frames + 1 ≤ R.frames ∧ 8 + (1 + 11) + rm_X10_init.locals ≤ R.locals) : CallB R s args RL 9 yX10_init cX10_init 1 none (.code yX10_init cX10_init 1 none :: zWs) rm_X10_init 46 652 0 ∧ yX10_init.name = "<init>" ∧ (Cond.instanceMethod yX10_init).before args s = true :=
  ⟨callB_of 0 hz (z_gC w75) rfl rfl rfl (hz _ w56) (hz _ w73) (by decide +kernel) hR, rfl, hz _ w74⟩
theorem ci_X10_18 {R : Room} {s : State} {args : Array Value} (hz : ∀ w ∈ zWs, w.before args s = true) (hN : zNw s) (hR : rm_X5_init.frames + 1 ≤ R.frames ∧ 8 + (1 + 11) + rm_X5_init.locals ≤ R.locals) : va_CN R s args RX10 18 yX5_init "FifthsOfGuilt" cX5_init 1 none (.code yX5_init cX5_init 1 none :: zWs) rm_X5_init 4 24 0 ∧ yX5_init.name = "<init>" ∧ (Cond.instanceMethod yX5_init).before args s = true :=
  ⟨va_cnB 0 hz (z_gC w120) rfl rfl rfl (hN _ (by decide +kernel)) (hz _ w58) (by decide +kernel) hR, rfl, hz _ w119⟩
theorem ci_X10_25 {R : Room} {s : State} {args : Array Value} (hz : ∀ w ∈ zWs, w.before args s = true) (hN : zNw s) (hR : rm_X6_init.frames + 1 ≤ R.frames ∧ 8 + (1 + 11) + rm_X6_init.locals ≤ R.locals) : va_CN R s args RX10 25 yX6_init "FifthsOfGuilt" cX6_init 1 none (.code yX6_init cX6_init 1 none :: zWs) rm_X6_init 1 10 0 ∧ yX6_init.name = "<init>" ∧ (Cond.instanceMethod yX6_init).before args s = true :=
  ⟨va_cnB 0 hz (z_gC w150) rfl rfl rfl (hN _ (by decide +kernel)) (hz _ w59) (by decide +kernel) hR, rfl, hz _ w149⟩
theorem ci_X10_40 {R : Room} {s : State} {args : Array Value} (hz : ∀ w ∈ zWs, w.before args s = true) (hN : zNw s) (hR : rm_X0_init.frames + 1 ≤ R.frames ∧ 8 + (1 + 11) + rm_X0_init.locals ≤ R.locals) : va_CN R s args RX10 40 yX0_init "FifthsOfGuilt" cX0_init 1 none (.code yX0_init cX0_init 1 none :: zWs) rm_X0_init 0 0 0 ∧ yX0_init.name = "<init>" ∧ (Cond.instanceMethod yX0_init).before args s = true :=
  ⟨va_cnB 0 hz (z_gC w179) rfl rfl rfl (hN _ (by decide +kernel)) (hz _ w60) (by decide +kernel) hR, rfl, hz _ w178⟩
theorem ci_X10_43 {R : Room} {s : State} {args : Array Value} (hz : ∀ w ∈ zWs, w.before args s = true) (hN : zNw s) (hR : rm_X8_init.frames + 1 ≤ R.frames ∧ 8 + (1 + 11) + rm_X8_init.locals ≤ R.locals) : va_CN R s args RX10 43 yX8_init "FifthsOfGuilt" cX8_init 1 none (.code yX8_init cX8_init 1 none :: zWs) rm_X8_init 0 0 0 ∧ yX8_init.name = "<init>" ∧ (Cond.instanceMethod yX8_init).before args s = true :=
  ⟨va_cnB 0 hz (z_gC w187) rfl rfl rfl (hN _ (by decide +kernel)) (hz _ w61) (by decide +kernel) hR, rfl, hz _ w186⟩
theorem ci_X10_46 {R : Room} {s : State} {args : Array Value} (hz : ∀ w ∈ zWs, w.before args s = true) (hN : zNw s) (hR : rm_X9_init.frames + 1 ≤ R.frames ∧ 8 + (1 + 11) + rm_X9_init.locals ≤ R.locals) : va_CN R s args RX10 46 yX9_init "FifthsOfGuilt" cX9_init 1 none (.code yX9_init cX9_init 1 none :: zWs) rm_X9_init 0 0 0 ∧ yX9_init.name = "<init>" ∧ (Cond.instanceMethod yX9_init).before args s = true :=
  ⟨va_cnB 0 hz (z_gC w194) rfl rfl rfl (hN _ (by decide +kernel)) (hz _ w62) (by decide +kernel) hR, rfl, hz _ w193⟩
theorem ci_X10_49 {R : Room} {s : State} {args : Array Value} (hz : ∀ w ∈ zWs, w.before args s = true) (hN : zNw s) (hR : rm_X2_init.frames + 1 ≤ R.frames ∧ 8 + (1 + 11) + rm_X2_init.locals ≤ R.locals) : va_CN R s args RX10 49 yX2_init "FifthsOfGuilt" cX2_init 1 none (.code yX2_init cX2_init 1 none :: zWs) rm_X2_init 0 0 0 ∧ yX2_init.name = "<init>" ∧ (Cond.instanceMethod yX2_init).before args s = true :=
  ⟨va_cnB 0 hz (z_gC w201) rfl rfl rfl (hN _ (by decide +kernel)) (hz _ w63) (by decide +kernel) hR, rfl, hz _ w200⟩
theorem ci_X10_52 {R : Room} {s : State} {args : Array Value} (hz : ∀ w ∈ zWs, w.before args s = true) (hN : zNw s) (hR : rm_X3_init.frames + 1 ≤ R.frames ∧ 8 + (1 + 11) + rm_X3_init.locals ≤ R.locals) : va_CN R s args RX10 52 yX3_init "FifthsOfGuilt" cX3_init 1 none (.code yX3_init cX3_init 1 none :: zWs) rm_X3_init 0 0 0 ∧ yX3_init.name = "<init>" ∧ (Cond.instanceMethod yX3_init).before args s = true :=
  ⟨va_cnB 0 hz (z_gC w208) rfl rfl rfl (hN _ (by decide +kernel)) (hz _ w64) (by decide +kernel) hR, rfl, hz _ w207⟩
theorem ci_X10_55 {R : Room} {s : State} {args : Array Value} (hz : ∀ w ∈ zWs, w.before args s = true) (hN : zNw s) (hR : rm_X4_init.frames + 1 ≤ R.frames ∧ 8 + (1 + 11) + rm_X4_init.locals ≤ R.locals) : va_CN R s args RX10 55 yX4_init "FifthsOfGuilt" cX4_init 1 none (.code yX4_init cX4_init 1 none :: zWs) rm_X4_init 0 0 0 ∧ yX4_init.name = "<init>" ∧ (Cond.instanceMethod yX4_init).before args s = true :=
  ⟨va_cnB 0 hz (z_gC w215) rfl rfl rfl (hN _ (by decide +kernel)) (hz _ w65) (by decide +kernel) hR, rfl, hz _ w214⟩
theorem ci_X10_72 {R : Room} {s : State} {args : Array Value} (hz : ∀ w ∈ zWs, w.before args s = true) (hN : zNw s) (hR : rm_X1_init.frames + 1 ≤ R.frames ∧ 8 + (1 + 11) + rm_X1_init.locals ≤ R.locals) : va_CN R s args RX10 72 yX1_init "FifthsOfGuilt" cX1_init 1 none (.code yX1_init cX1_init 1 none :: zWs) rm_X1_init 9 150 0 ∧ yX1_init.name = "<init>" ∧ (Cond.instanceMethod yX1_init).before args s = true :=
  ⟨va_cnB 0 hz (z_gC w222) rfl rfl rfl (hN _ (by decide +kernel)) (hz _ w66) (by decide +kernel) hR, rfl, hz _ w221⟩
theorem ci_X10_9 {R : Room} {s : State} {args : Array Value} (hz : ∀ w ∈ zWs, w.before args s = true) (hN : zNw s) (hR : rm_X7_init.frames + 1 ≤ R.frames ∧ 8 + (1 + 11) + rm_X7_init.locals ≤ R.locals) : va_CN R s args RX10 9 yX7_init "FifthsOfGuilt" cX7_init 1 none (.code yX7_init cX7_init 1 none :: zWs) rm_X7_init 2 208 0 ∧ yX7_init.name = "<init>" ∧ (Cond.instanceMethod yX7_init).before args s = true :=
  ⟨va_cnB 0 hz (z_gC w83) rfl rfl rfl (hN _ (by decide +kernel)) (hz _ w57) (by decide +kernel) hR, rfl, hz _ w82⟩
theorem ci_X2_1 {R : Room} {s : State} {args : Array Value} (hz : ∀ w ∈ zWs, w.before args s = true) (hN : zNw s) (hR : rm_X8_init.frames + 1 ≤ R.frames ∧ 8 + (1 + 11) + rm_X8_init.locals ≤ R.locals) : va_CN R s args RX2 1 yX8_init "FifthsOfGuilt" cX8_init 1 none (.code yX8_init cX8_init 1 none :: zWs) rm_X8_init 0 0 0 ∧ yX8_init.name = "<init>" ∧ (Cond.instanceMethod yX8_init).before args s = true :=
  ⟨va_cnB 0 hz (z_gC w187) rfl rfl rfl (hN _ (by decide +kernel)) (hz _ w61) (by decide +kernel) hR, rfl, hz _ w186⟩
theorem ci_X3_1 {R : Room} {s : State} {args : Array Value} (hz : ∀ w ∈ zWs, w.before args s = true) (hN : zNw s) (hR : rm_X9_init.frames + 1 ≤ R.frames ∧ 8 + (1 + 11) + rm_X9_init.locals ≤ R.locals) : va_CN R s args RX3 1 yX9_init "FifthsOfGuilt" cX9_init 1 none (.code yX9_init cX9_init 1 none :: zWs) rm_X9_init 0 0 0 ∧ yX9_init.name = "<init>" ∧ (Cond.instanceMethod yX9_init).before args s = true :=
  ⟨va_cnB 0 hz (z_gC w194) rfl rfl rfl (hN _ (by decide +kernel)) (hz _ w62) (by decide +kernel) hR, rfl, hz _ w193⟩
theorem ci_X4_1 {R : Room} {s : State} {args : Array Value} (hz : ∀ w ∈ zWs, w.before args s = true) (hN : zNw s) (hR : rm_X0_init.frames + 1 ≤ R.frames ∧ 8 + (1 + 11) + rm_X0_init.locals ≤ R.locals) : va_CN R s args RX4 1 yX0_init "FifthsOfGuilt" cX0_init 1 none (.code yX0_init cX0_init 1 none :: zWs) rm_X0_init 0 0 0 ∧ yX0_init.name = "<init>" ∧ (Cond.instanceMethod yX0_init).before args s = true :=
  ⟨va_cnB 0 hz (z_gC w179) rfl rfl rfl (hN _ (by decide +kernel)) (hz _ w60) (by decide +kernel) hR, rfl, hz _ w178⟩
theorem ci_X8_1 {R : Room} {s : State} {args : Array Value} (hz : ∀ w ∈ zWs, w.before args s = true) (hN : zNw s) (hR : rm_X0_init.frames + 1 ≤ R.frames ∧ 8 + (1 + 11) + rm_X0_init.locals ≤ R.locals) : va_CN R s args RX8 1 yX0_init "FifthsOfGuilt" cX0_init 1 none (.code yX0_init cX0_init 1 none :: zWs) rm_X0_init 0 0 0 ∧ yX0_init.name = "<init>" ∧ (Cond.instanceMethod yX0_init).before args s = true :=
  ⟨va_cnB 0 hz (z_gC w179) rfl rfl rfl (hN _ (by decide +kernel)) (hz _ w60) (by decide +kernel) hR, rfl, hz _ w178⟩
theorem ci_X9_1 {R : Room} {s : State} {args : Array Value} (hz : ∀ w ∈ zWs, w.before args s = true) (hN : zNw s) (hR : rm_X0_init.frames + 1 ≤ R.frames ∧ 8 + (1 + 11) + rm_X0_init.locals ≤ R.locals) : va_CN R s args RX9 1 yX0_init "FifthsOfGuilt" cX0_init 1 none (.code yX0_init cX0_init 1 none :: zWs) rm_X0_init 0 0 0 ∧ yX0_init.name = "<init>" ∧ (Cond.instanceMethod yX0_init).before args s = true :=
  ⟨va_cnB 0 hz (z_gC w179) rfl rfl rfl (hN _ (by decide +kernel)) (hz _ w60) (by decide +kernel) hR, rfl, hz _ w178⟩
set_option maxHeartbeats 4000000 in
set_option maxRecDepth 100000 in
theorem c_X0_init (l : Launch) (D : va_G) (cs : Nat → ClassId) (a : Nat) (ci : Nat) : zMn l D cs yX0_init cX0_init 1 rm_X0_init a [(a, .inr (ci, []))] (fun u => [(a, .inr (ci, []))]) (fun _ => True) 0 0 := by
  refine z_entern (by decide) (Nat.le_refl 1) ?_
  intro p e s m below meth c A0 ls S K w hA hr hlk hnm hl
  have S : CallFix p m c cX0_init 1 s ([.ref a] : List Value).toArray zWs RX0 := S
  have hnm : meth.name = "<init>" := hnm
  refine lv_aload_n S.1 S.2.1 dX0_init_0 rfl (lv_at hl 0 rfl) ?_
  refine z_objInit S hl.1 w180 w77 w78 (Nat.le_of_ble_eq_true rfl) (Nat.le_of_ble_eq_true rfl) dX0_init_1 ?_
  exact z_retn S (fun k => k) w trivial hr hlk dX0_init_4
set_option maxHeartbeats 4000000 in
set_option maxRecDepth 100000 in
theorem c_X8_init (l : Launch) (D : va_G) (cs : Nat → ClassId) (a : Nat) (ci : Nat) : zMn l D cs yX8_init cX8_init 1 rm_X8_init a [(a, .inr (ci, []))] (fun u => [(a, .inr (ci, []))]) (fun _ => True) 0 0 := by
  refine z_entern (by decide) (Nat.le_refl 1) ?_
  intro p e s m below meth c A0 ls S K w hA hr hlk hnm hl
  have S : CallFix p m c cX8_init 1 s ([.ref a] : List Value).toArray zWs RX8 := S
  have hnm : meth.name = "<init>" := hnm
  refine lv_aload_n S.1 S.2.1 dX8_init_0 rfl (lv_at hl 0 rfl) ?_
  refine z_callIn (wr := []) S K w hA [0] [] rfl rfl (by decide) rfl (by decide) (by decide) (c_X0_init l D cs a ci) (ci_X8_1 S.2.2.2.2 K.2 ⟨(Nat.le_of_ble_eq_true rfl), (Nat.le_of_ble_eq_true rfl)⟩) hl.1 (Nat.le_of_ble_eq_true rfl) ⟨(Nat.le_of_ble_eq_true rfl), (Nat.le_of_ble_eq_true rfl)⟩ dX8_init_1 (fun u1 H locs hp w => ?_)
  have w : ZW D A0 s.heap [(a, .inr (ci, []))] _ _ := w
  refine W.widen (k := 0) (n := 0) (Nat.le_of_ble_eq_true rfl) (Nat.le_of_ble_eq_true rfl) ?_
  exact z_retn S (fun k => k) w trivial hr hlk dX8_init_4
set_option maxHeartbeats 4000000 in
set_option maxRecDepth 100000 in
theorem c_X9_init (l : Launch) (D : va_G) (cs : Nat → ClassId) (a : Nat) (ci : Nat) : zMn l D cs yX9_init cX9_init 1 rm_X9_init a [(a, .inr (ci, []))] (fun u => [(a, .inr (ci, []))]) (fun _ => True) 0 0 := by
  refine z_entern (by decide) (Nat.le_refl 1) ?_
  intro p e s m below meth c A0 ls S K w hA hr hlk hnm hl
  have S : CallFix p m c cX9_init 1 s ([.ref a] : List Value).toArray zWs RX9 := S
  have hnm : meth.name = "<init>" := hnm
  refine lv_aload_n S.1 S.2.1 dX9_init_0 rfl (lv_at hl 0 rfl) ?_
  refine z_callIn (wr := []) S K w hA [0] [] rfl rfl (by decide) rfl (by decide) (by decide) (c_X0_init l D cs a ci) (ci_X9_1 S.2.2.2.2 K.2 ⟨(Nat.le_of_ble_eq_true rfl), (Nat.le_of_ble_eq_true rfl)⟩) hl.1 (Nat.le_of_ble_eq_true rfl) ⟨(Nat.le_of_ble_eq_true rfl), (Nat.le_of_ble_eq_true rfl)⟩ dX9_init_1 (fun u1 H locs hp w => ?_)
  have w : ZW D A0 s.heap [(a, .inr (ci, []))] _ _ := w
  refine W.widen (k := 0) (n := 0) (Nat.le_of_ble_eq_true rfl) (Nat.le_of_ble_eq_true rfl) ?_
  exact z_retn S (fun k => k) w trivial hr hlk dX9_init_4
set_option maxHeartbeats 4000000 in
set_option maxRecDepth 100000 in
theorem c_X2_init (l : Launch) (D : va_G) (cs : Nat → ClassId) (a : Nat) (ci : Nat) : zMn l D cs yX2_init cX2_init 1 rm_X2_init a [(a, .inr (ci, []))] (fun u => [(a, .inr (ci, []))]) (fun _ => True) 0 0 := by
  refine z_entern (by decide) (Nat.le_refl 1) ?_
  intro p e s m below meth c A0 ls S K w hA hr hlk hnm hl
  have S : CallFix p m c cX2_init 1 s ([.ref a] : List Value).toArray zWs RX2 := S
  have hnm : meth.name = "<init>" := hnm
  refine lv_aload_n S.1 S.2.1 dX2_init_0 rfl (lv_at hl 0 rfl) ?_
  refine z_callIn (wr := []) S K w hA [0] [] rfl rfl (by decide) rfl (by decide) (by decide) (c_X8_init l D cs a ci) (ci_X2_1 S.2.2.2.2 K.2 ⟨(Nat.le_of_ble_eq_true rfl), (Nat.le_of_ble_eq_true rfl)⟩) hl.1 (Nat.le_of_ble_eq_true rfl) ⟨(Nat.le_of_ble_eq_true rfl), (Nat.le_of_ble_eq_true rfl)⟩ dX2_init_1 (fun u1 H locs hp w => ?_)
  have w : ZW D A0 s.heap [(a, .inr (ci, []))] _ _ := w
  refine W.widen (k := 0) (n := 0) (Nat.le_of_ble_eq_true rfl) (Nat.le_of_ble_eq_true rfl) ?_
  exact z_retn S (fun k => k) w trivial hr hlk dX2_init_4
set_option maxHeartbeats 4000000 in
set_option maxRecDepth 100000 in
theorem c_X3_init (l : Launch) (D : va_G) (cs : Nat → ClassId) (a : Nat) (ci : Nat) : zMn l D cs yX3_init cX3_init 1 rm_X3_init a [(a, .inr (ci, []))] (fun u => [(a, .inr (ci, []))]) (fun _ => True) 0 0 := by
  refine z_entern (by decide) (Nat.le_refl 1) ?_
  intro p e s m below meth c A0 ls S K w hA hr hlk hnm hl
  have S : CallFix p m c cX3_init 1 s ([.ref a] : List Value).toArray zWs RX3 := S
  have hnm : meth.name = "<init>" := hnm
  refine lv_aload_n S.1 S.2.1 dX3_init_0 rfl (lv_at hl 0 rfl) ?_
  refine z_callIn (wr := []) S K w hA [0] [] rfl rfl (by decide) rfl (by decide) (by decide) (c_X9_init l D cs a ci) (ci_X3_1 S.2.2.2.2 K.2 ⟨(Nat.le_of_ble_eq_true rfl), (Nat.le_of_ble_eq_true rfl)⟩) hl.1 (Nat.le_of_ble_eq_true rfl) ⟨(Nat.le_of_ble_eq_true rfl), (Nat.le_of_ble_eq_true rfl)⟩ dX3_init_1 (fun u1 H locs hp w => ?_)
  have w : ZW D A0 s.heap [(a, .inr (ci, []))] _ _ := w
  refine W.widen (k := 0) (n := 0) (Nat.le_of_ble_eq_true rfl) (Nat.le_of_ble_eq_true rfl) ?_
  exact z_retn S (fun k => k) w trivial hr hlk dX3_init_4
set_option maxHeartbeats 4000000 in
set_option maxRecDepth 100000 in
theorem c_X4_init (l : Launch) (D : va_G) (cs : Nat → ClassId) (a : Nat) (ci : Nat) : zMn l D cs yX4_init cX4_init 1 rm_X4_init a [(a, .inr (ci, []))] (fun u => [(a, .inr (ci, []))]) (fun _ => True) 0 0 := by
  refine z_entern (by decide) (Nat.le_refl 1) ?_
  intro p e s m below meth c A0 ls S K w hA hr hlk hnm hl
  have S : CallFix p m c cX4_init 1 s ([.ref a] : List Value).toArray zWs RX4 := S
  have hnm : meth.name = "<init>" := hnm
  refine lv_aload_n S.1 S.2.1 dX4_init_0 rfl (lv_at hl 0 rfl) ?_
  refine z_callIn (wr := []) S K w hA [0] [] rfl rfl (by decide) rfl (by decide) (by decide) (c_X0_init l D cs a ci) (ci_X4_1 S.2.2.2.2 K.2 ⟨(Nat.le_of_ble_eq_true rfl), (Nat.le_of_ble_eq_true rfl)⟩) hl.1 (Nat.le_of_ble_eq_true rfl) ⟨(Nat.le_of_ble_eq_true rfl), (Nat.le_of_ble_eq_true rfl)⟩ dX4_init_1 (fun u1 H locs hp w => ?_)
  have w : ZW D A0 s.heap [(a, .inr (ci, []))] _ _ := w
  refine W.widen (k := 0) (n := 0) (Nat.le_of_ble_eq_true rfl) (Nat.le_of_ble_eq_true rfl) ?_
  exact z_retn S (fun k => k) w trivial hr hlk dX4_init_4
set_option maxHeartbeats 4000000 in
set_option maxRecDepth 100000 in
theorem c_X7_init (l : Launch) (D : va_G) (cs : Nat → ClassId) (a : Nat) : zMn l D cs yX7_init cX7_init 1 rm_X7_init a [(a, .inr (7, [.null, .int 0, .null, .int 0, .int 0, .int 0, .int 0, .int 0, .int 0]))] (fun u => [(a, .inr (7, [.ref (u 0), .int 0, .ref (u 1), .int 0, .int 0, .int 0, .int 0, .int 0, .int 0])), ((u 0), .inl (cs 0, 200, .inl (fun _ => 0))), ((u 1), .inl (cs 0, 8, .inl (fun _ => 0)))]) (fun _ => True) 2 208 := by
  refine z_entern (by decide) (Nat.le_refl 1) ?_
  intro p e s m below meth c A0 ls S K w hA hr hlk hnm hl
  have S : CallFix p m c cX7_init 1 s ([.ref a] : List Value).toArray zWs RX7 := S
  have hnm : meth.name = "<init>" := hnm
  refine lv_aload_n S.1 S.2.1 dX7_init_0 rfl (lv_at hl 0 rfl) ?_
  refine z_objInit S hl.1 w84 w77 w78 (Nat.le_of_ble_eq_true rfl) (Nat.le_of_ble_eq_true rfl) dX7_init_1 ?_
  refine lv_aload_n S.1 S.2.1 dX7_init_4 rfl (lv_at hl 0 rfl) ?_
  refine lv_sipush (v := 200) S.1 S.2.1 dX7_init_5 (by decide) ?_
  refine z_newa (atype := .int) (ty := .int) (a0 := (200, .inl (fun _ => 0))) (N' := 200) S K w hA 0 rfl rfl (fun _ _ h => h) w115 (fun _ => rfl) (by decide) (by decide) (by decide) (Nat.le_of_ble_eq_true rfl) (Nat.le_of_ble_eq_true rfl) dX7_init_8 (fun q1 H w => ?_)
  have w : ZW D A0 s.heap [(a, .inr (7, [.null, .int 0, .null, .int 0, .int 0, .int 0, .int 0, .int 0, .int 0])), (q1, .inl (cs 0, 200, .inl (fun _ => 0)))] _ _ := w
  refine W.widen (k := 1) (n := 200) (Nat.le_of_ble_eq_true rfl) (Nat.le_of_ble_eq_true rfl) ?_
  refine z_putF (C := RX7) (T := TX7) (N := 9) (ci := 7) (ty := (.array .int)) (v := .ref q1) (ws' := [(a, .inr (7, [.ref q1, .int 0, .null, .int 0, .int 0, .int 0, .int 0, .int 0, .int 0])), (q1, .inl (cs 0, 200, .inl (fun _ => 0)))]) S K w inZ7 tyX7 tyX7_ok nmX7 0 rfl rfl 0 (by decide) w85 rfl rfl hnm rfl rfl rfl rfl (Nat.le_of_ble_eq_true rfl) rfl dX7_init_10 (fun H locs w => ?_)
  refine lv_aload_n S.1 S.2.1 dX7_init_13 rfl (lv_at hl 0 rfl) ?_
  refine lv_bipush (v := 8) S.1 S.2.1 dX7_init_14 (by decide) ?_
  refine z_newa (atype := .int) (ty := .int) (a0 := (8, .inl (fun _ => 0))) (N' := 8) S K w hA 0 rfl rfl (fun _ _ h => h) w115 (fun _ => rfl) (by decide) (by decide) (by decide) (Nat.le_of_ble_eq_true rfl) (Nat.le_of_ble_eq_true rfl) dX7_init_16 (fun q2 H w => ?_)
  have w : ZW D A0 s.heap [(a, .inr (7, [.ref q1, .int 0, .null, .int 0, .int 0, .int 0, .int 0, .int 0, .int 0])), (q1, .inl (cs 0, 200, .inl (fun _ => 0))), (q2, .inl (cs 0, 8, .inl (fun _ => 0)))] _ _ := w
  refine W.widen (k := 2) (n := 208) (Nat.le_of_ble_eq_true rfl) (Nat.le_of_ble_eq_true rfl) ?_
  refine z_putF (C := RX7) (T := TX7) (N := 9) (ci := 7) (ty := (.array .int)) (v := .ref q2) (ws' := [(a, .inr (7, [.ref q1, .int 0, .ref q2, .int 0, .int 0, .int 0, .int 0, .int 0, .int 0])), (q1, .inl (cs 0, 200, .inl (fun _ => 0))), (q2, .inl (cs 0, 8, .inl (fun _ => 0)))]) S K w inZ7 tyX7 tyX7_ok nmX7 0 rfl rfl 2 (by decide) w89 rfl rfl hnm rfl rfl rfl rfl (Nat.le_of_ble_eq_true rfl) rfl dX7_init_18 (fun H locs w => ?_)
  exact z_retn S (fun k => if k = 0 then q1 else q2) w trivial hr hlk dX7_init_21
set_option maxHeartbeats 4000000 in
set_option maxRecDepth 100000 in
theorem c_X5_init (l : Launch) (D : va_G) (cs : Nat → ClassId) (a : Nat) : zMn l D cs yX5_init cX5_init 1 rm_X5_init a [(a, .inr (5, [.null, .null, .null, .int 0, .null, .int 0]))] (fun u => [(a, .inr (5, [.ref (u 0), .ref (u 1), .ref (u 2), .int 0, .ref (u 3), .int 0])), ((u 0), .inl (cs 0, 6, .inl (fun _ => 0))), ((u 1), .inl (cs 0, 6, .inl (fun _ => 0))), ((u 2), .inl (cs 0, 6, .inl (fun _ => 0))), ((u 3), .inl (cs 0, 6, .inl (fun _ => 0)))]) (fun _ => True) 4 24 := by
  refine z_entern (by decide) (Nat.le_refl 1) ?_
  intro p e s m below meth c A0 ls S K w hA hr hlk hnm hl
  have S : CallFix p m c cX5_init 1 s ([.ref a] : List Value).toArray zWs RX5 := S
  have hnm : meth.name = "<init>" := hnm
  refine lv_aload_n S.1 S.2.1 dX5_init_0 rfl (lv_at hl 0 rfl) ?_
  refine z_objInit S hl.1 w121 w77 w78 (Nat.le_of_ble_eq_true rfl) (Nat.le_of_ble_eq_true rfl) dX5_init_1 ?_
  refine lv_aload_n S.1 S.2.1 dX5_init_4 rfl (lv_at hl 0 rfl) ?_
  refine lv_bipush (v := 6) S.1 S.2.1 dX5_init_5 (by decide) ?_
  refine z_newa (atype := .int) (ty := .int) (a0 := (6, .inl (fun _ => 0))) (N' := 6) S K w hA 0 rfl rfl (fun _ _ h => h) w115 (fun _ => rfl) (by decide) (by decide) (by decide) (Nat.le_of_ble_eq_true rfl) (Nat.le_of_ble_eq_true rfl) dX5_init_7 (fun q1 H w => ?_)
  have w : ZW D A0 s.heap [(a, .inr (5, [.null, .null, .null, .int 0, .null, .int 0])), (q1, .inl (cs 0, 6, .inl (fun _ => 0)))] _ _ := w
  refine W.widen (k := 1) (n := 6) (Nat.le_of_ble_eq_true rfl) (Nat.le_of_ble_eq_true rfl) ?_
  refine z_putF (C := RX5) (T := TX5) (N := 6) (ci := 5) (ty := (.array .int)) (v := .ref q1) (ws' := [(a, .inr (5, [.ref q1, .null, .null, .int 0, .null, .int 0])), (q1, .inl (cs 0, 6, .inl (fun _ => 0)))]) S K w inZ5 tyX5 tyX5_ok nmX5 0 rfl rfl 0 (by decide) w122 rfl rfl hnm rfl rfl rfl rfl (Nat.le_of_ble_eq_true rfl) rfl dX5_init_9 (fun H locs w => ?_)
  refine lv_aload_n S.1 S.2.1 dX5_init_12 rfl (lv_at hl 0 rfl) ?_
  refine lv_bipush (v := 6) S.1 S.2.1 dX5_init_13 (by decide) ?_
  refine z_newa (atype := .int) (ty := .int) (a0 := (6, .inl (fun _ => 0))) (N' := 6) S K w hA 0 rfl rfl (fun _ _ h => h) w115 (fun _ => rfl) (by decide) (by decide) (by decide) (Nat.le_of_ble_eq_true rfl) (Nat.le_of_ble_eq_true rfl) dX5_init_15 (fun q2 H w => ?_)
  have w : ZW D A0 s.heap [(a, .inr (5, [.ref q1, .null, .null, .int 0, .null, .int 0])), (q1, .inl (cs 0, 6, .inl (fun _ => 0))), (q2, .inl (cs 0, 6, .inl (fun _ => 0)))] _ _ := w
  refine W.widen (k := 2) (n := 12) (Nat.le_of_ble_eq_true rfl) (Nat.le_of_ble_eq_true rfl) ?_
  refine z_putF (C := RX5) (T := TX5) (N := 6) (ci := 5) (ty := (.array .int)) (v := .ref q2) (ws' := [(a, .inr (5, [.ref q1, .ref q2, .null, .int 0, .null, .int 0])), (q1, .inl (cs 0, 6, .inl (fun _ => 0))), (q2, .inl (cs 0, 6, .inl (fun _ => 0)))]) S K w inZ5 tyX5 tyX5_ok nmX5 0 rfl rfl 1 (by decide) w125 rfl rfl hnm rfl rfl rfl rfl (Nat.le_of_ble_eq_true rfl) rfl dX5_init_17 (fun H locs w => ?_)
  refine lv_aload_n S.1 S.2.1 dX5_init_20 rfl (lv_at hl 0 rfl) ?_
  refine lv_bipush (v := 6) S.1 S.2.1 dX5_init_21 (by decide) ?_
  refine z_newa (atype := .int) (ty := .int) (a0 := (6, .inl (fun _ => 0))) (N' := 6) S K w hA 0 rfl rfl (fun _ _ h => h) w115 (fun _ => rfl) (by decide) (by decide) (by decide) (Nat.le_of_ble_eq_true rfl) (Nat.le_of_ble_eq_true rfl) dX5_init_23 (fun q3 H w => ?_)
  have w : ZW D A0 s.heap [(a, .inr (5, [.ref q1, .ref q2, .null, .int 0, .null, .int 0])), (q1, .inl (cs 0, 6, .inl (fun _ => 0))), (q2, .inl (cs 0, 6, .inl (fun _ => 0))), (q3, .inl (cs 0, 6, .inl (fun _ => 0)))] _ _ := w
  refine W.widen (k := 3) (n := 18) (Nat.le_of_ble_eq_true rfl) (Nat.le_of_ble_eq_true rfl) ?_
  refine z_putF (C := RX5) (T := TX5) (N := 6) (ci := 5) (ty := (.array .int)) (v := .ref q3) (ws' := [(a, .inr (5, [.ref q1, .ref q2, .ref q3, .int 0, .null, .int 0])), (q1, .inl (cs 0, 6, .inl (fun _ => 0))), (q2, .inl (cs 0, 6, .inl (fun _ => 0))), (q3, .inl (cs 0, 6, .inl (fun _ => 0)))]) S K w inZ5 tyX5 tyX5_ok nmX5 0 rfl rfl 2 (by decide) w127 rfl rfl hnm rfl rfl rfl rfl (Nat.le_of_ble_eq_true rfl) rfl dX5_init_25 (fun H locs w => ?_)
  refine lv_aload_n S.1 S.2.1 dX5_init_28 rfl (lv_at hl 0 rfl) ?_
  refine lv_bipush (v := 6) S.1 S.2.1 dX5_init_29 (by decide) ?_
  refine z_newa (atype := .int) (ty := .int) (a0 := (6, .inl (fun _ => 0))) (N' := 6) S K w hA 0 rfl rfl (fun _ _ h => h) w115 (fun _ => rfl) (by decide) (by decide) (by decide) (Nat.le_of_ble_eq_true rfl) (Nat.le_of_ble_eq_true rfl) dX5_init_31 (fun q4 H w => ?_)
  have w : ZW D A0 s.heap [(a, .inr (5, [.ref q1, .ref q2, .ref q3, .int 0, .null, .int 0])), (q1, .inl (cs 0, 6, .inl (fun _ => 0))), (q2, .inl (cs 0, 6, .inl (fun _ => 0))), (q3, .inl (cs 0, 6, .inl (fun _ => 0))), (q4, .inl (cs 0, 6, .inl (fun _ => 0)))] _ _ := w
  refine W.widen (k := 4) (n := 24) (Nat.le_of_ble_eq_true rfl) (Nat.le_of_ble_eq_true rfl) ?_
  refine z_putF (C := RX5) (T := TX5) (N := 6) (ci := 5) (ty := (.array .int)) (v := .ref q4) (ws' := [(a, .inr (5, [.ref q1, .ref q2, .ref q3, .int 0, .ref q4, .int 0])), (q1, .inl (cs 0, 6, .inl (fun _ => 0))), (q2, .inl (cs 0, 6, .inl (fun _ => 0))), (q3, .inl (cs 0, 6, .inl (fun _ => 0))), (q4, .inl (cs 0, 6, .inl (fun _ => 0)))]) S K w inZ5 tyX5 tyX5_ok nmX5 0 rfl rfl 4 (by decide) w131 rfl rfl hnm rfl rfl rfl rfl (Nat.le_of_ble_eq_true rfl) rfl dX5_init_33 (fun H locs w => ?_)
  exact z_retn S (fun k => if k = 0 then q1 else if k = 1 then q2 else if k = 2 then q3 else q4) w trivial hr hlk dX5_init_36
set_option maxHeartbeats 4000000 in
set_option maxRecDepth 100000 in
theorem c_X6_init (l : Launch) (D : va_G) (cs : Nat → ClassId) (a : Nat) : zMn l D cs yX6_init cX6_init 1 rm_X6_init a [(a, .inr (6, [.int 0, .int 0, .int 0, .int 0, .null]))] (fun u => [(a, .inr (6, [.int 0, .int 0, .int 0, .int 0, .ref (u 0)])), ((u 0), .inl (cs 0, 10, .inl (fun _ => 0)))]) (fun _ => True) 1 10 := by
  refine z_entern (by decide) (Nat.le_refl 1) ?_
  intro p e s m below meth c A0 ls S K w hA hr hlk hnm hl
  have S : CallFix p m c cX6_init 1 s ([.ref a] : List Value).toArray zWs RX6 := S
  have hnm : meth.name = "<init>" := hnm
  refine lv_aload_n S.1 S.2.1 dX6_init_0 rfl (lv_at hl 0 rfl) ?_
  refine z_objInit S hl.1 w151 w77 w78 (Nat.le_of_ble_eq_true rfl) (Nat.le_of_ble_eq_true rfl) dX6_init_1 ?_
  refine lv_aload_n S.1 S.2.1 dX6_init_4 rfl (lv_at hl 0 rfl) ?_
  refine lv_bipush (v := 10) S.1 S.2.1 dX6_init_5 (by decide) ?_
  refine z_newa (atype := .int) (ty := .int) (a0 := (10, .inl (fun _ => 0))) (N' := 10) S K w hA 0 rfl rfl (fun _ _ h => h) w115 (fun _ => rfl) (by decide) (by decide) (by decide) (Nat.le_of_ble_eq_true rfl) (Nat.le_of_ble_eq_true rfl) dX6_init_7 (fun q1 H w => ?_)
  have w : ZW D A0 s.heap [(a, .inr (6, [.int 0, .int 0, .int 0, .int 0, .null])), (q1, .inl (cs 0, 10, .inl (fun _ => 0)))] _ _ := w
  refine W.widen (k := 1) (n := 10) (Nat.le_of_ble_eq_true rfl) (Nat.le_of_ble_eq_true rfl) ?_
  refine z_putF (C := RX6) (T := TX6) (N := 5) (ci := 6) (ty := (.array .int)) (v := .ref q1) (ws' := [(a, .inr (6, [.int 0, .int 0, .int 0, .int 0, .ref q1])), (q1, .inl (cs 0, 10, .inl (fun _ => 0)))]) S K w inZ6 tyX6 tyX6_ok nmX6 0 rfl rfl 4 (by decide) w161 rfl rfl hnm rfl rfl rfl rfl (Nat.le_of_ble_eq_true rfl) rfl dX6_init_9 (fun H locs w => ?_)
  exact z_retn S (fun k => q1) w trivial hr hlk dX6_init_12
set_option maxHeartbeats 4000000 in
set_option maxRecDepth 100000 in
theorem c_X1_init (l : Launch) (D : va_G) (cs : Nat → ClassId) (a : Nat) : zMn l D cs yX1_init cX1_init 1 rm_X1_init a [(a, .inr (1, [.int 0, .int 0, .int 0, .int 0, .int 0, .int 0, .null, .null, .null, .null, .null, .null, .null, .null, .null]))] (fun u => [(a, .inr (1, [.int 0, .int 0, .int 0, .int 0, .int 0, .int 0, .ref (u 0), .ref (u 1), .ref (u 2), .ref (u 3), .ref (u 4), .ref (u 5), .ref (u 6), .ref (u 7), .ref (u 8)])), ((u 0), .inl (cs 0, 6, .inl (fun _ => 0))), ((u 1), .inl (cs 0, 8, .inl (fun _ => 0))), ((u 2), .inl (cs 0, 8, .inl (fun _ => 0))), ((u 3), .inl (cs 0, 48, .inl (fun _ => 0))), ((u 4), .inl (cs 0, 48, .inl (fun _ => 0))), ((u 5), .inl (cs 0, 8, .inl (fun _ => 0))), ((u 6), .inl (cs 0, 8, .inl (fun _ => 0))), ((u 7), .inl (cs 0, 8, .inl (fun _ => 0))), ((u 8), .inl (cs 0, 8, .inl (fun _ => 0)))]) (fun _ => True) 9 150 := by
  refine z_entern (by decide) (Nat.le_refl 1) ?_
  intro p e s m below meth c A0 ls S K w hA hr hlk hnm hl
  have S : CallFix p m c cX1_init 1 s ([.ref a] : List Value).toArray zWs RX1 := S
  have hnm : meth.name = "<init>" := hnm
  refine lv_aload_n S.1 S.2.1 dX1_init_0 rfl (lv_at hl 0 rfl) ?_
  refine z_objInit S hl.1 w223 w77 w78 (Nat.le_of_ble_eq_true rfl) (Nat.le_of_ble_eq_true rfl) dX1_init_1 ?_
  refine lv_aload_n S.1 S.2.1 dX1_init_4 rfl (lv_at hl 0 rfl) ?_
  refine lv_bipush (v := 6) S.1 S.2.1 dX1_init_5 (by decide) ?_
  refine z_newa (atype := .int) (ty := .int) (a0 := (6, .inl (fun _ => 0))) (N' := 6) S K w hA 0 rfl rfl (fun _ _ h => h) w115 (fun _ => rfl) (by decide) (by decide) (by decide) (Nat.le_of_ble_eq_true rfl) (Nat.le_of_ble_eq_true rfl) dX1_init_7 (fun q1 H w => ?_)
  have w : ZW D A0 s.heap [(a, .inr (1, [.int 0, .int 0, .int 0, .int 0, .int 0, .int 0, .null, .null, .null, .null, .null, .null, .null, .null, .null])), (q1, .inl (cs 0, 6, .inl (fun _ => 0)))] _ _ := w
  refine W.widen (k := 1) (n := 6) (Nat.le_of_ble_eq_true rfl) (Nat.le_of_ble_eq_true rfl) ?_
  refine z_putF (C := RX1) (T := TX1) (N := 15) (ci := 1) (ty := (.array .int)) (v := .ref q1) (ws' := [(a, .inr (1, [.int 0, .int 0, .int 0, .int 0, .int 0, .int 0, .ref q1, .null, .null, .null, .null, .null, .null, .null, .null])), (q1, .inl (cs 0, 6, .inl (fun _ => 0)))]) S K w inZ1 tyX1 tyX1_ok nmX1 0 rfl rfl 6 (by decide) w248 rfl rfl hnm rfl rfl rfl rfl (Nat.le_of_ble_eq_true rfl) rfl dX1_init_9 (fun H locs w => ?_)
  refine lv_aload_n S.1 S.2.1 dX1_init_12 rfl (lv_at hl 0 rfl) ?_
  refine lv_bipush (v := 8) S.1 S.2.1 dX1_init_13 (by decide) ?_
  refine z_newa (atype := .int) (ty := .int) (a0 := (8, .inl (fun _ => 0))) (N' := 8) S K w hA 0 rfl rfl (fun _ _ h => h) w115 (fun _ => rfl) (by decide) (by decide) (by decide) (Nat.le_of_ble_eq_true rfl) (Nat.le_of_ble_eq_true rfl) dX1_init_15 (fun q2 H w => ?_)
  have w : ZW D A0 s.heap [(a, .inr (1, [.int 0, .int 0, .int 0, .int 0, .int 0, .int 0, .ref q1, .null, .null, .null, .null, .null, .null, .null, .null])), (q1, .inl (cs 0, 6, .inl (fun _ => 0))), (q2, .inl (cs 0, 8, .inl (fun _ => 0)))] _ _ := w
  refine W.widen (k := 2) (n := 14) (Nat.le_of_ble_eq_true rfl) (Nat.le_of_ble_eq_true rfl) ?_
  refine z_putF (C := RX1) (T := TX1) (N := 15) (ci := 1) (ty := (.array .int)) (v := .ref q2) (ws' := [(a, .inr (1, [.int 0, .int 0, .int 0, .int 0, .int 0, .int 0, .ref q1, .ref q2, .null, .null, .null, .null, .null, .null, .null])), (q1, .inl (cs 0, 6, .inl (fun _ => 0))), (q2, .inl (cs 0, 8, .inl (fun _ => 0)))]) S K w inZ1 tyX1 tyX1_ok nmX1 0 rfl rfl 7 (by decide) w252 rfl rfl hnm rfl rfl rfl rfl (Nat.le_of_ble_eq_true rfl) rfl dX1_init_17 (fun H locs w => ?_)
  refine lv_aload_n S.1 S.2.1 dX1_init_20 rfl (lv_at hl 0 rfl) ?_
  refine lv_bipush (v := 8) S.1 S.2.1 dX1_init_21 (by decide) ?_
  refine z_newa (atype := .int) (ty := .int) (a0 := (8, .inl (fun _ => 0))) (N' := 8) S K w hA 0 rfl rfl (fun _ _ h => h) w115 (fun _ => rfl) (by decide) (by decide) (by decide) (Nat.le_of_ble_eq_true rfl) (Nat.le_of_ble_eq_true rfl) dX1_init_23 (fun q3 H w => ?_)
  have w : ZW D A0 s.heap [(a, .inr (1, [.int 0, .int 0, .int 0, .int 0, .int 0, .int 0, .ref q1, .ref q2, .null, .null, .null, .null, .null, .null, .null])), (q1, .inl (cs 0, 6, .inl (fun _ => 0))), (q2, .inl (cs 0, 8, .inl (fun _ => 0))), (q3, .inl (cs 0, 8, .inl (fun _ => 0)))] _ _ := w
  refine W.widen (k := 3) (n := 22) (Nat.le_of_ble_eq_true rfl) (Nat.le_of_ble_eq_true rfl) ?_
  refine z_putF (C := RX1) (T := TX1) (N := 15) (ci := 1) (ty := (.array .int)) (v := .ref q3) (ws' := [(a, .inr (1, [.int 0, .int 0, .int 0, .int 0, .int 0, .int 0, .ref q1, .ref q2, .ref q3, .null, .null, .null, .null, .null, .null])), (q1, .inl (cs 0, 6, .inl (fun _ => 0))), (q2, .inl (cs 0, 8, .inl (fun _ => 0))), (q3, .inl (cs 0, 8, .inl (fun _ => 0)))]) S K w inZ1 tyX1 tyX1_ok nmX1 0 rfl rfl 8 (by decide) w254 rfl rfl hnm rfl rfl rfl rfl (Nat.le_of_ble_eq_true rfl) rfl dX1_init_25 (fun H locs w => ?_)
  refine lv_aload_n S.1 S.2.1 dX1_init_28 rfl (lv_at hl 0 rfl) ?_
  refine lv_bipush (v := 48) S.1 S.2.1 dX1_init_29 (by decide) ?_
  refine z_newa (atype := .int) (ty := .int) (a0 := (48, .inl (fun _ => 0))) (N' := 48) S K w hA 0 rfl rfl (fun _ _ h => h) w115 (fun _ => rfl) (by decide) (by decide) (by decide) (Nat.le_of_ble_eq_true rfl) (Nat.le_of_ble_eq_true rfl) dX1_init_31 (fun q4 H w => ?_)
  have w : ZW D A0 s.heap [(a, .inr (1, [.int 0, .int 0, .int 0, .int 0, .int 0, .int 0, .ref q1, .ref q2, .ref q3, .null, .null, .null, .null, .null, .null])), (q1, .inl (cs 0, 6, .inl (fun _ => 0))), (q2, .inl (cs 0, 8, .inl (fun _ => 0))), (q3, .inl (cs 0, 8, .inl (fun _ => 0))), (q4, .inl (cs 0, 48, .inl (fun _ => 0)))] _ _ := w
  refine W.widen (k := 4) (n := 70) (Nat.le_of_ble_eq_true rfl) (Nat.le_of_ble_eq_true rfl) ?_
  refine z_putF (C := RX1) (T := TX1) (N := 15) (ci := 1) (ty := (.array .int)) (v := .ref q4) (ws' := [(a, .inr (1, [.int 0, .int 0, .int 0, .int 0, .int 0, .int 0, .ref q1, .ref q2, .ref q3, .ref q4, .null, .null, .null, .null, .null])), (q1, .inl (cs 0, 6, .inl (fun _ => 0))), (q2, .inl (cs 0, 8, .inl (fun _ => 0))), (q3, .inl (cs 0, 8, .inl (fun _ => 0))), (q4, .inl (cs 0, 48, .inl (fun _ => 0)))]) S K w inZ1 tyX1 tyX1_ok nmX1 0 rfl rfl 9 (by decide) w256 rfl rfl hnm rfl rfl rfl rfl (Nat.le_of_ble_eq_true rfl) rfl dX1_init_33 (fun H locs w => ?_)
  refine lv_aload_n S.1 S.2.1 dX1_init_36 rfl (lv_at hl 0 rfl) ?_
  refine lv_bipush (v := 48) S.1 S.2.1 dX1_init_37 (by decide) ?_
  refine z_newa (atype := .int) (ty := .int) (a0 := (48, .inl (fun _ => 0))) (N' := 48) S K w hA 0 rfl rfl (fun _ _ h => h) w115 (fun _ => rfl) (by decide) (by decide) (by decide) (Nat.le_of_ble_eq_true rfl) (Nat.le_of_ble_eq_true rfl) dX1_init_39 (fun q5 H w => ?_)
  have w : ZW D A0 s.heap [(a, .inr (1, [.int 0, .int 0, .int 0, .int 0, .int 0, .int 0, .ref q1, .ref q2, .ref q3, .ref q4, .null, .null, .null, .null, .null])), (q1, .inl (cs 0, 6, .inl (fun _ => 0))), (q2, .inl (cs 0, 8, .inl (fun _ => 0))), (q3, .inl (cs 0, 8, .inl (fun _ => 0))), (q4, .inl (cs 0, 48, .inl (fun _ => 0))), (q5, .inl (cs 0, 48, .inl (fun _ => 0)))] _ _ := w
  refine W.widen (k := 5) (n := 118) (Nat.le_of_ble_eq_true rfl) (Nat.le_of_ble_eq_true rfl) ?_
  refine z_putF (C := RX1) (T := TX1) (N := 15) (ci := 1) (ty := (.array .int)) (v := .ref q5) (ws' := [(a, .inr (1, [.int 0, .int 0, .int 0, .int 0, .int 0, .int 0, .ref q1, .ref q2, .ref q3, .ref q4, .ref q5, .null, .null, .null, .null])), (q1, .inl (cs 0, 6, .inl (fun _ => 0))), (q2, .inl (cs 0, 8, .inl (fun _ => 0))), (q3, .inl (cs 0, 8, .inl (fun _ => 0))), (q4, .inl (cs 0, 48, .inl (fun _ => 0))), (q5, .inl (cs 0, 48, .inl (fun _ => 0)))]) S K w inZ1 tyX1 tyX1_ok nmX1 0 rfl rfl 10 (by decide) w258 rfl rfl hnm rfl rfl rfl rfl (Nat.le_of_ble_eq_true rfl) rfl dX1_init_41 (fun H locs w => ?_)
  refine lv_aload_n S.1 S.2.1 dX1_init_44 rfl (lv_at hl 0 rfl) ?_
  refine lv_bipush (v := 8) S.1 S.2.1 dX1_init_45 (by decide) ?_
  refine z_newa (atype := .int) (ty := .int) (a0 := (8, .inl (fun _ => 0))) (N' := 8) S K w hA 0 rfl rfl (fun _ _ h => h) w115 (fun _ => rfl) (by decide) (by decide) (by decide) (Nat.le_of_ble_eq_true rfl) (Nat.le_of_ble_eq_true rfl) dX1_init_47 (fun q6 H w => ?_)
  have w : ZW D A0 s.heap [(a, .inr (1, [.int 0, .int 0, .int 0, .int 0, .int 0, .int 0, .ref q1, .ref q2, .ref q3, .ref q4, .ref q5, .null, .null, .null, .null])), (q1, .inl (cs 0, 6, .inl (fun _ => 0))), (q2, .inl (cs 0, 8, .inl (fun _ => 0))), (q3, .inl (cs 0, 8, .inl (fun _ => 0))), (q4, .inl (cs 0, 48, .inl (fun _ => 0))), (q5, .inl (cs 0, 48, .inl (fun _ => 0))), (q6, .inl (cs 0, 8, .inl (fun _ => 0)))] _ _ := w
  refine W.widen (k := 6) (n := 126) (Nat.le_of_ble_eq_true rfl) (Nat.le_of_ble_eq_true rfl) ?_
  refine z_putF (C := RX1) (T := TX1) (N := 15) (ci := 1) (ty := (.array .int)) (v := .ref q6) (ws' := [(a, .inr (1, [.int 0, .int 0, .int 0, .int 0, .int 0, .int 0, .ref q1, .ref q2, .ref q3, .ref q4, .ref q5, .ref q6, .null, .null, .null])), (q1, .inl (cs 0, 6, .inl (fun _ => 0))), (q2, .inl (cs 0, 8, .inl (fun _ => 0))), (q3, .inl (cs 0, 8, .inl (fun _ => 0))), (q4, .inl (cs 0, 48, .inl (fun _ => 0))), (q5, .inl (cs 0, 48, .inl (fun _ => 0))), (q6, .inl (cs 0, 8, .inl (fun _ => 0)))]) S K w inZ1 tyX1 tyX1_ok nmX1 0 rfl rfl 11 (by decide) w260 rfl rfl hnm rfl rfl rfl rfl (Nat.le_of_ble_eq_true rfl) rfl dX1_init_49 (fun H locs w => ?_)
  refine lv_aload_n S.1 S.2.1 dX1_init_52 rfl (lv_at hl 0 rfl) ?_
  refine lv_bipush (v := 8) S.1 S.2.1 dX1_init_53 (by decide) ?_
  refine z_newa (atype := .int) (ty := .int) (a0 := (8, .inl (fun _ => 0))) (N' := 8) S K w hA 0 rfl rfl (fun _ _ h => h) w115 (fun _ => rfl) (by decide) (by decide) (by decide) (Nat.le_of_ble_eq_true rfl) (Nat.le_of_ble_eq_true rfl) dX1_init_55 (fun q7 H w => ?_)
  have w : ZW D A0 s.heap [(a, .inr (1, [.int 0, .int 0, .int 0, .int 0, .int 0, .int 0, .ref q1, .ref q2, .ref q3, .ref q4, .ref q5, .ref q6, .null, .null, .null])), (q1, .inl (cs 0, 6, .inl (fun _ => 0))), (q2, .inl (cs 0, 8, .inl (fun _ => 0))), (q3, .inl (cs 0, 8, .inl (fun _ => 0))), (q4, .inl (cs 0, 48, .inl (fun _ => 0))), (q5, .inl (cs 0, 48, .inl (fun _ => 0))), (q6, .inl (cs 0, 8, .inl (fun _ => 0))), (q7, .inl (cs 0, 8, .inl (fun _ => 0)))] _ _ := w
  refine W.widen (k := 7) (n := 134) (Nat.le_of_ble_eq_true rfl) (Nat.le_of_ble_eq_true rfl) ?_
  refine z_putF (C := RX1) (T := TX1) (N := 15) (ci := 1) (ty := (.array .int)) (v := .ref q7) (ws' := [(a, .inr (1, [.int 0, .int 0, .int 0, .int 0, .int 0, .int 0, .ref q1, .ref q2, .ref q3, .ref q4, .ref q5, .ref q6, .ref q7, .null, .null])), (q1, .inl (cs 0, 6, .inl (fun _ => 0))), (q2, .inl (cs 0, 8, .inl (fun _ => 0))), (q3, .inl (cs 0, 8, .inl (fun _ => 0))), (q4, .inl (cs 0, 48, .inl (fun _ => 0))), (q5, .inl (cs 0, 48, .inl (fun _ => 0))), (q6, .inl (cs 0, 8, .inl (fun _ => 0))), (q7, .inl (cs 0, 8, .inl (fun _ => 0)))]) S K w inZ1 tyX1 tyX1_ok nmX1 0 rfl rfl 12 (by decide) w264 rfl rfl hnm rfl rfl rfl rfl (Nat.le_of_ble_eq_true rfl) rfl dX1_init_57 (fun H locs w => ?_)
  refine lv_aload_n S.1 S.2.1 dX1_init_60 rfl (lv_at hl 0 rfl) ?_
  refine lv_bipush (v := 8) S.1 S.2.1 dX1_init_61 (by decide) ?_
  refine z_newa (atype := .int) (ty := .int) (a0 := (8, .inl (fun _ => 0))) (N' := 8) S K w hA 0 rfl rfl (fun _ _ h => h) w115 (fun _ => rfl) (by decide) (by decide) (by decide) (Nat.le_of_ble_eq_true rfl) (Nat.le_of_ble_eq_true rfl) dX1_init_63 (fun q8 H w => ?_)
  have w : ZW D A0 s.heap [(a, .inr (1, [.int 0, .int 0, .int 0, .int 0, .int 0, .int 0, .ref q1, .ref q2, .ref q3, .ref q4, .ref q5, .ref q6, .ref q7, .null, .null])), (q1, .inl (cs 0, 6, .inl (fun _ => 0))), (q2, .inl (cs 0, 8, .inl (fun _ => 0))), (q3, .inl (cs 0, 8, .inl (fun _ => 0))), (q4, .inl (cs 0, 48, .inl (fun _ => 0))), (q5, .inl (cs 0, 48, .inl (fun _ => 0))), (q6, .inl (cs 0, 8, .inl (fun _ => 0))), (q7, .inl (cs 0, 8, .inl (fun _ => 0))), (q8, .inl (cs 0, 8, .inl (fun _ => 0)))] _ _ := w
  refine W.widen (k := 8) (n := 142) (Nat.le_of_ble_eq_true rfl) (Nat.le_of_ble_eq_true rfl) ?_
  refine z_putF (C := RX1) (T := TX1) (N := 15) (ci := 1) (ty := (.array .int)) (v := .ref q8) (ws' := [(a, .inr (1, [.int 0, .int 0, .int 0, .int 0, .int 0, .int 0, .ref q1, .ref q2, .ref q3, .ref q4, .ref q5, .ref q6, .ref q7, .ref q8, .null])), (q1, .inl (cs 0, 6, .inl (fun _ => 0))), (q2, .inl (cs 0, 8, .inl (fun _ => 0))), (q3, .inl (cs 0, 8, .inl (fun _ => 0))), (q4, .inl (cs 0, 48, .inl (fun _ => 0))), (q5, .inl (cs 0, 48, .inl (fun _ => 0))), (q6, .inl (cs 0, 8, .inl (fun _ => 0))), (q7, .inl (cs 0, 8, .inl (fun _ => 0))), (q8, .inl (cs 0, 8, .inl (fun _ => 0)))]) S K w inZ1 tyX1 tyX1_ok nmX1 0 rfl rfl 13 (by decide) w266 rfl rfl hnm rfl rfl rfl rfl (Nat.le_of_ble_eq_true rfl) rfl dX1_init_65 (fun H locs w => ?_)
  refine lv_aload_n S.1 S.2.1 dX1_init_68 rfl (lv_at hl 0 rfl) ?_
  refine lv_bipush (v := 8) S.1 S.2.1 dX1_init_69 (by decide) ?_
  refine z_newa (atype := .int) (ty := .int) (a0 := (8, .inl (fun _ => 0))) (N' := 8) S K w hA 0 rfl rfl (fun _ _ h => h) w115 (fun _ => rfl) (by decide) (by decide) (by decide) (Nat.le_of_ble_eq_true rfl) (Nat.le_of_ble_eq_true rfl) dX1_init_71 (fun q9 H w => ?_)
  have w : ZW D A0 s.heap [(a, .inr (1, [.int 0, .int 0, .int 0, .int 0, .int 0, .int 0, .ref q1, .ref q2, .ref q3, .ref q4, .ref q5, .ref q6, .ref q7, .ref q8, .null])), (q1, .inl (cs 0, 6, .inl (fun _ => 0))), (q2, .inl (cs 0, 8, .inl (fun _ => 0))), (q3, .inl (cs 0, 8, .inl (fun _ => 0))), (q4, .inl (cs 0, 48, .inl (fun _ => 0))), (q5, .inl (cs 0, 48, .inl (fun _ => 0))), (q6, .inl (cs 0, 8, .inl (fun _ => 0))), (q7, .inl (cs 0, 8, .inl (fun _ => 0))), (q8, .inl (cs 0, 8, .inl (fun _ => 0))), (q9, .inl (cs 0, 8, .inl (fun _ => 0)))] _ _ := w
  refine W.widen (k := 9) (n := 150) (Nat.le_of_ble_eq_true rfl) (Nat.le_of_ble_eq_true rfl) ?_
  refine z_putF (C := RX1) (T := TX1) (N := 15) (ci := 1) (ty := (.array .int)) (v := .ref q9) (ws' := [(a, .inr (1, [.int 0, .int 0, .int 0, .int 0, .int 0, .int 0, .ref q1, .ref q2, .ref q3, .ref q4, .ref q5, .ref q6, .ref q7, .ref q8, .ref q9])), (q1, .inl (cs 0, 6, .inl (fun _ => 0))), (q2, .inl (cs 0, 8, .inl (fun _ => 0))), (q3, .inl (cs 0, 8, .inl (fun _ => 0))), (q4, .inl (cs 0, 48, .inl (fun _ => 0))), (q5, .inl (cs 0, 48, .inl (fun _ => 0))), (q6, .inl (cs 0, 8, .inl (fun _ => 0))), (q7, .inl (cs 0, 8, .inl (fun _ => 0))), (q8, .inl (cs 0, 8, .inl (fun _ => 0))), (q9, .inl (cs 0, 8, .inl (fun _ => 0)))]) S K w inZ1 tyX1 tyX1_ok nmX1 0 rfl rfl 14 (by decide) w269 rfl rfl hnm rfl rfl rfl rfl (Nat.le_of_ble_eq_true rfl) rfl dX1_init_73 (fun H locs w => ?_)
  exact z_retn S (fun k => if k = 0 then q1 else if k = 1 then q2 else if k = 2 then q3 else if k = 3 then q4 else if k = 4 then q5 else if k = 5 then q6 else if k = 6 then q7 else if k = 7 then q8 else q9) w trivial hr hlk dX1_init_76
