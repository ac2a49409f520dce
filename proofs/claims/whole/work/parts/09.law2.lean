set_option maxRecDepth 20000 in
theorem zNs_in : ∀ w ∈ zNs, w ∈ lw_tbl := by
  have e : zNs = [81, 118, 148, 173, 175, 177, 185, 188, 192, 195, 199, 202, 206, 209, 213, 216, 220, 313, 315, 323, 324, 325, 326, 327, 328, 331, 332, 385, 450, 562, 1088, 1089, 1090, 1091, 1092].filterMap (fun i => lw_tbl[i]?) := by decide +kernel
  intro w hw
  rw [e] at hw
  obtain ⟨i, -, hi⟩ := List.mem_filterMap.mp hw
  exact List.mem_of_getElem? hi

theorem z_known {s : State} {args : Array Value} (hts : ∀ w ∈ lw_tbl, w.before args s = true) : ∃ (D : va_G) (cs : Nat → ClassId), ZK D cs s := by
  have hz : ∀ w ∈ zWs, w.before args s = true := fun w hw => hts w (List.mem_filter.mp hw).1
  obtain ⟨c0, i0, k0⟩ := u_known (C := RX0) (T := TX0) (N := 0) (n := 0) hz (fun w h => by simp [u_ws] at h) (hz _ w176)
  obtain ⟨c1, i1, k1⟩ := u_known (C := RX1) (T := TX1) (N := 15) (n := 15) hz inZ1 (hz _ w219)
  obtain ⟨c2, i2, k2⟩ := u_known (C := RX2) (T := TX2) (N := 0) (n := 0) hz (fun w h => by simp [u_ws] at h) (hz _ w198)
  obtain ⟨c3, i3, k3⟩ := u_known (C := RX3) (T := TX3) (N := 0) (n := 0) hz (fun w h => by simp [u_ws] at h) (hz _ w205)
  obtain ⟨c4, i4, k4⟩ := u_known (C := RX4) (T := TX4) (N := 0) (n := 0) hz (fun w h => by simp [u_ws] at h) (hz _ w212)
  obtain ⟨c5, i5, k5⟩ := u_known (C := RX5) (T := TX5) (N := 6) (n := 6) hz inZ5 (hz _ w117)
  obtain ⟨c6, i6, k6⟩ := u_known (C := RX6) (T := TX6) (N := 5) (n := 5) hz inZ6 (hz _ w147)
  obtain ⟨c7, i7, k7⟩ := u_known (C := RX7) (T := TX7) (N := 9) (n := 9) hz inZ7 (hz _ w80)
  obtain ⟨c8, i8, k8⟩ := u_known (C := RX8) (T := TX8) (N := 0) (n := 0) hz (fun w h => by simp [u_ws] at h) (hz _ w184)
  obtain ⟨c9, i9, k9⟩ := u_known (C := RX9) (T := TX9) (N := 0) (n := 0) hz (fun w h => by simp [u_ws] at h) (hz _ w191)
  obtain ⟨c10, i10, k10⟩ := u_known (C := RX10) (T := TX10) (N := 13) (n := 13) hz inZ10 (hz _ w72)
  obtain ⟨c11, i11, k11⟩ := u_known (C := RX11) (T := TX11) (N := 32) (n := 32) hz inZ11 (hz _ w723)
  obtain ⟨a0, a0k, a0c, a01, a02, a03⟩ := Cond.arrayClass_spec (hz _ w115)
  obtain ⟨a1, a1k, a1c, a11, a12, a13⟩ := Cond.arrayClass_spec (hz _ w825)
  obtain ⟨a2, a2k, a2c, a21, a22, a23⟩ := Cond.arrayClass_spec (hz _ w182)
  obtain ⟨a3c, a3, a3k, a31, a30, a32, a33, a34⟩ := Cond.arrayOver_spec (hts (.arrayOver (.object "FifthsOfGuilt$AnySuspect")) (List.mem_of_getElem? (i := 175) (by decide +kernel)))
  obtain ⟨a4c, a4, a4k, a41, a40, a42, a43, a44⟩ := Cond.arrayOver_spec (hts (.arrayOver (.object "FifthsOfGuilt$Standing")) (List.mem_of_getElem? (i := 173) (by decide +kernel)))
  refine ⟨(fun k => if k = 0 then c0 else if k = 1 then c1 else if k = 2 then c2 else if k = 3 then c3 else if k = 4 then c4 else if k = 5 then c5 else if k = 6 then c6 else if k = 7 then c7 else if k = 8 then c8 else if k = 9 then c9 else if k = 10 then c10 else c11, fun k => if k = 0 then i0 else if k = 1 then i1 else if k = 2 then i2 else if k = 3 then i3 else if k = 4 then i4 else if k = 5 then i5 else if k = 6 then i6 else if k = 7 then i7 else if k = 8 then i8 else if k = 9 then i9 else if k = 10 then i10 else i11), fun k => if k = 0 then a0 else if k = 1 then a1 else if k = 2 then a2 else if k = 3 then a3 else a4, ⟨?_, ?_⟩, ?_⟩
  · intro k q hq
    match k, hq with
    | 0, hq => cases hq; exact k0
    | 1, hq => cases hq; exact k1
    | 2, hq => cases hq; exact k2
    | 3, hq => cases hq; exact k3
    | 4, hq => cases hq; exact k4
    | 5, hq => cases hq; exact k5
    | 6, hq => cases hq; exact k6
    | 7, hq => cases hq; exact k7
    | 8, hq => cases hq; exact k8
    | 9, hq => cases hq; exact k9
    | 10, hq => cases hq; exact k10
    | 11, hq => cases hq; exact k11
    | k + 12, hq => simp [vwCl] at hq
  · intro k q hq
    match k, hq with
    | 0, hq => cases hq; exact ⟨fun n z => ⟨fun k h => (by cases h), a0k, a02, a0c, a03⟩, a01⟩
    | 1, hq => cases hq; exact ⟨fun n z => ⟨fun k h => (by cases h), a1k, a12, a1c, a13⟩, a11⟩
    | 2, hq => cases hq; exact ⟨fun n z => ⟨fun k h => (by cases h), a2k, a22, a2c, a23⟩, a21⟩
    | 3, hq => cases hq; exact ⟨fun n z => ⟨fun k h => (by cases h), a3k, a32, a3c, a33⟩, a3k, a3c, a32, a33, a31, a34⟩
    | 4, hq => cases hq; exact ⟨fun n z => ⟨fun k h => (by cases h), a4k, a42, a4c, a43⟩, a4k, a4c, a42, a43, a41, a44⟩
    | k + 5, hq => simp [tyL] at hq
  · intro w hw
    have h1 := hts w (zNs_in w hw)
    simp only [zNs, List.mem_cons, List.not_mem_nil, or_false] at hw
    rcases hw with rfl | rfl | rfl | rfl | rfl | rfl | rfl | rfl | rfl | rfl | rfl | rfl | rfl | rfl | rfl | rfl | rfl | rfl | rfl | rfl | rfl | rfl | rfl | rfl | rfl | rfl | rfl | rfl | rfl | rfl | rfl | rfl | rfl | rfl | rfl
    · exact va_Nw.of rfl h1
    · exact va_Nw.of rfl h1
    · exact va_Nw.of rfl h1
    · exact va_AO.of h1
    · exact va_AO.of h1
    · exact va_Nw.of rfl h1
    · exact va_Nw.of rfl h1
    · exact va_Nw.of rfl h1
    · exact va_Nw.of rfl h1
    · exact va_Nw.of rfl h1
    · exact va_Nw.of rfl h1
    · exact va_Nw.of rfl h1
    · exact va_Nw.of rfl h1
    · exact va_Nw.of rfl h1
    · exact va_Nw.of rfl h1
    · exact va_Nw.of rfl h1
    · exact va_Nw.of rfl h1
    · exact va_Nw.of rfl h1
    · exact va_Nw.of rfl h1
    · exact va_Nw.of rfl h1
    · exact va_Nw.of rfl h1
    · exact va_Nw.of rfl h1
    · exact va_Nw.of rfl h1
    · exact va_Nw.of rfl h1
    · exact va_Nw.of rfl h1
    · exact va_Nw.of rfl h1
    · exact va_Nw.of rfl h1
    · exact va_Nw.of rfl h1
    · exact va_Nw.of rfl h1
    · exact va_Nw.of rfl h1
    · exact va_Nw.of rfl h1
    · exact va_Nw.of rfl h1
    · exact va_Nw.of rfl h1
    · exact va_Nw.of rfl h1
    · exact va_Nw.of rfl h1
set_option maxHeartbeats 4000000 in
set_option maxRecDepth 100000 in
theorem z_start (Rel : ZS → ZS → Prop) (h_type : st_type Rel) (h_clear : st_clear Rel) (h_court : st_court Rel) (h_suspect : st_suspect Rel) (h_fact : st_fact Rel) (h_moves : st_moves Rel) (h_alibi : st_alibi Rel) (h_find : st_find Rel) (h_hear : st_hear Rel) (h_days : st_days Rel) (h_undo : st_undo Rel) (h_share : st_share Rel) (h_now : st_now Rel) (h_proof : st_proof Rel) (h_cleared : st_cleared Rel) (h_forged : st_forged Rel) (h_clash : st_clash Rel) (h_rests : st_rests Rel) (h_gains : st_gains Rel) (h_cellsFor : st_cellsFor Rel) (h_sits : st_sits Rel) (h_wronged : st_wronged Rel) (h_book : st_book Rel) (h_burn : st_burn Rel) (h_books : st_books Rel) (h_innocent : st_innocent Rel) (h_mark : st_mark Rel) (h_keep : st_keep Rel) (h_back : st_back Rel) (h_count : st_count Rel) (h_trace : st_trace Rel) (h0 : Rel (xF0, (fun _ _ => 0), 0) ((fun _ => 0), mA0, 0)) {p : Program} {e : Env} {s : State} {m : MethodId} {below : List Frame} {meth : Method} {c : Code} (l : Launch) {b L : Nat} {xs : Nat → Int32} (hL : L ≤ 320) (C0 : lw_At p s m meth c b L xs) : W p l e room_1 s m #[Value.ref b] below meth c s.heap [] 0 0 (lw_Z below #[Value.ref b] s) (entryFrame m ([Value.ref b] : List Value).toArray 4) := by
  obtain ⟨hx, hb, hr, hml, hown, hts, hX, hbl, hlk, hgv⟩ := id C0
  have hA : ∀ q : Nat, s.heap.size ≤ q → (fun q : Nat => s.heap.size ≤ q) q := fun _ h => h
  have S : CallFix p m c cL_law 4 s #[Value.ref b] zWs RL := ⟨hx, hb, hml, hown, fun w hw => hts w (List.mem_filter.mp hw).1⟩
  obtain ⟨D, cs, K⟩ := z_known hts
  have hl := lv_entry ([.ref b]) (n := 4) (Nat.le_of_ble_eq_true rfl)
  rw [lg_entry_eq]
  generalize (lg_sl ([.ref b]) ++ List.replicate (4 - (lg_sl ([.ref b])).length) Slot.unset).toArray = ls at hl ⊢
  have hl : lv_has ls 4 [(0, .ref b)] := hl
  have w : ZW D (fun q : Nat => s.heap.size ≤ q) s.heap [] s.heap [] := ⟨fun k q h => by simp at h, ⟨fun i j p q h => by simp at h, fun k q h => by simp at h⟩, va_S.rf⟩
  refine z_new (C := RX10) (T := TX10) (N := 13) (ci := 10) (fs := [.null, .null, .null, .null, .null, .null, .null, .null, .null, .int 0, .long 0, .null, .null]) S K w hA inZ10 tyX10 tyX10_ok w71 w72 w56 rfl (fun j hj => by rcases (show j = 0 ∨ j = 1 ∨ j = 2 ∨ j = 3 ∨ j = 4 ∨ j = 5 ∨ j = 6 ∨ j = 7 ∨ j = 8 ∨ j = 9 ∨ j = 10 ∨ j = 11 ∨ j = 12 by omega) with rfl | rfl | rfl | rfl | rfl | rfl | rfl | rfl | rfl | rfl | rfl | rfl | rfl <;> rfl) (Nat.le_of_ble_eq_true rfl) (Nat.le_of_ble_eq_true rfl) dL_law_0 (fun q0 H w => ?_)
  have w : ZW D (fun q : Nat => s.heap.size ≤ q) s.heap [(q0, .inr (10, [.null, .null, .null, .null, .null, .null, .null, .null, .null, .int 0, .long 0, .null, .null]))] _ _ := w
  refine W.widen (k := 1) (n := 13) (Nat.le_of_ble_eq_true rfl) (Nat.le_of_ble_eq_true rfl) ?_
  refine lv_dup S.1 S.2.1 dL_law_3 rfl ?_
  refine z_callIo (wr := []) S K w hA [0] [] rfl rfl (by decide) rfl (by decide) (by decide) (c_X10_init l D cs q0) (ci_L_9 S.2.2.2.2 ⟨(Nat.le_of_ble_eq_true rfl), (Nat.le_of_ble_eq_true rfl)⟩) hl.1 (Nat.le_of_ble_eq_true rfl) ⟨(Nat.le_of_ble_eq_true rfl), (Nat.le_of_ble_eq_true rfl)⟩ dL_law_4 (fun u H locs hu w => ?_)
  have w : ZW D (fun q : Nat => s.heap.size ≤ q) s.heap (XWc cs u 10 11 xF0 (fun _ _ => 0) 0) _ _ := w
  refine W.widen (k := 47) (n := 665) (Nat.le_of_ble_eq_true rfl) (Nat.le_of_ble_eq_true rfl) ?_
  refine lv_astore_n (lv' := [(1, .ref q0), (0, .ref b)]) S.1 S.2.1 dL_law_7 rfl hl (by decide) rfl (fun ls hl => ?_)
  refine z_new (C := RX11) (T := TX11) (N := 32) (ci := 11) (fs := [.long 0, .null, .int 0, .null, .null, .null, .null, .null, .null, .null, .null, .null, .null, .null, .null, .null, .int 0, .int 0, .int 0, .int 0, .int 0, .int 0, .int 0, .int 0, .null, .null, .null, .int 0, .null, .null, .null, .int 0]) S K w hA inZ11 tyX11 tyX11_ok w722 w723 w67 rfl (fun j hj => by rcases (show j = 0 ∨ j = 1 ∨ j = 2 ∨ j = 3 ∨ j = 4 ∨ j = 5 ∨ j = 6 ∨ j = 7 ∨ j = 8 ∨ j = 9 ∨ j = 10 ∨ j = 11 ∨ j = 12 ∨ j = 13 ∨ j = 14 ∨ j = 15 ∨ j = 16 ∨ j = 17 ∨ j = 18 ∨ j = 19 ∨ j = 20 ∨ j = 21 ∨ j = 22 ∨ j = 23 ∨ j = 24 ∨ j = 25 ∨ j = 26 ∨ j = 27 ∨ j = 28 ∨ j = 29 ∨ j = 30 ∨ j = 31 by omega) with rfl | rfl | rfl | rfl | rfl | rfl | rfl | rfl | rfl | rfl | rfl | rfl | rfl | rfl | rfl | rfl | rfl | rfl | rfl | rfl | rfl | rfl | rfl | rfl | rfl | rfl | rfl | rfl | rfl | rfl | rfl | rfl <;> rfl) (Nat.le_of_ble_eq_true rfl) (Nat.le_of_ble_eq_true rfl) dL_law_8 (fun q1 H w => ?_)
  refine W.widen (k := 48) (n := 697) (Nat.le_of_ble_eq_true rfl) (Nat.le_of_ble_eq_true rfl) ?_
  refine lv_dup S.1 S.2.1 dL_law_11 rfl ?_
  refine z_callIo (wr := XWc cs u 10 11 xF0 (fun _ _ => 0) 0) S K w hA [47] [0, 1, 2, 3, 4, 5, 6, 7, 8, 9, 10, 11, 12, 13, 14, 15, 16, 17, 18, 19, 20, 21, 22, 23, 24, 25, 26, 27, 28, 29, 30, 31, 32, 33, 34, 35, 36, 37, 38, 39, 40, 41, 42, 43, 44, 45, 46] rfl rfl (by decide) rfl (by decide) (by decide) (c_X11_init l D cs q1) (ci_L_12 S.2.2.2.2 ⟨(Nat.le_of_ble_eq_true rfl), (Nat.le_of_ble_eq_true rfl)⟩) hl.1 (Nat.le_of_ble_eq_true rfl) ⟨(Nat.le_of_ble_eq_true rfl), (Nat.le_of_ble_eq_true rfl)⟩ dL_law_12 (fun v H locs hv w => ?_)
  have w : ZW D (fun q : Nat => s.heap.size ≤ q) s.heap (XWc cs u 10 11 xF0 (fun _ _ => 0) 0 ++ MW cs v (fun _ => 0) mA0 0) _ _ := w
  refine W.widen (k := 68) (n := 1239) (Nat.le_of_ble_eq_true rfl) (Nat.le_of_ble_eq_true rfl) ?_
  refine lv_astore_n (lv' := [(2, .ref q1), (1, .ref q0), (0, .ref b)]) S.1 S.2.1 dL_law_15 rfl hl (by decide) rfl (fun ls hl => ?_)
  refine lv_iconst (v := 0) S.1 S.2.1 dL_law_16 (by decide) ?_
  refine lv_istore_n (lv' := [(3, .int 0), (2, .ref q1), (1, .ref q0), (0, .ref b)]) S.1 S.2.1 dL_law_17 rfl hl (by decide) rfl (fun ls hl => ?_)
  rw [← hu, ← hv] at hl
  exact law_loop hL C0 K Rel h_type h_clear h_court h_suspect h_fact h_moves h_alibi h_find h_hear h_days h_undo h_share h_now h_proof h_cleared h_forged h_clash h_rests h_gains h_cellsFor h_sits h_wronged h_book h_burn h_books h_innocent h_mark h_keep h_back h_count h_trace (L + 1) 0 (Nat.zero_le L) (by omega) (xF0, (fun _ _ => 0), 0) ((fun _ => 0), mA0, 0) h0 u v _ _ w ls (lv_sub hl [3, 2, 1, 0] rfl)
