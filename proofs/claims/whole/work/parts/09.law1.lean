/-! the law: a call on one of two worlds leaves the other as it is -/
theorem lg_cmp_self (x : Int64) : lg_cmp x x = 0 := by
  unfold lg_cmp
  rw [if_neg (by simp), if_pos rfl]
section Z9
variable {p : Program} {l : Launch} {e : Env} {R : Room} {s : State} {m : MethodId} {args : Array Value} {below : List Frame} {meth : Method} {c : Code} {H : Heap} {locs : List Loc} {cells slots : Nat} {Q : State → Prop} {cc : ByteArray} {pc nL : Nat} {ls : Array Slot} {rest : List Value} {own : String} {D : va_G} {cs : Nat → ClassId} {ax am : Nat → Nat} {A0 : Nat → Prop} {H0 : Heap} {F F2 : ZF} {A A2 : ZA} {T T2 : Int64} {index : Nat}
variable {y : MethodName} {bytes : ByteArray} {maxL n : Nat} {ret : Option FieldType} {rm : Room} {As st0 : List Value}
set_option maxRecDepth 20000 in
theorem fX_i {q : Int32 × ZS} {φ : Prop} (S : CallFix p m c cc nL s args zWs own) (K : ZK D cs s) (w : ZW D A0 H0 (XWc cs ax 10 11 F A T ++ MW cs am F2 A2 T2) H locs) (hA : ∀ q : Nat, H0.size ≤ q → A0 q) (hM : zMi l D cs (XWc cs ax 10 11) y bytes maxL ret rm (.ref (ax 0) :: As) F A T q φ) (cw : CallW R s args own RX10 index y bytes maxL ret (.code y bytes maxL ret :: zWs) rm 0 0 n) (hn : As.length = n) (hsz : ls.size = nL) (hst : st0 = As.reverse ++ .ref (ax 0) :: rest) (hW : (rest.map fun v => v.category).sum ≤ 8) (hf : cells ≤ R.cells ∧ slots ≤ R.slots) (hd : decode cc pc = .ok (.invokevirtual index, 3))
    (kk : ∀ (H1 : Heap) (locs1 : List Loc), ZW D A0 H0 (MW cs am F2 A2 T2 ++ XWc cs ax 10 11 q.2.1 q.2.2.1 q.2.2.2) H1 locs1 → W p l e R s m args below meth c H1 locs1 cells slots Q (F0 m (pc + 3) ls (.int q.1 :: rest))) : W p l e R s m args below meth c H locs cells slots Q (F0 m pc ls st0) := by
  have hFc := va_free (wc := XWc cs ax 10 11 F A T) w.2.1 w.2.2 hA [0, 1, 2, 3, 4, 5, 6, 7, 8, 9, 10, 11, 12, 13, 14, 15, 16, 17, 18, 19, 20, 21, 22, 23, 24, 25, 26, 27, 28, 29, 30, 31, 32, 33, 34, 35, 36, 37, 38, 39, 40, 41, 42, 43, 44, 45, 46] rfl
  have wc : ZW D A0 H0 (XWc cs ax 10 11 F A T) H locs := ⟨w.1.sub [0, 1, 2, 3, 4, 5, 6, 7, 8, 9, 10, 11, 12, 13, 14, 15, 16, 17, 18, 19, 20, 21, 22, 23, 24, 25, 26, 27, 28, 29, 30, 31, 32, 33, 34, 35, 36, 37, 38, 39, 40, 41, 42, 43, 44, 45, 46] rfl, w.2.1.sub [0, 1, 2, 3, 4, 5, 6, 7, 8, 9, 10, 11, 12, 13, 14, 15, 16, 17, 18, 19, 20, 21, 22, 23, 24, 25, 26, 27, 28, 29, 30, 31, 32, 33, 34, 35, 36, 37, 38, 39, 40, 41, 42, 43, 44, 45, 46] (by decide) rfl, w.2.2⟩
  refine va_calli (va_runV S (hM H.size) cw ⟨z_blind, z_recv K wc 0 10 rfl rfl, z_pre K wc⟩ rfl hn hsz hst (lv_room hW) hd hf) w.2.2 (fun q _ h => hFc q h) hFc (fun r u t H1 locs1 ht hvm hw hB hz1 hk1 hS => ?_)
  obtain ⟨rfl, rfl, hφ⟩ := hw
  obtain ⟨hB1, hB2⟩ := hB
  obtain ⟨hP, hD⟩ := va_join (wr := MW cs am F2 A2 T2) (w1 := XWc cs ax 10 11 q.2.1 q.2.2.1 q.2.2.2) w.1 w.2.1 [0, 1, 2, 3, 4, 5, 6, 7, 8, 9, 10, 11, 12, 13, 14, 15, 16, 17, 18, 19, 20, 21, 22, 23, 24, 25, 26, 27, 28, 29, 30, 31, 32, 33, 34, 35, 36, 37, 38, 39, 40, 41, 42, 43, 44, 45, 46] [47, 48, 49, 50, 51, 52, 53, 54, 55, 56, 57, 58, 59, 60, 61, 62, 63, 64, 65, 66, 67] rfl rfl (by decide) (by decide) hk1 hFc (by rw [← ht]; exact hB1) hB2
  exact kk H1 locs1 ⟨hP, hD, hS⟩
set_option maxRecDepth 20000 in
theorem fX_l {q : Int64 × ZS} (S : CallFix p m c cc nL s args zWs own) (K : ZK D cs s) (w : ZW D A0 H0 (XWc cs ax 10 11 F A T ++ MW cs am F2 A2 T2) H locs) (hA : ∀ q : Nat, H0.size ≤ q → A0 q) (hM : zMl l D cs (XWc cs ax 10 11) y bytes maxL ret rm (.ref (ax 0) :: As) F A T q) (cw : CallW R s args own RX10 index y bytes maxL ret (.code y bytes maxL ret :: zWs) rm 0 0 n) (hn : As.length = n) (hsz : ls.size = nL) (hst : st0 = As.reverse ++ .ref (ax 0) :: rest) (hW : (rest.map fun v => v.category).sum ≤ 8) (hf : cells ≤ R.cells ∧ slots ≤ R.slots) (hd : decode cc pc = .ok (.invokevirtual index, 3))
    (kk : ∀ (H1 : Heap) (locs1 : List Loc), ZW D A0 H0 (MW cs am F2 A2 T2 ++ XWc cs ax 10 11 q.2.1 q.2.2.1 q.2.2.2) H1 locs1 → W p l e R s m args below meth c H1 locs1 cells slots Q (F0 m (pc + 3) ls (.long q.1 :: rest))) : W p l e R s m args below meth c H locs cells slots Q (F0 m pc ls st0) := by
  have hFc := va_free (wc := XWc cs ax 10 11 F A T) w.2.1 w.2.2 hA [0, 1, 2, 3, 4, 5, 6, 7, 8, 9, 10, 11, 12, 13, 14, 15, 16, 17, 18, 19, 20, 21, 22, 23, 24, 25, 26, 27, 28, 29, 30, 31, 32, 33, 34, 35, 36, 37, 38, 39, 40, 41, 42, 43, 44, 45, 46] rfl
  have wc : ZW D A0 H0 (XWc cs ax 10 11 F A T) H locs := ⟨w.1.sub [0, 1, 2, 3, 4, 5, 6, 7, 8, 9, 10, 11, 12, 13, 14, 15, 16, 17, 18, 19, 20, 21, 22, 23, 24, 25, 26, 27, 28, 29, 30, 31, 32, 33, 34, 35, 36, 37, 38, 39, 40, 41, 42, 43, 44, 45, 46] rfl, w.2.1.sub [0, 1, 2, 3, 4, 5, 6, 7, 8, 9, 10, 11, 12, 13, 14, 15, 16, 17, 18, 19, 20, 21, 22, 23, 24, 25, 26, 27, 28, 29, 30, 31, 32, 33, 34, 35, 36, 37, 38, 39, 40, 41, 42, 43, 44, 45, 46] (by decide) rfl, w.2.2⟩
  refine va_calll (va_runV S (hM H.size) cw ⟨z_blind, z_recv K wc 0 10 rfl rfl, z_pre K wc⟩ rfl hn hsz hst (lv_room hW) hd hf) w.2.2 (fun q _ h => hFc q h) hFc (fun r u t H1 locs1 ht hvm hw hB hz1 hk1 hS => ?_)
  obtain ⟨rfl, rfl⟩ := hw
  obtain ⟨hB1, hB2⟩ := hB
  obtain ⟨hP, hD⟩ := va_join (wr := MW cs am F2 A2 T2) (w1 := XWc cs ax 10 11 q.2.1 q.2.2.1 q.2.2.2) w.1 w.2.1 [0, 1, 2, 3, 4, 5, 6, 7, 8, 9, 10, 11, 12, 13, 14, 15, 16, 17, 18, 19, 20, 21, 22, 23, 24, 25, 26, 27, 28, 29, 30, 31, 32, 33, 34, 35, 36, 37, 38, 39, 40, 41, 42, 43, 44, 45, 46] [47, 48, 49, 50, 51, 52, 53, 54, 55, 56, 57, 58, 59, 60, 61, 62, 63, 64, 65, 66, 67] rfl rfl (by decide) (by decide) hk1 hFc (by rw [← ht]; exact hB1) hB2
  exact kk H1 locs1 ⟨hP, hD, hS⟩
set_option maxRecDepth 20000 in
theorem fX_c {q : Int32 × ZS} (S : CallFix p m c cc nL s args zWs own) (K : ZK D cs s) (w : ZW D A0 H0 (XWc cs ax 10 11 F A T ++ MW cs am F2 A2 T2) H locs) (hA : ∀ q : Nat, H0.size ≤ q → A0 q) (hM : zMc l D cs ax y bytes maxL ret rm (.ref (ax 0) :: As) F A T q) (cw : CallW R s args own RX10 index y bytes maxL ret (.code y bytes maxL ret :: zWs) rm 0 0 n) (hn : As.length = n) (hsz : ls.size = nL) (hst : st0 = As.reverse ++ .ref (ax 0) :: rest) (hW : (rest.map fun v => v.category).sum ≤ 8) (hf : cells ≤ R.cells ∧ slots ≤ R.slots) (hd : decode cc pc = .ok (.invokevirtual index, 3))
    (kk : ∀ (ay : Nat → Nat), ay 0 = ax 0 → ∀ (H1 : Heap) (locs1 : List Loc), ZW D A0 H0 (MW cs am F2 A2 T2 ++ XWc cs ay 10 11 q.2.1 q.2.2.1 q.2.2.2) H1 locs1 → W p l e R s m args below meth c H1 locs1 cells slots Q (F0 m (pc + 3) ls (.int q.1 :: rest))) : W p l e R s m args below meth c H locs cells slots Q (F0 m pc ls st0) := by
  have hFc := va_free (wc := XWc cs ax 10 11 F A T) w.2.1 w.2.2 hA [0, 1, 2, 3, 4, 5, 6, 7, 8, 9, 10, 11, 12, 13, 14, 15, 16, 17, 18, 19, 20, 21, 22, 23, 24, 25, 26, 27, 28, 29, 30, 31, 32, 33, 34, 35, 36, 37, 38, 39, 40, 41, 42, 43, 44, 45, 46] rfl
  have wc : ZW D A0 H0 (XWc cs ax 10 11 F A T) H locs := ⟨w.1.sub [0, 1, 2, 3, 4, 5, 6, 7, 8, 9, 10, 11, 12, 13, 14, 15, 16, 17, 18, 19, 20, 21, 22, 23, 24, 25, 26, 27, 28, 29, 30, 31, 32, 33, 34, 35, 36, 37, 38, 39, 40, 41, 42, 43, 44, 45, 46] rfl, w.2.1.sub [0, 1, 2, 3, 4, 5, 6, 7, 8, 9, 10, 11, 12, 13, 14, 15, 16, 17, 18, 19, 20, 21, 22, 23, 24, 25, 26, 27, 28, 29, 30, 31, 32, 33, 34, 35, 36, 37, 38, 39, 40, 41, 42, 43, 44, 45, 46] (by decide) rfl, w.2.2⟩
  refine va_calli (va_runV S (hM H.size) cw ⟨z_blind, z_recv K wc 0 10 rfl rfl, z_pre K wc⟩ rfl hn hsz hst (lv_room hW) hd hf) w.2.2 (fun q _ h => hFc q h) hFc (fun r u t H1 locs1 ht hvm hw hB hz1 hk1 hS => ?_)
  obtain ⟨rfl, rfl⟩ := hw
  obtain ⟨ay, h0, hB1, hB2⟩ := hB
  obtain ⟨hP, hD⟩ := va_join (wr := MW cs am F2 A2 T2) (w1 := XWc cs ay 10 11 q.2.1 q.2.2.1 q.2.2.2) w.1 w.2.1 [0, 1, 2, 3, 4, 5, 6, 7, 8, 9, 10, 11, 12, 13, 14, 15, 16, 17, 18, 19, 20, 21, 22, 23, 24, 25, 26, 27, 28, 29, 30, 31, 32, 33, 34, 35, 36, 37, 38, 39, 40, 41, 42, 43, 44, 45, 46] [47, 48, 49, 50, 51, 52, 53, 54, 55, 56, 57, 58, 59, 60, 61, 62, 63, 64, 65, 66, 67] rfl rfl (by decide) (by decide) hk1 hFc (by rw [← ht]; exact hB1) hB2
  exact kk ay h0 H1 locs1 ⟨hP, hD, hS⟩
set_option maxRecDepth 20000 in
theorem fM_i {q : Int32 × ZS} {φ : Prop} (S : CallFix p m c cc nL s args zWs own) (K : ZK D cs s) (w : ZW D A0 H0 (MW cs am F A T ++ XWc cs ax 10 11 F2 A2 T2) H locs) (hA : ∀ q : Nat, H0.size ≤ q → A0 q) (hM : zMi l D cs (MW cs am) y bytes maxL ret rm (.ref (am 0) :: As) F A T q φ) (cw : CallW R s args own RX11 index y bytes maxL ret (.code y bytes maxL ret :: zWs) rm 0 0 n) (hn : As.length = n) (hsz : ls.size = nL) (hst : st0 = As.reverse ++ .ref (am 0) :: rest) (hW : (rest.map fun v => v.category).sum ≤ 8) (hf : cells ≤ R.cells ∧ slots ≤ R.slots) (hd : decode cc pc = .ok (.invokevirtual index, 3))
    (kk : ∀ (H1 : Heap) (locs1 : List Loc), ZW D A0 H0 (XWc cs ax 10 11 F2 A2 T2 ++ MW cs am q.2.1 q.2.2.1 q.2.2.2) H1 locs1 → W p l e R s m args below meth c H1 locs1 cells slots Q (F0 m (pc + 3) ls (.int q.1 :: rest))) : W p l e R s m args below meth c H locs cells slots Q (F0 m pc ls st0) := by
  have hFc := va_free (wc := MW cs am F A T) w.2.1 w.2.2 hA [0, 1, 2, 3, 4, 5, 6, 7, 8, 9, 10, 11, 12, 13, 14, 15, 16, 17, 18, 19, 20] rfl
  have wc : ZW D A0 H0 (MW cs am F A T) H locs := ⟨w.1.sub [0, 1, 2, 3, 4, 5, 6, 7, 8, 9, 10, 11, 12, 13, 14, 15, 16, 17, 18, 19, 20] rfl, w.2.1.sub [0, 1, 2, 3, 4, 5, 6, 7, 8, 9, 10, 11, 12, 13, 14, 15, 16, 17, 18, 19, 20] (by decide) rfl, w.2.2⟩
  refine va_calli (va_runV S (hM H.size) cw ⟨z_blind, z_recv K wc 0 11 rfl rfl, z_pre K wc⟩ rfl hn hsz hst (lv_room hW) hd hf) w.2.2 (fun q _ h => hFc q h) hFc (fun r u t H1 locs1 ht hvm hw hB hz1 hk1 hS => ?_)
  obtain ⟨rfl, rfl, hφ⟩ := hw
  obtain ⟨hB1, hB2⟩ := hB
  obtain ⟨hP, hD⟩ := va_join (wr := XWc cs ax 10 11 F2 A2 T2) (w1 := MW cs am q.2.1 q.2.2.1 q.2.2.2) w.1 w.2.1 [0, 1, 2, 3, 4, 5, 6, 7, 8, 9, 10, 11, 12, 13, 14, 15, 16, 17, 18, 19, 20] [21, 22, 23, 24, 25, 26, 27, 28, 29, 30, 31, 32, 33, 34, 35, 36, 37, 38, 39, 40, 41, 42, 43, 44, 45, 46, 47, 48, 49, 50, 51, 52, 53, 54, 55, 56, 57, 58, 59, 60, 61, 62, 63, 64, 65, 66, 67] rfl rfl (by decide) (by decide) hk1 hFc (by rw [← ht]; exact hB1) hB2
  exact kk H1 locs1 ⟨hP, hD, hS⟩
set_option maxRecDepth 20000 in
theorem fM_l {q : Int64 × ZS} (S : CallFix p m c cc nL s args zWs own) (K : ZK D cs s) (w : ZW D A0 H0 (MW cs am F A T ++ XWc cs ax 10 11 F2 A2 T2) H locs) (hA : ∀ q : Nat, H0.size ≤ q → A0 q) (hM : zMl l D cs (MW cs am) y bytes maxL ret rm (.ref (am 0) :: As) F A T q) (cw : CallW R s args own RX11 index y bytes maxL ret (.code y bytes maxL ret :: zWs) rm 0 0 n) (hn : As.length = n) (hsz : ls.size = nL) (hst : st0 = As.reverse ++ .ref (am 0) :: rest) (hW : (rest.map fun v => v.category).sum ≤ 8) (hf : cells ≤ R.cells ∧ slots ≤ R.slots) (hd : decode cc pc = .ok (.invokevirtual index, 3))
    (kk : ∀ (H1 : Heap) (locs1 : List Loc), ZW D A0 H0 (XWc cs ax 10 11 F2 A2 T2 ++ MW cs am q.2.1 q.2.2.1 q.2.2.2) H1 locs1 → W p l e R s m args below meth c H1 locs1 cells slots Q (F0 m (pc + 3) ls (.long q.1 :: rest))) : W p l e R s m args below meth c H locs cells slots Q (F0 m pc ls st0) := by
  have hFc := va_free (wc := MW cs am F A T) w.2.1 w.2.2 hA [0, 1, 2, 3, 4, 5, 6, 7, 8, 9, 10, 11, 12, 13, 14, 15, 16, 17, 18, 19, 20] rfl
  have wc : ZW D A0 H0 (MW cs am F A T) H locs := ⟨w.1.sub [0, 1, 2, 3, 4, 5, 6, 7, 8, 9, 10, 11, 12, 13, 14, 15, 16, 17, 18, 19, 20] rfl, w.2.1.sub [0, 1, 2, 3, 4, 5, 6, 7, 8, 9, 10, 11, 12, 13, 14, 15, 16, 17, 18, 19, 20] (by decide) rfl, w.2.2⟩
  refine va_calll (va_runV S (hM H.size) cw ⟨z_blind, z_recv K wc 0 11 rfl rfl, z_pre K wc⟩ rfl hn hsz hst (lv_room hW) hd hf) w.2.2 (fun q _ h => hFc q h) hFc (fun r u t H1 locs1 ht hvm hw hB hz1 hk1 hS => ?_)
  obtain ⟨rfl, rfl⟩ := hw
  obtain ⟨hB1, hB2⟩ := hB
  obtain ⟨hP, hD⟩ := va_join (wr := XWc cs ax 10 11 F2 A2 T2) (w1 := MW cs am q.2.1 q.2.2.1 q.2.2.2) w.1 w.2.1 [0, 1, 2, 3, 4, 5, 6, 7, 8, 9, 10, 11, 12, 13, 14, 15, 16, 17, 18, 19, 20] [21, 22, 23, 24, 25, 26, 27, 28, 29, 30, 31, 32, 33, 34, 35, 36, 37, 38, 39, 40, 41, 42, 43, 44, 45, 46, 47, 48, 49, 50, 51, 52, 53, 54, 55, 56, 57, 58, 59, 60, 61, 62, 63, 64, 65, 66, 67] rfl rfl (by decide) (by decide) hk1 hFc (by rw [← ht]; exact hB1) hB2
  exact kk H1 locs1 ⟨hP, hD, hS⟩
end Z9
def st_type (Rel : ZS → ZS → Prop) : Prop := ∀ (a0 : Int32) (U V : ZS), Rel U V → ∃ q r : Int32 × ZS, f_X10_type a0 U.1 U.2.1 U.2.2 = some q ∧ f_X11_type a0 V.1 V.2.1 V.2.2 = some r ∧ q.1 = r.1 ∧ Rel q.2 r.2
def st_clear (Rel : ZS → ZS → Prop) : Prop := ∀ (U V : ZS), Rel U V → ∃ q r : Int32 × ZS, f_X10_clear U.1 U.2.1 U.2.2 = some q ∧ f_X11_clear V.1 V.2.1 V.2.2 = some r ∧ q.1 = r.1 ∧ Rel q.2 r.2
def st_court (Rel : ZS → ZS → Prop) : Prop := ∀ (U V : ZS), Rel U V → ∃ q r : Int32 × ZS, f_X10_court U.1 U.2.1 U.2.2 = some q ∧ f_X11_court V.1 V.2.1 V.2.2 = some r ∧ q.1 = r.1 ∧ Rel q.2 r.2
def st_suspect (Rel : ZS → ZS → Prop) : Prop := ∀ (a0 a1 : Int32) (U V : ZS), Rel U V → ∃ q r : Int32 × ZS, f_X10_suspect a0 a1 U.1 U.2.1 U.2.2 = some q ∧ f_X11_suspect a0 a1 V.1 V.2.1 V.2.2 = some r ∧ q.1 = r.1 ∧ Rel q.2 r.2
def st_fact (Rel : ZS → ZS → Prop) : Prop := ∀ (a0 a1 : Int32) (U V : ZS), Rel U V → ∃ q r : Int32 × ZS, (f_X10_fact a0 a1 U.1 U.2.1 U.2.2 = some q.1 ∧ q.2 = U) ∧ (f_X11_fact a0 a1 V.1 V.2.1 V.2.2 = some r.1 ∧ r.2 = V) ∧ q.1 = r.1 ∧ Rel q.2 r.2
def st_moves (Rel : ZS → ZS → Prop) : Prop := ∀ (a0 a1 : Int32) (U V : ZS), Rel U V → ∃ q r : Int32 × ZS, (f_X10_moves a0 a1 U.1 U.2.1 U.2.2 = some q.1 ∧ q.2 = U) ∧ (f_X11_moves a0 a1 V.1 V.2.1 V.2.2 = some r.1 ∧ r.2 = V) ∧ q.1 = r.1 ∧ Rel q.2 r.2
def st_alibi (Rel : ZS → ZS → Prop) : Prop := ∀ (a0 a1 : Int32) (U V : ZS), Rel U V → ∃ q r : Int32 × ZS, (f_X10_alibi a0 a1 U.1 U.2.1 U.2.2 = some q.1 ∧ q.2 = U) ∧ (f_X11_alibi a0 a1 V.1 V.2.1 V.2.2 = some r.1 ∧ r.2 = V) ∧ q.1 = r.1 ∧ Rel q.2 r.2
def st_find (Rel : ZS → ZS → Prop) : Prop := ∀ (a0 a1 : Int32) (U V : ZS), Rel U V → ∃ q r : Int32 × ZS, f_X10_find a0 a1 U.1 U.2.1 U.2.2 = some q ∧ f_X11_find a0 a1 V.1 V.2.1 V.2.2 = some r ∧ q.1 = r.1 ∧ Rel q.2 r.2
def st_hear (Rel : ZS → ZS → Prop) : Prop := ∀ (a0 a1 : Int32) (U V : ZS), Rel U V → ∃ q r : Int32 × ZS, f_X10_hear a0 a1 U.1 U.2.1 U.2.2 = some q ∧ f_X11_hear a0 a1 V.1 V.2.1 V.2.2 = some r ∧ q.1 = r.1 ∧ Rel q.2 r.2
def st_days (Rel : ZS → ZS → Prop) : Prop := ∀ (a0 : Int32) (U V : ZS), Rel U V → ∃ q r : Int32 × ZS, f_X10_days a0 U.1 U.2.1 U.2.2 = some q ∧ f_X11_days a0 V.1 V.2.1 V.2.2 = some r ∧ q.1 = r.1 ∧ Rel q.2 r.2
def st_undo (Rel : ZS → ZS → Prop) : Prop := ∀ (U V : ZS), Rel U V → ∃ q r : Int32 × ZS, f_X10_undo U.1 U.2.1 U.2.2 = some q ∧ f_X11_undo V.1 V.2.1 V.2.2 = some r ∧ q.1 = r.1 ∧ Rel q.2 r.2
def st_share (Rel : ZS → ZS → Prop) : Prop := ∀ (a0 a1 : Int32) (U V : ZS), Rel U V → ∃ q r : Int32 × ZS, f_X10_share a0 a1 U.1 U.2.1 U.2.2 = some q ∧ f_X11_share a0 a1 V.1 V.2.1 V.2.2 = some r ∧ q.1 = r.1 ∧ Rel q.2 r.2
def st_now (Rel : ZS → ZS → Prop) : Prop := ∀ (a0 : Int32) (U V : ZS), Rel U V → ∃ q r : Int32 × ZS, f_X10_now a0 U.1 U.2.1 U.2.2 = some q ∧ f_X11_now a0 V.1 V.2.1 V.2.2 = some r ∧ q.1 = r.1 ∧ Rel q.2 r.2
def st_proof (Rel : ZS → ZS → Prop) : Prop := ∀ (a0 a1 a2 a3 : Int32) (U V : ZS), Rel U V → ∃ q r : Int32 × ZS, f_X10_proof a0 a1 a2 a3 U.1 U.2.1 U.2.2 = some q ∧ f_X11_proof a0 a1 a2 a3 V.1 V.2.1 V.2.2 = some r ∧ q.1 = r.1 ∧ Rel q.2 r.2
def st_cleared (Rel : ZS → ZS → Prop) : Prop := ∀ (a0 a1 a2 a3 : Int32) (U V : ZS), Rel U V → ∃ q r : Int32 × ZS, f_X10_cleared a0 a1 a2 a3 U.1 U.2.1 U.2.2 = some q ∧ f_X11_cleared a0 a1 a2 a3 V.1 V.2.1 V.2.2 = some r ∧ q.1 = r.1 ∧ Rel q.2 r.2
def st_forged (Rel : ZS → ZS → Prop) : Prop := ∀ (a0 a1 a2 : Int32) (U V : ZS), Rel U V → ∃ q r : Int32 × ZS, f_X10_forged a0 a1 a2 U.1 U.2.1 U.2.2 = some q ∧ f_X11_forged a0 a1 a2 V.1 V.2.1 V.2.2 = some r ∧ q.1 = r.1 ∧ Rel q.2 r.2
def st_clash (Rel : ZS → ZS → Prop) : Prop := ∀ (a0 : Int32) (U V : ZS), Rel U V → ∃ q r : Int32 × ZS, f_X10_clash a0 U.1 U.2.1 U.2.2 = some q ∧ (f_X11_clash a0 V.1 V.2.1 V.2.2 = some r.1 ∧ r.2 = V) ∧ q.1 = r.1 ∧ Rel q.2 r.2
def st_rests (Rel : ZS → ZS → Prop) : Prop := ∀ (a0 : Int32) (U V : ZS), Rel U V → ∃ q r : Int32 × ZS, f_X10_rests a0 U.1 U.2.1 U.2.2 = some q ∧ f_X11_rests a0 V.1 V.2.1 V.2.2 = some r ∧ q.1 = r.1 ∧ Rel q.2 r.2
def st_gains (Rel : ZS → ZS → Prop) : Prop := ∀ (a0 : Int32) (U V : ZS), Rel U V → ∃ q r : Int32 × ZS, f_X10_gains a0 U.1 U.2.1 U.2.2 = some q ∧ f_X11_gains a0 V.1 V.2.1 V.2.2 = some r ∧ q.1 = r.1 ∧ Rel q.2 r.2
def st_cellsFor (Rel : ZS → ZS → Prop) : Prop := ∀ (a0 : Int32) (U V : ZS), Rel U V → ∃ q r : Int32 × ZS, f_X10_cellsFor a0 U.1 U.2.1 U.2.2 = some q ∧ f_X11_cellsFor a0 V.1 V.2.1 V.2.2 = some r ∧ q.1 = r.1 ∧ Rel q.2 r.2
def st_sits (Rel : ZS → ZS → Prop) : Prop := ∀ (a0 a1 a2 : Int32) (U V : ZS), Rel U V → ∃ q r : Int32 × ZS, f_X10_sits a0 a1 a2 U.1 U.2.1 U.2.2 = some q ∧ f_X11_sits a0 a1 a2 V.1 V.2.1 V.2.2 = some r ∧ q.1 = r.1 ∧ Rel q.2 r.2
def st_wronged (Rel : ZS → ZS → Prop) : Prop := ∀ (a0 : Int32) (U V : ZS), Rel U V → ∃ q r : Int32 × ZS, f_X10_wronged a0 U.1 U.2.1 U.2.2 = some q ∧ f_X11_wronged a0 V.1 V.2.1 V.2.2 = some r ∧ q.1 = r.1 ∧ Rel q.2 r.2
def st_book (Rel : ZS → ZS → Prop) : Prop := ∀ (a0 a1 : Int32) (U V : ZS), Rel U V → ∃ q r : Int32 × ZS, f_X10_book a0 a1 U.1 U.2.1 U.2.2 = some q ∧ f_X11_book a0 a1 V.1 V.2.1 V.2.2 = some r ∧ q.1 = r.1 ∧ Rel q.2 r.2
def st_burn (Rel : ZS → ZS → Prop) : Prop := ∀ (U V : ZS), Rel U V → ∃ q r : Int32 × ZS, f_X10_burn U.1 U.2.1 U.2.2 = some q ∧ f_X11_burn V.1 V.2.1 V.2.2 = some r ∧ q.1 = r.1 ∧ Rel q.2 r.2
def st_books (Rel : ZS → ZS → Prop) : Prop := ∀ (a0 : Int32) (U V : ZS), Rel U V → ∃ q r : Int32 × ZS, f_X10_books a0 U.1 U.2.1 U.2.2 = some q ∧ f_X11_books a0 V.1 V.2.1 V.2.2 = some r ∧ q.1 = r.1 ∧ Rel q.2 r.2
def st_innocent (Rel : ZS → ZS → Prop) : Prop := ∀ (a0 : Int32) (U V : ZS), Rel U V → ∃ q r : Int32 × ZS, f_X10_innocent a0 U.1 U.2.1 U.2.2 = some q ∧ (f_X11_innocent a0 V.1 V.2.1 V.2.2 = some r.1 ∧ r.2 = V) ∧ q.1 = r.1 ∧ Rel q.2 r.2
def st_mark (Rel : ZS → ZS → Prop) : Prop := ∀ (a0 a1 : Int32) (U V : ZS), Rel U V → ∃ q r : Int32 × ZS, f_X10_mark a0 a1 U.1 U.2.1 U.2.2 = some q ∧ f_X11_mark a0 a1 V.1 V.2.1 V.2.2 = some r ∧ q.1 = r.1 ∧ Rel q.2 r.2
def st_keep (Rel : ZS → ZS → Prop) : Prop := ∀ (a0 : Int32) (U V : ZS), Rel U V → ∃ q r : Int32 × ZS, f_X10_keep a0 U.1 U.2.1 U.2.2 = some q ∧ f_X11_keep a0 V.1 V.2.1 V.2.2 = some r ∧ q.1 = r.1 ∧ Rel q.2 r.2
def st_back (Rel : ZS → ZS → Prop) : Prop := ∀ (a0 : Int32) (U V : ZS), Rel U V → ∃ q r : Int32 × ZS, f_X10_back a0 U.1 U.2.1 U.2.2 = some q ∧ f_X11_back a0 V.1 V.2.1 V.2.2 = some r ∧ q.1 = r.1 ∧ Rel q.2 r.2
def st_count (Rel : ZS → ZS → Prop) : Prop := ∀ (a0 : Int32) (U V : ZS), Rel U V → ∃ q r : Int32 × ZS, (f_X10_count a0 U.1 U.2.1 U.2.2 = q.1 ∧ q.2 = U) ∧ (f_X11_count a0 V.1 V.2.1 V.2.2 = r.1 ∧ r.2 = V) ∧ q.1 = r.1 ∧ Rel q.2 r.2
def st_trace (Rel : ZS → ZS → Prop) : Prop := ∀ (U V : ZS), Rel U V → ∃ q r : Int64 × ZS, (f_X10_trace U.1 U.2.1 U.2.2 = q.1 ∧ q.2 = U) ∧ (f_X11_trace V.1 V.2.1 V.2.2 = r.1 ∧ r.2 = V) ∧ q.1 = r.1 ∧ Rel q.2 r.2
set_option maxHeartbeats 16000000 in
set_option maxRecDepth 100000 in
theorem law_loop {p : Program} {l : Launch} {e : Env} {s : State} {m : MethodId} {below : List Frame} {meth : Method} {c : Code} {D : va_G} {cs : Nat → ClassId} {b L : Nat} {xs : Nat → Int32} (hL : L ≤ 320) (C0 : lw_At p s m meth c b L xs) (K : ZK D cs s) (Rel : ZS → ZS → Prop) (h_type : st_type Rel) (h_clear : st_clear Rel) (h_court : st_court Rel) (h_suspect : st_suspect Rel) (h_fact : st_fact Rel) (h_moves : st_moves Rel) (h_alibi : st_alibi Rel) (h_find : st_find Rel) (h_hear : st_hear Rel) (h_days : st_days Rel) (h_undo : st_undo Rel) (h_share : st_share Rel) (h_now : st_now Rel) (h_proof : st_proof Rel) (h_cleared : st_cleared Rel) (h_forged : st_forged Rel) (h_clash : st_clash Rel) (h_rests : st_rests Rel) (h_gains : st_gains Rel) (h_cellsFor : st_cellsFor Rel) (h_sits : st_sits Rel) (h_wronged : st_wronged Rel) (h_book : st_book Rel) (h_burn : st_burn Rel) (h_books : st_books Rel) (h_innocent : st_innocent Rel) (h_mark : st_mark Rel) (h_keep : st_keep Rel) (h_back : st_back Rel) (h_count : st_count Rel) (h_trace : st_trace Rel) :
    ∀ (n k : Nat), k ≤ L → L + 1 ≤ k + n → ∀ (U V : ZS), Rel U V → ∀ (ax am : Nat → Nat) (H : Heap) (locs : List Loc), ZW D (fun q : Nat => s.heap.size ≤ q) s.heap (XWc cs ax 10 11 U.1 U.2.1 U.2.2 ++ MW cs am V.1 V.2.1 V.2.2) H locs → ∀ (ls : Array Slot), lv_has ls 4 [(0, .ref b), (1, .ref (ax 0)), (2, .ref (am 0)), (3, .int (nI k))] → W p l e room_1 s m #[Value.ref b] below meth c H locs 68 1239 (lw_Z below #[Value.ref b] s) (F0 m 18 ls []) := by
  obtain ⟨hx, hb, hr, hml, hown, hts, hX, hbl, hlk, hgv⟩ := C0
  have hA : ∀ q : Nat, s.heap.size ≤ q → (fun q : Nat => s.heap.size ≤ q) q := fun _ h => h
  have hbA : ¬ (fun q : Nat => s.heap.size ≤ q) b := Nat.not_le.mpr hbl
  have S : CallFix p m c cL_law 4 s #[Value.ref b] zWs RL := ⟨hx, hb, hml, hown, fun w hw => hts w (List.mem_filter.mp hw).1⟩
  intro n
  induction n with
  | zero =>
    intro k h1 h2
    exact absurd h2 (by omega)
  | succ n ih =>
    intro k hk hkn U V hR ax am H locs w ls hl
    refine lv_iload_n S.1 S.2.1 dL_law_18 rfl (lv_at hl 3 rfl) ?_
    refine lv_aload_n S.1 S.2.1 dL_law_19 rfl (lv_at hl 0 rfl) ?_
    refine va_slen S.1 S.2.1 hX hbl hbA w.2.2 dL_law_20 ?_
    refine lv_iconst (v := 5) S.1 S.2.1 dL_law_21 (by decide) ?_
    refine lv_isub S.1 S.2.1 dL_law_22 ?_
    refine lv_icmp_gt (tgt := 1032) S.1 S.2.1 dL_law_23 (by decide) (fun c1 => ?_) (fun c1 => ?_)
    · refine lv_iconst (v := 1) S.1 S.2.1 dL_law_1032 (by decide) ?_
      refine va_forget (fun q hq => w.2.2.2.2 q hq) ?_
      exact lw_ret hx hb hr hlk dL_law_1033
    have hk5 : k + 5 ≤ L := by
      rcases Nat.lt_or_ge L (k + 5) with q | q
      · exact absurd (by
          have e : (Int32.ofNat L - 5 : Int32) = nI L - nI 5 := rfl
          rw [e, Int32.lt_iff_toInt_lt, pk_sub_toInt (by omega) (by omega), nI_toInt (by omega)]
          omega) c1
      · exact q
    have g0 : vp_in (nI k) L := vp_in_nI (by omega) (by omega)
    have g1 : vp_in (nI k + 1) L := by rw [show nI k + 1 = nI (k + 1) from nI_add k 1]; exact vp_in_nI (by omega) (by omega)
    have g2 : vp_in (nI k + 2) L := by rw [show nI k + 2 = nI (k + 2) from nI_add k 2]; exact vp_in_nI (by omega) (by omega)
    have g3 : vp_in (nI k + 3) L := by rw [show nI k + 3 = nI (k + 3) from nI_add k 3]; exact vp_in_nI (by omega) (by omega)
    have g4 : vp_in (nI k + 4) L := by rw [show nI k + 4 = nI (k + 4) from nI_add k 4]; exact vp_in_nI (by omega) (by omega)
    have nxt : ∀ (U V : ZS), Rel U V → ∀ (ax am : Nat → Nat) (H : Heap) (locs : List Loc), ZW D (fun q : Nat => s.heap.size ≤ q) s.heap (XWc cs ax 10 11 U.1 U.2.1 U.2.2 ++ MW cs am V.1 V.2.1 V.2.2) H locs → ∀ (ls : Array Slot), lv_has ls 4 [(0, .ref b), (1, .ref (ax 0)), (2, .ref (am 0)), (3, .int (nI k))] → W p l e room_1 s m #[Value.ref b] below meth c H locs 68 1239 (lw_Z below #[Value.ref b] s) (F0 m 1026 ls []) := by
      intro U V hR ax am H locs w ls hl
      refine lv_iinc (v := nI (k + 5)) (lv' := [(3, .int (nI (k + 5))), (0, .ref b), (1, .ref (ax 0)), (2, .ref (am 0))]) S.1 S.2.1 dL_law_1026 hl (k := 3) rfl (nI_add k 5) (by decide) rfl (fun ls hl => ?_)
      refine lv_goto (tgt := 18) S.1 S.2.1 dL_law_1029 (by decide) ?_
      exact ih (k + 5) hk5 (by omega) U V hR ax am H locs w ls (lv_sub hl [1, 2, 3, 0] rfl)
    refine lv_aload_n S.1 S.2.1 dL_law_26 rfl (lv_at hl 0 rfl) ?_
    refine lv_iload_n S.1 S.2.1 dL_law_27 rfl (lv_at hl 3 rfl) ?_
    refine va_sld S.1 S.2.1 hX hbl hbA w.2.2 g0 dL_law_28 ?_
    refine lv_bipush (v := 31) S.1 S.2.1 dL_law_29 (by decide) ?_
    refine lv_iand S.1 S.2.1 dL_law_31 ?_
    by_cases c_0 : xs (nI k).toNatClampNeg &&& 31 = (0 : Int32)
    · refine lv_tableIn (tgt := 172) S.1 S.2.1 dL_law_32 (by rw [c_0]; decide) (by rw [c_0]; decide) (off := 140) (by rw [c_0]; decide) (by decide) ?_
      obtain ⟨q, r, e1, e2, e3, hR2⟩ := h_type (xs (nI k + 1).toNatClampNeg) U V hR
      refine lv_aload_n S.1 S.2.1 dL_law_172 rfl (lv_at hl 1 rfl) ?_
      refine lv_aload_n S.1 S.2.1 dL_law_173 rfl (lv_at hl 0 rfl) ?_
      refine lv_iload_n S.1 S.2.1 dL_law_174 rfl (lv_at hl 3 rfl) ?_
      refine lv_iconst (v := 1) S.1 S.2.1 dL_law_175 (by decide) ?_
      refine lv_iadd S.1 S.2.1 dL_law_176 ?_
      refine va_sld S.1 S.2.1 hX hbl hbA w.2.2 g1 dL_law_177 ?_
      refine fX_i S K w hA (c_X10_type l D cs ax U.1 U.2.1 U.2.2 (xs (nI k + 1).toNatClampNeg) q e1) (cw_L_13 S.2.2.2.2 ⟨(Nat.le_of_ble_eq_true rfl), (Nat.le_of_ble_eq_true rfl)⟩) rfl hl.1 rfl (Nat.le_of_ble_eq_true rfl) ⟨(Nat.le_of_ble_eq_true rfl), (Nat.le_of_ble_eq_true rfl)⟩ dL_law_178 (fun H locs w => ?_)
      refine lv_aload_n S.1 S.2.1 dL_law_181 rfl (lv_at hl 2 rfl) ?_
      refine lv_aload_n S.1 S.2.1 dL_law_182 rfl (lv_at hl 0 rfl) ?_
      refine lv_iload_n S.1 S.2.1 dL_law_183 rfl (lv_at hl 3 rfl) ?_
      refine lv_iconst (v := 1) S.1 S.2.1 dL_law_184 (by decide) ?_
      refine lv_iadd S.1 S.2.1 dL_law_185 ?_
      refine va_sld S.1 S.2.1 hX hbl hbA w.2.2 g1 dL_law_186 ?_
      refine fM_i S K w hA (c_X11_type l D cs am V.1 V.2.1 V.2.2 (xs (nI k + 1).toNatClampNeg) r e2) (cw_L_17 S.2.2.2.2 ⟨(Nat.le_of_ble_eq_true rfl), (Nat.le_of_ble_eq_true rfl)⟩) rfl hl.1 rfl (Nat.le_of_ble_eq_true rfl) ⟨(Nat.le_of_ble_eq_true rfl), (Nat.le_of_ble_eq_true rfl)⟩ dL_law_187 (fun H locs w => ?_)
      refine lv_icmp_eq (tgt := 1026) S.1 S.2.1 dL_law_190 (by decide) (fun c2 => ?_) (fun c2 => ?_)
      · exact nxt q.2 r.2 hR2 ax am _ _ w ls hl
      · exact absurd e3 c2
    by_cases c_1 : xs (nI k).toNatClampNeg &&& 31 = (1 : Int32)
    · refine lv_tableIn (tgt := 195) S.1 S.2.1 dL_law_32 (by rw [c_1]; decide) (by rw [c_1]; decide) (off := 163) (by rw [c_1]; decide) (by decide) ?_
      obtain ⟨q, r, e1, e2, e3, hR2⟩ := h_clear U V hR
      refine lv_aload_n S.1 S.2.1 dL_law_195 rfl (lv_at hl 1 rfl) ?_
      refine fX_i S K w hA (c_X10_clear l D cs ax U.1 U.2.1 U.2.2 q e1) (cw_L_18 S.2.2.2.2 ⟨(Nat.le_of_ble_eq_true rfl), (Nat.le_of_ble_eq_true rfl)⟩) rfl hl.1 rfl (Nat.le_of_ble_eq_true rfl) ⟨(Nat.le_of_ble_eq_true rfl), (Nat.le_of_ble_eq_true rfl)⟩ dL_law_196 (fun H locs w => ?_)
      refine lv_aload_n S.1 S.2.1 dL_law_199 rfl (lv_at hl 2 rfl) ?_
      refine fM_i S K w hA (c_X11_clear l D cs am V.1 V.2.1 V.2.2 r e2) (cw_L_22 S.2.2.2.2 ⟨(Nat.le_of_ble_eq_true rfl), (Nat.le_of_ble_eq_true rfl)⟩) rfl hl.1 rfl (Nat.le_of_ble_eq_true rfl) ⟨(Nat.le_of_ble_eq_true rfl), (Nat.le_of_ble_eq_true rfl)⟩ dL_law_200 (fun H locs w => ?_)
      refine lv_icmp_eq (tgt := 1026) S.1 S.2.1 dL_law_203 (by decide) (fun c2 => ?_) (fun c2 => ?_)
      · exact nxt q.2 r.2 hR2 ax am _ _ w ls hl
      · exact absurd e3 c2
    by_cases c_2 : xs (nI k).toNatClampNeg &&& 31 = (2 : Int32)
    · refine lv_tableIn (tgt := 208) S.1 S.2.1 dL_law_32 (by rw [c_2]; decide) (by rw [c_2]; decide) (off := 176) (by rw [c_2]; decide) (by decide) ?_
      obtain ⟨q, r, e1, e2, e3, hR2⟩ := h_court U V hR
      refine lv_aload_n S.1 S.2.1 dL_law_208 rfl (lv_at hl 1 rfl) ?_
      refine fX_c S K w hA (c_X10_court l D cs ax U.1 U.2.1 U.2.2 q e1) (cw_L_23 S.2.2.2.2 ⟨(Nat.le_of_ble_eq_true rfl), (Nat.le_of_ble_eq_true rfl)⟩) rfl hl.1 rfl (Nat.le_of_ble_eq_true rfl) ⟨(Nat.le_of_ble_eq_true rfl), (Nat.le_of_ble_eq_true rfl)⟩ dL_law_209 (fun ay hay H locs w => ?_)
      rw [← hay] at hl
      refine lv_aload_n S.1 S.2.1 dL_law_212 rfl (lv_at hl 2 rfl) ?_
      refine fM_i S K w hA (c_X11_court l D cs am V.1 V.2.1 V.2.2 r e2) (cw_L_26 S.2.2.2.2 ⟨(Nat.le_of_ble_eq_true rfl), (Nat.le_of_ble_eq_true rfl)⟩) rfl hl.1 rfl (Nat.le_of_ble_eq_true rfl) ⟨(Nat.le_of_ble_eq_true rfl), (Nat.le_of_ble_eq_true rfl)⟩ dL_law_213 (fun H locs w => ?_)
      refine lv_icmp_eq (tgt := 1026) S.1 S.2.1 dL_law_216 (by decide) (fun c2 => ?_) (fun c2 => ?_)
      · exact nxt q.2 r.2 hR2 ay am _ _ w ls hl
      · exact absurd e3 c2
    by_cases c_3 : xs (nI k).toNatClampNeg &&& 31 = (3 : Int32)
    · refine lv_tableIn (tgt := 221) S.1 S.2.1 dL_law_32 (by rw [c_3]; decide) (by rw [c_3]; decide) (off := 189) (by rw [c_3]; decide) (by decide) ?_
      obtain ⟨q, r, e1, e2, e3, hR2⟩ := h_suspect (xs (nI k + 1).toNatClampNeg) (xs (nI k + 2).toNatClampNeg) U V hR
      refine lv_aload_n S.1 S.2.1 dL_law_221 rfl (lv_at hl 1 rfl) ?_
      refine lv_aload_n S.1 S.2.1 dL_law_222 rfl (lv_at hl 0 rfl) ?_
      refine lv_iload_n S.1 S.2.1 dL_law_223 rfl (lv_at hl 3 rfl) ?_
      refine lv_iconst (v := 1) S.1 S.2.1 dL_law_224 (by decide) ?_
      refine lv_iadd S.1 S.2.1 dL_law_225 ?_
      refine va_sld S.1 S.2.1 hX hbl hbA w.2.2 g1 dL_law_226 ?_
      refine lv_aload_n S.1 S.2.1 dL_law_227 rfl (lv_at hl 0 rfl) ?_
      refine lv_iload_n S.1 S.2.1 dL_law_228 rfl (lv_at hl 3 rfl) ?_
      refine lv_iconst (v := 2) S.1 S.2.1 dL_law_229 (by decide) ?_
      refine lv_iadd S.1 S.2.1 dL_law_230 ?_
      refine va_sld S.1 S.2.1 hX hbl hbA w.2.2 g2 dL_law_231 ?_
      refine fX_i S K w hA (c_X10_suspect l D cs ax U.1 U.2.1 U.2.2 (xs (nI k + 1).toNatClampNeg) (xs (nI k + 2).toNatClampNeg) q e1) (cw_L_27 S.2.2.2.2 ⟨(Nat.le_of_ble_eq_true rfl), (Nat.le_of_ble_eq_true rfl)⟩) rfl hl.1 rfl (Nat.le_of_ble_eq_true rfl) ⟨(Nat.le_of_ble_eq_true rfl), (Nat.le_of_ble_eq_true rfl)⟩ dL_law_232 (fun H locs w => ?_)
      refine lv_aload_n S.1 S.2.1 dL_law_235 rfl (lv_at hl 2 rfl) ?_
      refine lv_aload_n S.1 S.2.1 dL_law_236 rfl (lv_at hl 0 rfl) ?_
      refine lv_iload_n S.1 S.2.1 dL_law_237 rfl (lv_at hl 3 rfl) ?_
      refine lv_iconst (v := 1) S.1 S.2.1 dL_law_238 (by decide) ?_
      refine lv_iadd S.1 S.2.1 dL_law_239 ?_
      refine va_sld S.1 S.2.1 hX hbl hbA w.2.2 g1 dL_law_240 ?_
      refine lv_aload_n S.1 S.2.1 dL_law_241 rfl (lv_at hl 0 rfl) ?_
      refine lv_iload_n S.1 S.2.1 dL_law_242 rfl (lv_at hl 3 rfl) ?_
      refine lv_iconst (v := 2) S.1 S.2.1 dL_law_243 (by decide) ?_
      refine lv_iadd S.1 S.2.1 dL_law_244 ?_
      refine va_sld S.1 S.2.1 hX hbl hbA w.2.2 g2 dL_law_245 ?_
      refine fM_i S K w hA (c_X11_suspect l D cs am V.1 V.2.1 V.2.2 (xs (nI k + 1).toNatClampNeg) (xs (nI k + 2).toNatClampNeg) r e2) (cw_L_31 S.2.2.2.2 ⟨(Nat.le_of_ble_eq_true rfl), (Nat.le_of_ble_eq_true rfl)⟩) rfl hl.1 rfl (Nat.le_of_ble_eq_true rfl) ⟨(Nat.le_of_ble_eq_true rfl), (Nat.le_of_ble_eq_true rfl)⟩ dL_law_246 (fun H locs w => ?_)
      refine lv_icmp_eq (tgt := 1026) S.1 S.2.1 dL_law_249 (by decide) (fun c2 => ?_) (fun c2 => ?_)
      · exact nxt q.2 r.2 hR2 ax am _ _ w ls hl
      · exact absurd e3 c2
    by_cases c_4 : xs (nI k).toNatClampNeg &&& 31 = (4 : Int32)
    · refine lv_tableIn (tgt := 254) S.1 S.2.1 dL_law_32 (by rw [c_4]; decide) (by rw [c_4]; decide) (off := 222) (by rw [c_4]; decide) (by decide) ?_
      obtain ⟨q, r, e1, e2, e3, hR2⟩ := h_fact (xs (nI k + 1).toNatClampNeg) (xs (nI k + 2).toNatClampNeg) U V hR
      refine lv_aload_n S.1 S.2.1 dL_law_254 rfl (lv_at hl 1 rfl) ?_
      refine lv_aload_n S.1 S.2.1 dL_law_255 rfl (lv_at hl 0 rfl) ?_
      refine lv_iload_n S.1 S.2.1 dL_law_256 rfl (lv_at hl 3 rfl) ?_
      refine lv_iconst (v := 1) S.1 S.2.1 dL_law_257 (by decide) ?_
      refine lv_iadd S.1 S.2.1 dL_law_258 ?_
      refine va_sld S.1 S.2.1 hX hbl hbA w.2.2 g1 dL_law_259 ?_
      refine lv_aload_n S.1 S.2.1 dL_law_260 rfl (lv_at hl 0 rfl) ?_
      refine lv_iload_n S.1 S.2.1 dL_law_261 rfl (lv_at hl 3 rfl) ?_
      refine lv_iconst (v := 2) S.1 S.2.1 dL_law_262 (by decide) ?_
      refine lv_iadd S.1 S.2.1 dL_law_263 ?_
      refine va_sld S.1 S.2.1 hX hbl hbA w.2.2 g2 dL_law_264 ?_
      refine fX_i S K w hA (c_X10_fact l D cs ax U.1 U.2.1 U.2.2 (xs (nI k + 1).toNatClampNeg) (xs (nI k + 2).toNatClampNeg) q.1 e1.1) (cw_L_32 S.2.2.2.2 ⟨(Nat.le_of_ble_eq_true rfl), (Nat.le_of_ble_eq_true rfl)⟩) rfl hl.1 rfl (Nat.le_of_ble_eq_true rfl) ⟨(Nat.le_of_ble_eq_true rfl), (Nat.le_of_ble_eq_true rfl)⟩ dL_law_265 (fun H locs w => ?_)
      refine lv_aload_n S.1 S.2.1 dL_law_268 rfl (lv_at hl 2 rfl) ?_
      refine lv_aload_n S.1 S.2.1 dL_law_269 rfl (lv_at hl 0 rfl) ?_
      refine lv_iload_n S.1 S.2.1 dL_law_270 rfl (lv_at hl 3 rfl) ?_
      refine lv_iconst (v := 1) S.1 S.2.1 dL_law_271 (by decide) ?_
      refine lv_iadd S.1 S.2.1 dL_law_272 ?_
      refine va_sld S.1 S.2.1 hX hbl hbA w.2.2 g1 dL_law_273 ?_
      refine lv_aload_n S.1 S.2.1 dL_law_274 rfl (lv_at hl 0 rfl) ?_
      refine lv_iload_n S.1 S.2.1 dL_law_275 rfl (lv_at hl 3 rfl) ?_
      refine lv_iconst (v := 2) S.1 S.2.1 dL_law_276 (by decide) ?_
      refine lv_iadd S.1 S.2.1 dL_law_277 ?_
      refine va_sld S.1 S.2.1 hX hbl hbA w.2.2 g2 dL_law_278 ?_
      refine fM_i S K w hA (c_X11_fact l D cs am V.1 V.2.1 V.2.2 (xs (nI k + 1).toNatClampNeg) (xs (nI k + 2).toNatClampNeg) r.1 e2.1) (cw_L_35 S.2.2.2.2 ⟨(Nat.le_of_ble_eq_true rfl), (Nat.le_of_ble_eq_true rfl)⟩) rfl hl.1 rfl (Nat.le_of_ble_eq_true rfl) ⟨(Nat.le_of_ble_eq_true rfl), (Nat.le_of_ble_eq_true rfl)⟩ dL_law_279 (fun H locs w => ?_)
      rw [e1.2, e2.2] at hR2
      refine lv_icmp_eq (tgt := 1026) S.1 S.2.1 dL_law_282 (by decide) (fun c2 => ?_) (fun c2 => ?_)
      · exact nxt U V hR2 ax am _ _ w ls hl
      · exact absurd e3 c2
    by_cases c_5 : xs (nI k).toNatClampNeg &&& 31 = (5 : Int32)
    · refine lv_tableIn (tgt := 287) S.1 S.2.1 dL_law_32 (by rw [c_5]; decide) (by rw [c_5]; decide) (off := 255) (by rw [c_5]; decide) (by decide) ?_
      obtain ⟨q, r, e1, e2, e3, hR2⟩ := h_moves (xs (nI k + 1).toNatClampNeg) (xs (nI k + 2).toNatClampNeg) U V hR
      refine lv_aload_n S.1 S.2.1 dL_law_287 rfl (lv_at hl 1 rfl) ?_
      refine lv_aload_n S.1 S.2.1 dL_law_288 rfl (lv_at hl 0 rfl) ?_
      refine lv_iload_n S.1 S.2.1 dL_law_289 rfl (lv_at hl 3 rfl) ?_
      refine lv_iconst (v := 1) S.1 S.2.1 dL_law_290 (by decide) ?_
      refine lv_iadd S.1 S.2.1 dL_law_291 ?_
      refine va_sld S.1 S.2.1 hX hbl hbA w.2.2 g1 dL_law_292 ?_
      refine lv_aload_n S.1 S.2.1 dL_law_293 rfl (lv_at hl 0 rfl) ?_
      refine lv_iload_n S.1 S.2.1 dL_law_294 rfl (lv_at hl 3 rfl) ?_
      refine lv_iconst (v := 2) S.1 S.2.1 dL_law_295 (by decide) ?_
      refine lv_iadd S.1 S.2.1 dL_law_296 ?_
      refine va_sld S.1 S.2.1 hX hbl hbA w.2.2 g2 dL_law_297 ?_
      refine fX_i S K w hA (c_X10_moves l D cs ax U.1 U.2.1 U.2.2 (xs (nI k + 1).toNatClampNeg) (xs (nI k + 2).toNatClampNeg) q.1 e1.1) (cw_L_36 S.2.2.2.2 ⟨(Nat.le_of_ble_eq_true rfl), (Nat.le_of_ble_eq_true rfl)⟩) rfl hl.1 rfl (Nat.le_of_ble_eq_true rfl) ⟨(Nat.le_of_ble_eq_true rfl), (Nat.le_of_ble_eq_true rfl)⟩ dL_law_298 (fun H locs w => ?_)
      refine lv_aload_n S.1 S.2.1 dL_law_301 rfl (lv_at hl 2 rfl) ?_
      refine lv_aload_n S.1 S.2.1 dL_law_302 rfl (lv_at hl 0 rfl) ?_
      refine lv_iload_n S.1 S.2.1 dL_law_303 rfl (lv_at hl 3 rfl) ?_
      refine lv_iconst (v := 1) S.1 S.2.1 dL_law_304 (by decide) ?_
      refine lv_iadd S.1 S.2.1 dL_law_305 ?_
      refine va_sld S.1 S.2.1 hX hbl hbA w.2.2 g1 dL_law_306 ?_
      refine lv_aload_n S.1 S.2.1 dL_law_307 rfl (lv_at hl 0 rfl) ?_
      refine lv_iload_n S.1 S.2.1 dL_law_308 rfl (lv_at hl 3 rfl) ?_
      refine lv_iconst (v := 2) S.1 S.2.1 dL_law_309 (by decide) ?_
      refine lv_iadd S.1 S.2.1 dL_law_310 ?_
      refine va_sld S.1 S.2.1 hX hbl hbA w.2.2 g2 dL_law_311 ?_
      refine fM_i S K w hA (c_X11_moves l D cs am V.1 V.2.1 V.2.2 (xs (nI k + 1).toNatClampNeg) (xs (nI k + 2).toNatClampNeg) r.1 e2.1) (cw_L_39 S.2.2.2.2 ⟨(Nat.le_of_ble_eq_true rfl), (Nat.le_of_ble_eq_true rfl)⟩) rfl hl.1 rfl (Nat.le_of_ble_eq_true rfl) ⟨(Nat.le_of_ble_eq_true rfl), (Nat.le_of_ble_eq_true rfl)⟩ dL_law_312 (fun H locs w => ?_)
      rw [e1.2, e2.2] at hR2
      refine lv_icmp_eq (tgt := 1026) S.1 S.2.1 dL_law_315 (by decide) (fun c2 => ?_) (fun c2 => ?_)
      · exact nxt U V hR2 ax am _ _ w ls hl
      · exact absurd e3 c2
    by_cases c_6 : xs (nI k).toNatClampNeg &&& 31 = (6 : Int32)
    · refine lv_tableIn (tgt := 320) S.1 S.2.1 dL_law_32 (by rw [c_6]; decide) (by rw [c_6]; decide) (off := 288) (by rw [c_6]; decide) (by decide) ?_
      obtain ⟨q, r, e1, e2, e3, hR2⟩ := h_alibi (xs (nI k + 1).toNatClampNeg) (xs (nI k + 2).toNatClampNeg) U V hR
      refine lv_aload_n S.1 S.2.1 dL_law_320 rfl (lv_at hl 1 rfl) ?_
      refine lv_aload_n S.1 S.2.1 dL_law_321 rfl (lv_at hl 0 rfl) ?_
      refine lv_iload_n S.1 S.2.1 dL_law_322 rfl (lv_at hl 3 rfl) ?_
      refine lv_iconst (v := 1) S.1 S.2.1 dL_law_323 (by decide) ?_
      refine lv_iadd S.1 S.2.1 dL_law_324 ?_
      refine va_sld S.1 S.2.1 hX hbl hbA w.2.2 g1 dL_law_325 ?_
      refine lv_aload_n S.1 S.2.1 dL_law_326 rfl (lv_at hl 0 rfl) ?_
      refine lv_iload_n S.1 S.2.1 dL_law_327 rfl (lv_at hl 3 rfl) ?_
      refine lv_iconst (v := 2) S.1 S.2.1 dL_law_328 (by decide) ?_
      refine lv_iadd S.1 S.2.1 dL_law_329 ?_
      refine va_sld S.1 S.2.1 hX hbl hbA w.2.2 g2 dL_law_330 ?_
      refine fX_i S K w hA (c_X10_alibi l D cs ax U.1 U.2.1 U.2.2 (xs (nI k + 1).toNatClampNeg) (xs (nI k + 2).toNatClampNeg) q.1 e1.1) (cw_L_40 S.2.2.2.2 ⟨(Nat.le_of_ble_eq_true rfl), (Nat.le_of_ble_eq_true rfl)⟩) rfl hl.1 rfl (Nat.le_of_ble_eq_true rfl) ⟨(Nat.le_of_ble_eq_true rfl), (Nat.le_of_ble_eq_true rfl)⟩ dL_law_331 (fun H locs w => ?_)
      refine lv_aload_n S.1 S.2.1 dL_law_334 rfl (lv_at hl 2 rfl) ?_
      refine lv_aload_n S.1 S.2.1 dL_law_335 rfl (lv_at hl 0 rfl) ?_
      refine lv_iload_n S.1 S.2.1 dL_law_336 rfl (lv_at hl 3 rfl) ?_
      refine lv_iconst (v := 1) S.1 S.2.1 dL_law_337 (by decide) ?_
      refine lv_iadd S.1 S.2.1 dL_law_338 ?_
      refine va_sld S.1 S.2.1 hX hbl hbA w.2.2 g1 dL_law_339 ?_
      refine lv_aload_n S.1 S.2.1 dL_law_340 rfl (lv_at hl 0 rfl) ?_
      refine lv_iload_n S.1 S.2.1 dL_law_341 rfl (lv_at hl 3 rfl) ?_
      refine lv_iconst (v := 2) S.1 S.2.1 dL_law_342 (by decide) ?_
      refine lv_iadd S.1 S.2.1 dL_law_343 ?_
      refine va_sld S.1 S.2.1 hX hbl hbA w.2.2 g2 dL_law_344 ?_
      refine fM_i S K w hA (c_X11_alibi l D cs am V.1 V.2.1 V.2.2 (xs (nI k + 1).toNatClampNeg) (xs (nI k + 2).toNatClampNeg) r.1 e2.1) (cw_L_43 S.2.2.2.2 ⟨(Nat.le_of_ble_eq_true rfl), (Nat.le_of_ble_eq_true rfl)⟩) rfl hl.1 rfl (Nat.le_of_ble_eq_true rfl) ⟨(Nat.le_of_ble_eq_true rfl), (Nat.le_of_ble_eq_true rfl)⟩ dL_law_345 (fun H locs w => ?_)
      rw [e1.2, e2.2] at hR2
      refine lv_icmp_eq (tgt := 1026) S.1 S.2.1 dL_law_348 (by decide) (fun c2 => ?_) (fun c2 => ?_)
      · exact nxt U V hR2 ax am _ _ w ls hl
      · exact absurd e3 c2
    by_cases c_7 : xs (nI k).toNatClampNeg &&& 31 = (7 : Int32)
    · refine lv_tableIn (tgt := 353) S.1 S.2.1 dL_law_32 (by rw [c_7]; decide) (by rw [c_7]; decide) (off := 321) (by rw [c_7]; decide) (by decide) ?_
      obtain ⟨q, r, e1, e2, e3, hR2⟩ := h_find (xs (nI k + 1).toNatClampNeg) (xs (nI k + 2).toNatClampNeg) U V hR
      refine lv_aload_n S.1 S.2.1 dL_law_353 rfl (lv_at hl 1 rfl) ?_
      refine lv_aload_n S.1 S.2.1 dL_law_354 rfl (lv_at hl 0 rfl) ?_
      refine lv_iload_n S.1 S.2.1 dL_law_355 rfl (lv_at hl 3 rfl) ?_
      refine lv_iconst (v := 1) S.1 S.2.1 dL_law_356 (by decide) ?_
      refine lv_iadd S.1 S.2.1 dL_law_357 ?_
      refine va_sld S.1 S.2.1 hX hbl hbA w.2.2 g1 dL_law_358 ?_
      refine lv_aload_n S.1 S.2.1 dL_law_359 rfl (lv_at hl 0 rfl) ?_
      refine lv_iload_n S.1 S.2.1 dL_law_360 rfl (lv_at hl 3 rfl) ?_
      refine lv_iconst (v := 2) S.1 S.2.1 dL_law_361 (by decide) ?_
      refine lv_iadd S.1 S.2.1 dL_law_362 ?_
      refine va_sld S.1 S.2.1 hX hbl hbA w.2.2 g2 dL_law_363 ?_
      refine fX_i S K w hA (c_X10_find l D cs ax U.1 U.2.1 U.2.2 (xs (nI k + 1).toNatClampNeg) (xs (nI k + 2).toNatClampNeg) q e1) (cw_L_44 S.2.2.2.2 ⟨(Nat.le_of_ble_eq_true rfl), (Nat.le_of_ble_eq_true rfl)⟩) rfl hl.1 rfl (Nat.le_of_ble_eq_true rfl) ⟨(Nat.le_of_ble_eq_true rfl), (Nat.le_of_ble_eq_true rfl)⟩ dL_law_364 (fun H locs w => ?_)
      refine lv_aload_n S.1 S.2.1 dL_law_367 rfl (lv_at hl 2 rfl) ?_
      refine lv_aload_n S.1 S.2.1 dL_law_368 rfl (lv_at hl 0 rfl) ?_
      refine lv_iload_n S.1 S.2.1 dL_law_369 rfl (lv_at hl 3 rfl) ?_
      refine lv_iconst (v := 1) S.1 S.2.1 dL_law_370 (by decide) ?_
      refine lv_iadd S.1 S.2.1 dL_law_371 ?_
      refine va_sld S.1 S.2.1 hX hbl hbA w.2.2 g1 dL_law_372 ?_
      refine lv_aload_n S.1 S.2.1 dL_law_373 rfl (lv_at hl 0 rfl) ?_
      refine lv_iload_n S.1 S.2.1 dL_law_374 rfl (lv_at hl 3 rfl) ?_
      refine lv_iconst (v := 2) S.1 S.2.1 dL_law_375 (by decide) ?_
      refine lv_iadd S.1 S.2.1 dL_law_376 ?_
      refine va_sld S.1 S.2.1 hX hbl hbA w.2.2 g2 dL_law_377 ?_
      refine fM_i S K w hA (c_X11_find l D cs am V.1 V.2.1 V.2.2 (xs (nI k + 1).toNatClampNeg) (xs (nI k + 2).toNatClampNeg) r e2) (cw_L_47 S.2.2.2.2 ⟨(Nat.le_of_ble_eq_true rfl), (Nat.le_of_ble_eq_true rfl)⟩) rfl hl.1 rfl (Nat.le_of_ble_eq_true rfl) ⟨(Nat.le_of_ble_eq_true rfl), (Nat.le_of_ble_eq_true rfl)⟩ dL_law_378 (fun H locs w => ?_)
      refine lv_icmp_eq (tgt := 1026) S.1 S.2.1 dL_law_381 (by decide) (fun c2 => ?_) (fun c2 => ?_)
      · exact nxt q.2 r.2 hR2 ax am _ _ w ls hl
      · exact absurd e3 c2
    by_cases c_8 : xs (nI k).toNatClampNeg &&& 31 = (8 : Int32)
    · refine lv_tableIn (tgt := 386) S.1 S.2.1 dL_law_32 (by rw [c_8]; decide) (by rw [c_8]; decide) (off := 354) (by rw [c_8]; decide) (by decide) ?_
      obtain ⟨q, r, e1, e2, e3, hR2⟩ := h_hear (xs (nI k + 1).toNatClampNeg) (xs (nI k + 2).toNatClampNeg) U V hR
      refine lv_aload_n S.1 S.2.1 dL_law_386 rfl (lv_at hl 1 rfl) ?_
      refine lv_aload_n S.1 S.2.1 dL_law_387 rfl (lv_at hl 0 rfl) ?_
      refine lv_iload_n S.1 S.2.1 dL_law_388 rfl (lv_at hl 3 rfl) ?_
      refine lv_iconst (v := 1) S.1 S.2.1 dL_law_389 (by decide) ?_
      refine lv_iadd S.1 S.2.1 dL_law_390 ?_
      refine va_sld S.1 S.2.1 hX hbl hbA w.2.2 g1 dL_law_391 ?_
      refine lv_aload_n S.1 S.2.1 dL_law_392 rfl (lv_at hl 0 rfl) ?_
      refine lv_iload_n S.1 S.2.1 dL_law_393 rfl (lv_at hl 3 rfl) ?_
      refine lv_iconst (v := 2) S.1 S.2.1 dL_law_394 (by decide) ?_
      refine lv_iadd S.1 S.2.1 dL_law_395 ?_
      refine va_sld S.1 S.2.1 hX hbl hbA w.2.2 g2 dL_law_396 ?_
      refine fX_i S K w hA (c_X10_hear l D cs ax U.1 U.2.1 U.2.2 (xs (nI k + 1).toNatClampNeg) (xs (nI k + 2).toNatClampNeg) q e1) (cw_L_48 S.2.2.2.2 ⟨(Nat.le_of_ble_eq_true rfl), (Nat.le_of_ble_eq_true rfl)⟩) rfl hl.1 rfl (Nat.le_of_ble_eq_true rfl) ⟨(Nat.le_of_ble_eq_true rfl), (Nat.le_of_ble_eq_true rfl)⟩ dL_law_397 (fun H locs w => ?_)
      refine lv_aload_n S.1 S.2.1 dL_law_400 rfl (lv_at hl 2 rfl) ?_
      refine lv_aload_n S.1 S.2.1 dL_law_401 rfl (lv_at hl 0 rfl) ?_
      refine lv_iload_n S.1 S.2.1 dL_law_402 rfl (lv_at hl 3 rfl) ?_
      refine lv_iconst (v := 1) S.1 S.2.1 dL_law_403 (by decide) ?_
      refine lv_iadd S.1 S.2.1 dL_law_404 ?_
      refine va_sld S.1 S.2.1 hX hbl hbA w.2.2 g1 dL_law_405 ?_
      refine lv_aload_n S.1 S.2.1 dL_law_406 rfl (lv_at hl 0 rfl) ?_
      refine lv_iload_n S.1 S.2.1 dL_law_407 rfl (lv_at hl 3 rfl) ?_
      refine lv_iconst (v := 2) S.1 S.2.1 dL_law_408 (by decide) ?_
      refine lv_iadd S.1 S.2.1 dL_law_409 ?_
      refine va_sld S.1 S.2.1 hX hbl hbA w.2.2 g2 dL_law_410 ?_
      refine fM_i S K w hA (c_X11_hear l D cs am V.1 V.2.1 V.2.2 (xs (nI k + 1).toNatClampNeg) (xs (nI k + 2).toNatClampNeg) r e2) (cw_L_51 S.2.2.2.2 ⟨(Nat.le_of_ble_eq_true rfl), (Nat.le_of_ble_eq_true rfl)⟩) rfl hl.1 rfl (Nat.le_of_ble_eq_true rfl) ⟨(Nat.le_of_ble_eq_true rfl), (Nat.le_of_ble_eq_true rfl)⟩ dL_law_411 (fun H locs w => ?_)
      refine lv_icmp_eq (tgt := 1026) S.1 S.2.1 dL_law_414 (by decide) (fun c2 => ?_) (fun c2 => ?_)
      · exact nxt q.2 r.2 hR2 ax am _ _ w ls hl
      · exact absurd e3 c2
    by_cases c_9 : xs (nI k).toNatClampNeg &&& 31 = (9 : Int32)
    · refine lv_tableIn (tgt := 419) S.1 S.2.1 dL_law_32 (by rw [c_9]; decide) (by rw [c_9]; decide) (off := 387) (by rw [c_9]; decide) (by decide) ?_
      obtain ⟨q, r, e1, e2, e3, hR2⟩ := h_days (xs (nI k + 1).toNatClampNeg) U V hR
      refine lv_aload_n S.1 S.2.1 dL_law_419 rfl (lv_at hl 1 rfl) ?_
      refine lv_aload_n S.1 S.2.1 dL_law_420 rfl (lv_at hl 0 rfl) ?_
      refine lv_iload_n S.1 S.2.1 dL_law_421 rfl (lv_at hl 3 rfl) ?_
      refine lv_iconst (v := 1) S.1 S.2.1 dL_law_422 (by decide) ?_
      refine lv_iadd S.1 S.2.1 dL_law_423 ?_
      refine va_sld S.1 S.2.1 hX hbl hbA w.2.2 g1 dL_law_424 ?_
      refine fX_i S K w hA (c_X10_days l D cs ax U.1 U.2.1 U.2.2 (xs (nI k + 1).toNatClampNeg) q e1) (cw_L_52 S.2.2.2.2 ⟨(Nat.le_of_ble_eq_true rfl), (Nat.le_of_ble_eq_true rfl)⟩) rfl hl.1 rfl (Nat.le_of_ble_eq_true rfl) ⟨(Nat.le_of_ble_eq_true rfl), (Nat.le_of_ble_eq_true rfl)⟩ dL_law_425 (fun H locs w => ?_)
      refine lv_aload_n S.1 S.2.1 dL_law_428 rfl (lv_at hl 2 rfl) ?_
      refine lv_aload_n S.1 S.2.1 dL_law_429 rfl (lv_at hl 0 rfl) ?_
      refine lv_iload_n S.1 S.2.1 dL_law_430 rfl (lv_at hl 3 rfl) ?_
      refine lv_iconst (v := 1) S.1 S.2.1 dL_law_431 (by decide) ?_
      refine lv_iadd S.1 S.2.1 dL_law_432 ?_
      refine va_sld S.1 S.2.1 hX hbl hbA w.2.2 g1 dL_law_433 ?_
      refine fM_i S K w hA (c_X11_days l D cs am V.1 V.2.1 V.2.2 (xs (nI k + 1).toNatClampNeg) r e2) (cw_L_55 S.2.2.2.2 ⟨(Nat.le_of_ble_eq_true rfl), (Nat.le_of_ble_eq_true rfl)⟩) rfl hl.1 rfl (Nat.le_of_ble_eq_true rfl) ⟨(Nat.le_of_ble_eq_true rfl), (Nat.le_of_ble_eq_true rfl)⟩ dL_law_434 (fun H locs w => ?_)
      refine lv_icmp_eq (tgt := 1026) S.1 S.2.1 dL_law_437 (by decide) (fun c2 => ?_) (fun c2 => ?_)
      · exact nxt q.2 r.2 hR2 ax am _ _ w ls hl
      · exact absurd e3 c2
    by_cases c_10 : xs (nI k).toNatClampNeg &&& 31 = (10 : Int32)
    · refine lv_tableIn (tgt := 442) S.1 S.2.1 dL_law_32 (by rw [c_10]; decide) (by rw [c_10]; decide) (off := 410) (by rw [c_10]; decide) (by decide) ?_
      obtain ⟨q, r, e1, e2, e3, hR2⟩ := h_undo U V hR
      refine lv_aload_n S.1 S.2.1 dL_law_442 rfl (lv_at hl 1 rfl) ?_
      refine fX_i S K w hA (c_X10_undo l D cs ax U.1 U.2.1 U.2.2 q e1) (cw_L_56 S.2.2.2.2 ⟨(Nat.le_of_ble_eq_true rfl), (Nat.le_of_ble_eq_true rfl)⟩) rfl hl.1 rfl (Nat.le_of_ble_eq_true rfl) ⟨(Nat.le_of_ble_eq_true rfl), (Nat.le_of_ble_eq_true rfl)⟩ dL_law_443 (fun H locs w => ?_)
      refine lv_aload_n S.1 S.2.1 dL_law_446 rfl (lv_at hl 2 rfl) ?_
      refine fM_i S K w hA (c_X11_undo l D cs am V.1 V.2.1 V.2.2 r e2) (cw_L_59 S.2.2.2.2 ⟨(Nat.le_of_ble_eq_true rfl), (Nat.le_of_ble_eq_true rfl)⟩) rfl hl.1 rfl (Nat.le_of_ble_eq_true rfl) ⟨(Nat.le_of_ble_eq_true rfl), (Nat.le_of_ble_eq_true rfl)⟩ dL_law_447 (fun H locs w => ?_)
      refine lv_icmp_eq (tgt := 1026) S.1 S.2.1 dL_law_450 (by decide) (fun c2 => ?_) (fun c2 => ?_)
      · exact nxt q.2 r.2 hR2 ax am _ _ w ls hl
      · exact absurd e3 c2
    by_cases c_11 : xs (nI k).toNatClampNeg &&& 31 = (11 : Int32)
    · refine lv_tableIn (tgt := 455) S.1 S.2.1 dL_law_32 (by rw [c_11]; decide) (by rw [c_11]; decide) (off := 423) (by rw [c_11]; decide) (by decide) ?_
      obtain ⟨q, r, e1, e2, e3, hR2⟩ := h_share (xs (nI k + 1).toNatClampNeg) (xs (nI k + 2).toNatClampNeg) U V hR
      refine lv_aload_n S.1 S.2.1 dL_law_455 rfl (lv_at hl 1 rfl) ?_
      refine lv_aload_n S.1 S.2.1 dL_law_456 rfl (lv_at hl 0 rfl) ?_
      refine lv_iload_n S.1 S.2.1 dL_law_457 rfl (lv_at hl 3 rfl) ?_
      refine lv_iconst (v := 1) S.1 S.2.1 dL_law_458 (by decide) ?_
      refine lv_iadd S.1 S.2.1 dL_law_459 ?_
      refine va_sld S.1 S.2.1 hX hbl hbA w.2.2 g1 dL_law_460 ?_
      refine lv_aload_n S.1 S.2.1 dL_law_461 rfl (lv_at hl 0 rfl) ?_
      refine lv_iload_n S.1 S.2.1 dL_law_462 rfl (lv_at hl 3 rfl) ?_
      refine lv_iconst (v := 2) S.1 S.2.1 dL_law_463 (by decide) ?_
      refine lv_iadd S.1 S.2.1 dL_law_464 ?_
      refine va_sld S.1 S.2.1 hX hbl hbA w.2.2 g2 dL_law_465 ?_
      refine fX_i S K w hA (c_X10_share l D cs ax U.1 U.2.1 U.2.2 (xs (nI k + 1).toNatClampNeg) (xs (nI k + 2).toNatClampNeg) q e1) (cw_L_60 S.2.2.2.2 ⟨(Nat.le_of_ble_eq_true rfl), (Nat.le_of_ble_eq_true rfl)⟩) rfl hl.1 rfl (Nat.le_of_ble_eq_true rfl) ⟨(Nat.le_of_ble_eq_true rfl), (Nat.le_of_ble_eq_true rfl)⟩ dL_law_466 (fun H locs w => ?_)
      refine lv_aload_n S.1 S.2.1 dL_law_469 rfl (lv_at hl 2 rfl) ?_
      refine lv_aload_n S.1 S.2.1 dL_law_470 rfl (lv_at hl 0 rfl) ?_
      refine lv_iload_n S.1 S.2.1 dL_law_471 rfl (lv_at hl 3 rfl) ?_
      refine lv_iconst (v := 1) S.1 S.2.1 dL_law_472 (by decide) ?_
      refine lv_iadd S.1 S.2.1 dL_law_473 ?_
      refine va_sld S.1 S.2.1 hX hbl hbA w.2.2 g1 dL_law_474 ?_
      refine lv_aload_n S.1 S.2.1 dL_law_475 rfl (lv_at hl 0 rfl) ?_
      refine lv_iload_n S.1 S.2.1 dL_law_476 rfl (lv_at hl 3 rfl) ?_
      refine lv_iconst (v := 2) S.1 S.2.1 dL_law_477 (by decide) ?_
      refine lv_iadd S.1 S.2.1 dL_law_478 ?_
      refine va_sld S.1 S.2.1 hX hbl hbA w.2.2 g2 dL_law_479 ?_
      refine fM_i S K w hA (c_X11_share l D cs am V.1 V.2.1 V.2.2 (xs (nI k + 1).toNatClampNeg) (xs (nI k + 2).toNatClampNeg) r e2) (cw_L_63 S.2.2.2.2 ⟨(Nat.le_of_ble_eq_true rfl), (Nat.le_of_ble_eq_true rfl)⟩) rfl hl.1 rfl (Nat.le_of_ble_eq_true rfl) ⟨(Nat.le_of_ble_eq_true rfl), (Nat.le_of_ble_eq_true rfl)⟩ dL_law_480 (fun H locs w => ?_)
      refine lv_icmp_eq (tgt := 1026) S.1 S.2.1 dL_law_483 (by decide) (fun c2 => ?_) (fun c2 => ?_)
      · exact nxt q.2 r.2 hR2 ax am _ _ w ls hl
      · exact absurd e3 c2
    by_cases c_12 : xs (nI k).toNatClampNeg &&& 31 = (12 : Int32)
    · refine lv_tableIn (tgt := 488) S.1 S.2.1 dL_law_32 (by rw [c_12]; decide) (by rw [c_12]; decide) (off := 456) (by rw [c_12]; decide) (by decide) ?_
      obtain ⟨q, r, e1, e2, e3, hR2⟩ := h_now (xs (nI k + 1).toNatClampNeg) U V hR
      refine lv_aload_n S.1 S.2.1 dL_law_488 rfl (lv_at hl 1 rfl) ?_
      refine lv_aload_n S.1 S.2.1 dL_law_489 rfl (lv_at hl 0 rfl) ?_
      refine lv_iload_n S.1 S.2.1 dL_law_490 rfl (lv_at hl 3 rfl) ?_
      refine lv_iconst (v := 1) S.1 S.2.1 dL_law_491 (by decide) ?_
      refine lv_iadd S.1 S.2.1 dL_law_492 ?_
      refine va_sld S.1 S.2.1 hX hbl hbA w.2.2 g1 dL_law_493 ?_
      refine fX_i S K w hA (c_X10_now l D cs ax U.1 U.2.1 U.2.2 (xs (nI k + 1).toNatClampNeg) q e1) (cw_L_64 S.2.2.2.2 ⟨(Nat.le_of_ble_eq_true rfl), (Nat.le_of_ble_eq_true rfl)⟩) rfl hl.1 rfl (Nat.le_of_ble_eq_true rfl) ⟨(Nat.le_of_ble_eq_true rfl), (Nat.le_of_ble_eq_true rfl)⟩ dL_law_494 (fun H locs w => ?_)
      refine lv_aload_n S.1 S.2.1 dL_law_497 rfl (lv_at hl 2 rfl) ?_
      refine lv_aload_n S.1 S.2.1 dL_law_498 rfl (lv_at hl 0 rfl) ?_
      refine lv_iload_n S.1 S.2.1 dL_law_499 rfl (lv_at hl 3 rfl) ?_
      refine lv_iconst (v := 1) S.1 S.2.1 dL_law_500 (by decide) ?_
      refine lv_iadd S.1 S.2.1 dL_law_501 ?_
      refine va_sld S.1 S.2.1 hX hbl hbA w.2.2 g1 dL_law_502 ?_
      refine fM_i S K w hA (c_X11_now l D cs am V.1 V.2.1 V.2.2 (xs (nI k + 1).toNatClampNeg) r e2) (cw_L_67 S.2.2.2.2 ⟨(Nat.le_of_ble_eq_true rfl), (Nat.le_of_ble_eq_true rfl)⟩) rfl hl.1 rfl (Nat.le_of_ble_eq_true rfl) ⟨(Nat.le_of_ble_eq_true rfl), (Nat.le_of_ble_eq_true rfl)⟩ dL_law_503 (fun H locs w => ?_)
      refine lv_icmp_eq (tgt := 1026) S.1 S.2.1 dL_law_506 (by decide) (fun c2 => ?_) (fun c2 => ?_)
      · exact nxt q.2 r.2 hR2 ax am _ _ w ls hl
      · exact absurd e3 c2
    by_cases c_13 : xs (nI k).toNatClampNeg &&& 31 = (13 : Int32)
    · refine lv_tableIn (tgt := 511) S.1 S.2.1 dL_law_32 (by rw [c_13]; decide) (by rw [c_13]; decide) (off := 479) (by rw [c_13]; decide) (by decide) ?_
      obtain ⟨q, r, e1, e2, e3, hR2⟩ := h_proof (xs (nI k + 1).toNatClampNeg) (xs (nI k + 2).toNatClampNeg) (xs (nI k + 3).toNatClampNeg) (xs (nI k + 4).toNatClampNeg) U V hR
      refine lv_aload_n S.1 S.2.1 dL_law_511 rfl (lv_at hl 1 rfl) ?_
      refine lv_aload_n S.1 S.2.1 dL_law_512 rfl (lv_at hl 0 rfl) ?_
      refine lv_iload_n S.1 S.2.1 dL_law_513 rfl (lv_at hl 3 rfl) ?_
      refine lv_iconst (v := 1) S.1 S.2.1 dL_law_514 (by decide) ?_
      refine lv_iadd S.1 S.2.1 dL_law_515 ?_
      refine va_sld S.1 S.2.1 hX hbl hbA w.2.2 g1 dL_law_516 ?_
      refine lv_aload_n S.1 S.2.1 dL_law_517 rfl (lv_at hl 0 rfl) ?_
      refine lv_iload_n S.1 S.2.1 dL_law_518 rfl (lv_at hl 3 rfl) ?_
      refine lv_iconst (v := 2) S.1 S.2.1 dL_law_519 (by decide) ?_
      refine lv_iadd S.1 S.2.1 dL_law_520 ?_
      refine va_sld S.1 S.2.1 hX hbl hbA w.2.2 g2 dL_law_521 ?_
      refine lv_aload_n S.1 S.2.1 dL_law_522 rfl (lv_at hl 0 rfl) ?_
      refine lv_iload_n S.1 S.2.1 dL_law_523 rfl (lv_at hl 3 rfl) ?_
      refine lv_iconst (v := 3) S.1 S.2.1 dL_law_524 (by decide) ?_
      refine lv_iadd S.1 S.2.1 dL_law_525 ?_
      refine va_sld S.1 S.2.1 hX hbl hbA w.2.2 g3 dL_law_526 ?_
      refine lv_aload_n S.1 S.2.1 dL_law_527 rfl (lv_at hl 0 rfl) ?_
      refine lv_iload_n S.1 S.2.1 dL_law_528 rfl (lv_at hl 3 rfl) ?_
      refine lv_iconst (v := 4) S.1 S.2.1 dL_law_529 (by decide) ?_
      refine lv_iadd S.1 S.2.1 dL_law_530 ?_
      refine va_sld S.1 S.2.1 hX hbl hbA w.2.2 g4 dL_law_531 ?_
      refine fX_i S K w hA (c_X10_proof l D cs ax U.1 U.2.1 U.2.2 (xs (nI k + 1).toNatClampNeg) (xs (nI k + 2).toNatClampNeg) (xs (nI k + 3).toNatClampNeg) (xs (nI k + 4).toNatClampNeg) q e1) (cw_L_68 S.2.2.2.2 ⟨(Nat.le_of_ble_eq_true rfl), (Nat.le_of_ble_eq_true rfl)⟩) rfl hl.1 rfl (Nat.le_of_ble_eq_true rfl) ⟨(Nat.le_of_ble_eq_true rfl), (Nat.le_of_ble_eq_true rfl)⟩ dL_law_532 (fun H locs w => ?_)
      refine lv_aload_n S.1 S.2.1 dL_law_535 rfl (lv_at hl 2 rfl) ?_
      refine lv_aload_n S.1 S.2.1 dL_law_536 rfl (lv_at hl 0 rfl) ?_
      refine lv_iload_n S.1 S.2.1 dL_law_537 rfl (lv_at hl 3 rfl) ?_
      refine lv_iconst (v := 1) S.1 S.2.1 dL_law_538 (by decide) ?_
      refine lv_iadd S.1 S.2.1 dL_law_539 ?_
      refine va_sld S.1 S.2.1 hX hbl hbA w.2.2 g1 dL_law_540 ?_
      refine lv_aload_n S.1 S.2.1 dL_law_541 rfl (lv_at hl 0 rfl) ?_
      refine lv_iload_n S.1 S.2.1 dL_law_542 rfl (lv_at hl 3 rfl) ?_
      refine lv_iconst (v := 2) S.1 S.2.1 dL_law_543 (by decide) ?_
      refine lv_iadd S.1 S.2.1 dL_law_544 ?_
      refine va_sld S.1 S.2.1 hX hbl hbA w.2.2 g2 dL_law_545 ?_
      refine lv_aload_n S.1 S.2.1 dL_law_546 rfl (lv_at hl 0 rfl) ?_
      refine lv_iload_n S.1 S.2.1 dL_law_547 rfl (lv_at hl 3 rfl) ?_
      refine lv_iconst (v := 3) S.1 S.2.1 dL_law_548 (by decide) ?_
      refine lv_iadd S.1 S.2.1 dL_law_549 ?_
      refine va_sld S.1 S.2.1 hX hbl hbA w.2.2 g3 dL_law_550 ?_
      refine lv_aload_n S.1 S.2.1 dL_law_551 rfl (lv_at hl 0 rfl) ?_
      refine lv_iload_n S.1 S.2.1 dL_law_552 rfl (lv_at hl 3 rfl) ?_
      refine lv_iconst (v := 4) S.1 S.2.1 dL_law_553 (by decide) ?_
      refine lv_iadd S.1 S.2.1 dL_law_554 ?_
      refine va_sld S.1 S.2.1 hX hbl hbA w.2.2 g4 dL_law_555 ?_
      refine fM_i S K w hA (c_X11_proof l D cs am V.1 V.2.1 V.2.2 (xs (nI k + 1).toNatClampNeg) (xs (nI k + 2).toNatClampNeg) (xs (nI k + 3).toNatClampNeg) (xs (nI k + 4).toNatClampNeg) r e2) (cw_L_72 S.2.2.2.2 ⟨(Nat.le_of_ble_eq_true rfl), (Nat.le_of_ble_eq_true rfl)⟩) rfl hl.1 rfl (Nat.le_of_ble_eq_true rfl) ⟨(Nat.le_of_ble_eq_true rfl), (Nat.le_of_ble_eq_true rfl)⟩ dL_law_556 (fun H locs w => ?_)
      refine lv_icmp_eq (tgt := 1026) S.1 S.2.1 dL_law_559 (by decide) (fun c2 => ?_) (fun c2 => ?_)
      · exact nxt q.2 r.2 hR2 ax am _ _ w ls hl
      · exact absurd e3 c2
    by_cases c_14 : xs (nI k).toNatClampNeg &&& 31 = (14 : Int32)
    · refine lv_tableIn (tgt := 564) S.1 S.2.1 dL_law_32 (by rw [c_14]; decide) (by rw [c_14]; decide) (off := 532) (by rw [c_14]; decide) (by decide) ?_
      obtain ⟨q, r, e1, e2, e3, hR2⟩ := h_cleared (xs (nI k + 1).toNatClampNeg) (xs (nI k + 2).toNatClampNeg) (xs (nI k + 3).toNatClampNeg) (xs (nI k + 4).toNatClampNeg) U V hR
      refine lv_aload_n S.1 S.2.1 dL_law_564 rfl (lv_at hl 1 rfl) ?_
      refine lv_aload_n S.1 S.2.1 dL_law_565 rfl (lv_at hl 0 rfl) ?_
      refine lv_iload_n S.1 S.2.1 dL_law_566 rfl (lv_at hl 3 rfl) ?_
      refine lv_iconst (v := 1) S.1 S.2.1 dL_law_567 (by decide) ?_
      refine lv_iadd S.1 S.2.1 dL_law_568 ?_
      refine va_sld S.1 S.2.1 hX hbl hbA w.2.2 g1 dL_law_569 ?_
      refine lv_aload_n S.1 S.2.1 dL_law_570 rfl (lv_at hl 0 rfl) ?_
      refine lv_iload_n S.1 S.2.1 dL_law_571 rfl (lv_at hl 3 rfl) ?_
      refine lv_iconst (v := 2) S.1 S.2.1 dL_law_572 (by decide) ?_
      refine lv_iadd S.1 S.2.1 dL_law_573 ?_
      refine va_sld S.1 S.2.1 hX hbl hbA w.2.2 g2 dL_law_574 ?_
      refine lv_aload_n S.1 S.2.1 dL_law_575 rfl (lv_at hl 0 rfl) ?_
      refine lv_iload_n S.1 S.2.1 dL_law_576 rfl (lv_at hl 3 rfl) ?_
      refine lv_iconst (v := 3) S.1 S.2.1 dL_law_577 (by decide) ?_
      refine lv_iadd S.1 S.2.1 dL_law_578 ?_
      refine va_sld S.1 S.2.1 hX hbl hbA w.2.2 g3 dL_law_579 ?_
      refine lv_aload_n S.1 S.2.1 dL_law_580 rfl (lv_at hl 0 rfl) ?_
      refine lv_iload_n S.1 S.2.1 dL_law_581 rfl (lv_at hl 3 rfl) ?_
      refine lv_iconst (v := 4) S.1 S.2.1 dL_law_582 (by decide) ?_
      refine lv_iadd S.1 S.2.1 dL_law_583 ?_
      refine va_sld S.1 S.2.1 hX hbl hbA w.2.2 g4 dL_law_584 ?_
      refine fX_i S K w hA (c_X10_cleared l D cs ax U.1 U.2.1 U.2.2 (xs (nI k + 1).toNatClampNeg) (xs (nI k + 2).toNatClampNeg) (xs (nI k + 3).toNatClampNeg) (xs (nI k + 4).toNatClampNeg) q e1) (cw_L_73 S.2.2.2.2 ⟨(Nat.le_of_ble_eq_true rfl), (Nat.le_of_ble_eq_true rfl)⟩) rfl hl.1 rfl (Nat.le_of_ble_eq_true rfl) ⟨(Nat.le_of_ble_eq_true rfl), (Nat.le_of_ble_eq_true rfl)⟩ dL_law_585 (fun H locs w => ?_)
      refine lv_aload_n S.1 S.2.1 dL_law_588 rfl (lv_at hl 2 rfl) ?_
      refine lv_aload_n S.1 S.2.1 dL_law_589 rfl (lv_at hl 0 rfl) ?_
      refine lv_iload_n S.1 S.2.1 dL_law_590 rfl (lv_at hl 3 rfl) ?_
      refine lv_iconst (v := 1) S.1 S.2.1 dL_law_591 (by decide) ?_
      refine lv_iadd S.1 S.2.1 dL_law_592 ?_
      refine va_sld S.1 S.2.1 hX hbl hbA w.2.2 g1 dL_law_593 ?_
      refine lv_aload_n S.1 S.2.1 dL_law_594 rfl (lv_at hl 0 rfl) ?_
      refine lv_iload_n S.1 S.2.1 dL_law_595 rfl (lv_at hl 3 rfl) ?_
      refine lv_iconst (v := 2) S.1 S.2.1 dL_law_596 (by decide) ?_
      refine lv_iadd S.1 S.2.1 dL_law_597 ?_
      refine va_sld S.1 S.2.1 hX hbl hbA w.2.2 g2 dL_law_598 ?_
      refine lv_aload_n S.1 S.2.1 dL_law_599 rfl (lv_at hl 0 rfl) ?_
      refine lv_iload_n S.1 S.2.1 dL_law_600 rfl (lv_at hl 3 rfl) ?_
      refine lv_iconst (v := 3) S.1 S.2.1 dL_law_601 (by decide) ?_
      refine lv_iadd S.1 S.2.1 dL_law_602 ?_
      refine va_sld S.1 S.2.1 hX hbl hbA w.2.2 g3 dL_law_603 ?_
      refine lv_aload_n S.1 S.2.1 dL_law_604 rfl (lv_at hl 0 rfl) ?_
      refine lv_iload_n S.1 S.2.1 dL_law_605 rfl (lv_at hl 3 rfl) ?_
      refine lv_iconst (v := 4) S.1 S.2.1 dL_law_606 (by decide) ?_
      refine lv_iadd S.1 S.2.1 dL_law_607 ?_
      refine va_sld S.1 S.2.1 hX hbl hbA w.2.2 g4 dL_law_608 ?_
      refine fM_i S K w hA (c_X11_cleared l D cs am V.1 V.2.1 V.2.2 (xs (nI k + 1).toNatClampNeg) (xs (nI k + 2).toNatClampNeg) (xs (nI k + 3).toNatClampNeg) (xs (nI k + 4).toNatClampNeg) r e2) (cw_L_76 S.2.2.2.2 ⟨(Nat.le_of_ble_eq_true rfl), (Nat.le_of_ble_eq_true rfl)⟩) rfl hl.1 rfl (Nat.le_of_ble_eq_true rfl) ⟨(Nat.le_of_ble_eq_true rfl), (Nat.le_of_ble_eq_true rfl)⟩ dL_law_609 (fun H locs w => ?_)
      refine lv_icmp_eq (tgt := 1026) S.1 S.2.1 dL_law_612 (by decide) (fun c2 => ?_) (fun c2 => ?_)
      · exact nxt q.2 r.2 hR2 ax am _ _ w ls hl
      · exact absurd e3 c2
    by_cases c_15 : xs (nI k).toNatClampNeg &&& 31 = (15 : Int32)
    · refine lv_tableIn (tgt := 617) S.1 S.2.1 dL_law_32 (by rw [c_15]; decide) (by rw [c_15]; decide) (off := 585) (by rw [c_15]; decide) (by decide) ?_
      obtain ⟨q, r, e1, e2, e3, hR2⟩ := h_forged (xs (nI k + 1).toNatClampNeg) (xs (nI k + 2).toNatClampNeg) (xs (nI k + 3).toNatClampNeg) U V hR
      refine lv_aload_n S.1 S.2.1 dL_law_617 rfl (lv_at hl 1 rfl) ?_
      refine lv_aload_n S.1 S.2.1 dL_law_618 rfl (lv_at hl 0 rfl) ?_
      refine lv_iload_n S.1 S.2.1 dL_law_619 rfl (lv_at hl 3 rfl) ?_
      refine lv_iconst (v := 1) S.1 S.2.1 dL_law_620 (by decide) ?_
      refine lv_iadd S.1 S.2.1 dL_law_621 ?_
      refine va_sld S.1 S.2.1 hX hbl hbA w.2.2 g1 dL_law_622 ?_
      refine lv_aload_n S.1 S.2.1 dL_law_623 rfl (lv_at hl 0 rfl) ?_
      refine lv_iload_n S.1 S.2.1 dL_law_624 rfl (lv_at hl 3 rfl) ?_
      refine lv_iconst (v := 2) S.1 S.2.1 dL_law_625 (by decide) ?_
      refine lv_iadd S.1 S.2.1 dL_law_626 ?_
      refine va_sld S.1 S.2.1 hX hbl hbA w.2.2 g2 dL_law_627 ?_
      refine lv_aload_n S.1 S.2.1 dL_law_628 rfl (lv_at hl 0 rfl) ?_
      refine lv_iload_n S.1 S.2.1 dL_law_629 rfl (lv_at hl 3 rfl) ?_
      refine lv_iconst (v := 3) S.1 S.2.1 dL_law_630 (by decide) ?_
      refine lv_iadd S.1 S.2.1 dL_law_631 ?_
      refine va_sld S.1 S.2.1 hX hbl hbA w.2.2 g3 dL_law_632 ?_
      refine fX_i S K w hA (c_X10_forged l D cs ax U.1 U.2.1 U.2.2 (xs (nI k + 1).toNatClampNeg) (xs (nI k + 2).toNatClampNeg) (xs (nI k + 3).toNatClampNeg) q e1) (cw_L_77 S.2.2.2.2 ⟨(Nat.le_of_ble_eq_true rfl), (Nat.le_of_ble_eq_true rfl)⟩) rfl hl.1 rfl (Nat.le_of_ble_eq_true rfl) ⟨(Nat.le_of_ble_eq_true rfl), (Nat.le_of_ble_eq_true rfl)⟩ dL_law_633 (fun H locs w => ?_)
      refine lv_aload_n S.1 S.2.1 dL_law_636 rfl (lv_at hl 2 rfl) ?_
      refine lv_aload_n S.1 S.2.1 dL_law_637 rfl (lv_at hl 0 rfl) ?_
      refine lv_iload_n S.1 S.2.1 dL_law_638 rfl (lv_at hl 3 rfl) ?_
      refine lv_iconst (v := 1) S.1 S.2.1 dL_law_639 (by decide) ?_
      refine lv_iadd S.1 S.2.1 dL_law_640 ?_
      refine va_sld S.1 S.2.1 hX hbl hbA w.2.2 g1 dL_law_641 ?_
      refine lv_aload_n S.1 S.2.1 dL_law_642 rfl (lv_at hl 0 rfl) ?_
      refine lv_iload_n S.1 S.2.1 dL_law_643 rfl (lv_at hl 3 rfl) ?_
      refine lv_iconst (v := 2) S.1 S.2.1 dL_law_644 (by decide) ?_
      refine lv_iadd S.1 S.2.1 dL_law_645 ?_
      refine va_sld S.1 S.2.1 hX hbl hbA w.2.2 g2 dL_law_646 ?_
      refine lv_aload_n S.1 S.2.1 dL_law_647 rfl (lv_at hl 0 rfl) ?_
      refine lv_iload_n S.1 S.2.1 dL_law_648 rfl (lv_at hl 3 rfl) ?_
      refine lv_iconst (v := 3) S.1 S.2.1 dL_law_649 (by decide) ?_
      refine lv_iadd S.1 S.2.1 dL_law_650 ?_
      refine va_sld S.1 S.2.1 hX hbl hbA w.2.2 g3 dL_law_651 ?_
      refine fM_i S K w hA (c_X11_forged l D cs am V.1 V.2.1 V.2.2 (xs (nI k + 1).toNatClampNeg) (xs (nI k + 2).toNatClampNeg) (xs (nI k + 3).toNatClampNeg) r e2) (cw_L_81 S.2.2.2.2 ⟨(Nat.le_of_ble_eq_true rfl), (Nat.le_of_ble_eq_true rfl)⟩) rfl hl.1 rfl (Nat.le_of_ble_eq_true rfl) ⟨(Nat.le_of_ble_eq_true rfl), (Nat.le_of_ble_eq_true rfl)⟩ dL_law_652 (fun H locs w => ?_)
      refine lv_icmp_eq (tgt := 1026) S.1 S.2.1 dL_law_655 (by decide) (fun c2 => ?_) (fun c2 => ?_)
      · exact nxt q.2 r.2 hR2 ax am _ _ w ls hl
      · exact absurd e3 c2
    by_cases c_16 : xs (nI k).toNatClampNeg &&& 31 = (16 : Int32)
    · refine lv_tableIn (tgt := 660) S.1 S.2.1 dL_law_32 (by rw [c_16]; decide) (by rw [c_16]; decide) (off := 628) (by rw [c_16]; decide) (by decide) ?_
      obtain ⟨q, r, e1, e2, e3, hR2⟩ := h_clash (xs (nI k + 1).toNatClampNeg) U V hR
      refine lv_aload_n S.1 S.2.1 dL_law_660 rfl (lv_at hl 1 rfl) ?_
      refine lv_aload_n S.1 S.2.1 dL_law_661 rfl (lv_at hl 0 rfl) ?_
      refine lv_iload_n S.1 S.2.1 dL_law_662 rfl (lv_at hl 3 rfl) ?_
      refine lv_iconst (v := 1) S.1 S.2.1 dL_law_663 (by decide) ?_
      refine lv_iadd S.1 S.2.1 dL_law_664 ?_
      refine va_sld S.1 S.2.1 hX hbl hbA w.2.2 g1 dL_law_665 ?_
      refine fX_i S K w hA (c_X10_clash l D cs ax U.1 U.2.1 U.2.2 (xs (nI k + 1).toNatClampNeg) q e1) (cw_L_82 S.2.2.2.2 ⟨(Nat.le_of_ble_eq_true rfl), (Nat.le_of_ble_eq_true rfl)⟩) rfl hl.1 rfl (Nat.le_of_ble_eq_true rfl) ⟨(Nat.le_of_ble_eq_true rfl), (Nat.le_of_ble_eq_true rfl)⟩ dL_law_666 (fun H locs w => ?_)
      refine lv_aload_n S.1 S.2.1 dL_law_669 rfl (lv_at hl 2 rfl) ?_
      refine lv_aload_n S.1 S.2.1 dL_law_670 rfl (lv_at hl 0 rfl) ?_
      refine lv_iload_n S.1 S.2.1 dL_law_671 rfl (lv_at hl 3 rfl) ?_
      refine lv_iconst (v := 1) S.1 S.2.1 dL_law_672 (by decide) ?_
      refine lv_iadd S.1 S.2.1 dL_law_673 ?_
      refine va_sld S.1 S.2.1 hX hbl hbA w.2.2 g1 dL_law_674 ?_
      refine fM_i S K w hA (c_X11_clash l D cs am V.1 V.2.1 V.2.2 (xs (nI k + 1).toNatClampNeg) r.1 e2.1) (cw_L_85 S.2.2.2.2 ⟨(Nat.le_of_ble_eq_true rfl), (Nat.le_of_ble_eq_true rfl)⟩) rfl hl.1 rfl (Nat.le_of_ble_eq_true rfl) ⟨(Nat.le_of_ble_eq_true rfl), (Nat.le_of_ble_eq_true rfl)⟩ dL_law_675 (fun H locs w => ?_)
      rw [e2.2] at hR2
      refine lv_icmp_eq (tgt := 1026) S.1 S.2.1 dL_law_678 (by decide) (fun c2 => ?_) (fun c2 => ?_)
      · exact nxt q.2 V hR2 ax am _ _ w ls hl
      · exact absurd e3 c2
    by_cases c_17 : xs (nI k).toNatClampNeg &&& 31 = (17 : Int32)
    · refine lv_tableIn (tgt := 683) S.1 S.2.1 dL_law_32 (by rw [c_17]; decide) (by rw [c_17]; decide) (off := 651) (by rw [c_17]; decide) (by decide) ?_
      obtain ⟨q, r, e1, e2, e3, hR2⟩ := h_rests (xs (nI k + 1).toNatClampNeg) U V hR
      refine lv_aload_n S.1 S.2.1 dL_law_683 rfl (lv_at hl 1 rfl) ?_
      refine lv_aload_n S.1 S.2.1 dL_law_684 rfl (lv_at hl 0 rfl) ?_
      refine lv_iload_n S.1 S.2.1 dL_law_685 rfl (lv_at hl 3 rfl) ?_
      refine lv_iconst (v := 1) S.1 S.2.1 dL_law_686 (by decide) ?_
      refine lv_iadd S.1 S.2.1 dL_law_687 ?_
      refine va_sld S.1 S.2.1 hX hbl hbA w.2.2 g1 dL_law_688 ?_
      refine fX_i S K w hA (c_X10_rests l D cs ax U.1 U.2.1 U.2.2 (xs (nI k + 1).toNatClampNeg) q e1) (cw_L_86 S.2.2.2.2 ⟨(Nat.le_of_ble_eq_true rfl), (Nat.le_of_ble_eq_true rfl)⟩) rfl hl.1 rfl (Nat.le_of_ble_eq_true rfl) ⟨(Nat.le_of_ble_eq_true rfl), (Nat.le_of_ble_eq_true rfl)⟩ dL_law_689 (fun H locs w => ?_)
      refine lv_aload_n S.1 S.2.1 dL_law_692 rfl (lv_at hl 2 rfl) ?_
      refine lv_aload_n S.1 S.2.1 dL_law_693 rfl (lv_at hl 0 rfl) ?_
      refine lv_iload_n S.1 S.2.1 dL_law_694 rfl (lv_at hl 3 rfl) ?_
      refine lv_iconst (v := 1) S.1 S.2.1 dL_law_695 (by decide) ?_
      refine lv_iadd S.1 S.2.1 dL_law_696 ?_
      refine va_sld S.1 S.2.1 hX hbl hbA w.2.2 g1 dL_law_697 ?_
      refine fM_i S K w hA (c_X11_rests l D cs am V.1 V.2.1 V.2.2 (xs (nI k + 1).toNatClampNeg) r e2) (cw_L_89 S.2.2.2.2 ⟨(Nat.le_of_ble_eq_true rfl), (Nat.le_of_ble_eq_true rfl)⟩) rfl hl.1 rfl (Nat.le_of_ble_eq_true rfl) ⟨(Nat.le_of_ble_eq_true rfl), (Nat.le_of_ble_eq_true rfl)⟩ dL_law_698 (fun H locs w => ?_)
      refine lv_icmp_eq (tgt := 1026) S.1 S.2.1 dL_law_701 (by decide) (fun c2 => ?_) (fun c2 => ?_)
      · exact nxt q.2 r.2 hR2 ax am _ _ w ls hl
      · exact absurd e3 c2
    by_cases c_18 : xs (nI k).toNatClampNeg &&& 31 = (18 : Int32)
    · refine lv_tableIn (tgt := 706) S.1 S.2.1 dL_law_32 (by rw [c_18]; decide) (by rw [c_18]; decide) (off := 674) (by rw [c_18]; decide) (by decide) ?_
      obtain ⟨q, r, e1, e2, e3, hR2⟩ := h_gains (xs (nI k + 1).toNatClampNeg) U V hR
      refine lv_aload_n S.1 S.2.1 dL_law_706 rfl (lv_at hl 1 rfl) ?_
      refine lv_aload_n S.1 S.2.1 dL_law_707 rfl (lv_at hl 0 rfl) ?_
      refine lv_iload_n S.1 S.2.1 dL_law_708 rfl (lv_at hl 3 rfl) ?_
      refine lv_iconst (v := 1) S.1 S.2.1 dL_law_709 (by decide) ?_
      refine lv_iadd S.1 S.2.1 dL_law_710 ?_
      refine va_sld S.1 S.2.1 hX hbl hbA w.2.2 g1 dL_law_711 ?_
      refine fX_i S K w hA (c_X10_gains l D cs ax U.1 U.2.1 U.2.2 (xs (nI k + 1).toNatClampNeg) q e1) (cw_L_90 S.2.2.2.2 ⟨(Nat.le_of_ble_eq_true rfl), (Nat.le_of_ble_eq_true rfl)⟩) rfl hl.1 rfl (Nat.le_of_ble_eq_true rfl) ⟨(Nat.le_of_ble_eq_true rfl), (Nat.le_of_ble_eq_true rfl)⟩ dL_law_712 (fun H locs w => ?_)
      refine lv_aload_n S.1 S.2.1 dL_law_715 rfl (lv_at hl 2 rfl) ?_
      refine lv_aload_n S.1 S.2.1 dL_law_716 rfl (lv_at hl 0 rfl) ?_
      refine lv_iload_n S.1 S.2.1 dL_law_717 rfl (lv_at hl 3 rfl) ?_
      refine lv_iconst (v := 1) S.1 S.2.1 dL_law_718 (by decide) ?_
      refine lv_iadd S.1 S.2.1 dL_law_719 ?_
      refine va_sld S.1 S.2.1 hX hbl hbA w.2.2 g1 dL_law_720 ?_
      refine fM_i S K w hA (c_X11_gains l D cs am V.1 V.2.1 V.2.2 (xs (nI k + 1).toNatClampNeg) r e2) (cw_L_93 S.2.2.2.2 ⟨(Nat.le_of_ble_eq_true rfl), (Nat.le_of_ble_eq_true rfl)⟩) rfl hl.1 rfl (Nat.le_of_ble_eq_true rfl) ⟨(Nat.le_of_ble_eq_true rfl), (Nat.le_of_ble_eq_true rfl)⟩ dL_law_721 (fun H locs w => ?_)
      refine lv_icmp_eq (tgt := 1026) S.1 S.2.1 dL_law_724 (by decide) (fun c2 => ?_) (fun c2 => ?_)
      · exact nxt q.2 r.2 hR2 ax am _ _ w ls hl
      · exact absurd e3 c2
    by_cases c_19 : xs (nI k).toNatClampNeg &&& 31 = (19 : Int32)
    · refine lv_tableIn (tgt := 729) S.1 S.2.1 dL_law_32 (by rw [c_19]; decide) (by rw [c_19]; decide) (off := 697) (by rw [c_19]; decide) (by decide) ?_
      obtain ⟨q, r, e1, e2, e3, hR2⟩ := h_cellsFor (xs (nI k + 1).toNatClampNeg) U V hR
      refine lv_aload_n S.1 S.2.1 dL_law_729 rfl (lv_at hl 1 rfl) ?_
      refine lv_aload_n S.1 S.2.1 dL_law_730 rfl (lv_at hl 0 rfl) ?_
      refine lv_iload_n S.1 S.2.1 dL_law_731 rfl (lv_at hl 3 rfl) ?_
      refine lv_iconst (v := 1) S.1 S.2.1 dL_law_732 (by decide) ?_
      refine lv_iadd S.1 S.2.1 dL_law_733 ?_
      refine va_sld S.1 S.2.1 hX hbl hbA w.2.2 g1 dL_law_734 ?_
      refine fX_i S K w hA (c_X10_cellsFor l D cs ax U.1 U.2.1 U.2.2 (xs (nI k + 1).toNatClampNeg) q e1) (cw_L_94 S.2.2.2.2 ⟨(Nat.le_of_ble_eq_true rfl), (Nat.le_of_ble_eq_true rfl)⟩) rfl hl.1 rfl (Nat.le_of_ble_eq_true rfl) ⟨(Nat.le_of_ble_eq_true rfl), (Nat.le_of_ble_eq_true rfl)⟩ dL_law_735 (fun H locs w => ?_)
      refine lv_aload_n S.1 S.2.1 dL_law_738 rfl (lv_at hl 2 rfl) ?_
      refine lv_aload_n S.1 S.2.1 dL_law_739 rfl (lv_at hl 0 rfl) ?_
      refine lv_iload_n S.1 S.2.1 dL_law_740 rfl (lv_at hl 3 rfl) ?_
      refine lv_iconst (v := 1) S.1 S.2.1 dL_law_741 (by decide) ?_
      refine lv_iadd S.1 S.2.1 dL_law_742 ?_
      refine va_sld S.1 S.2.1 hX hbl hbA w.2.2 g1 dL_law_743 ?_
      refine fM_i S K w hA (c_X11_cellsFor l D cs am V.1 V.2.1 V.2.2 (xs (nI k + 1).toNatClampNeg) r e2) (cw_L_97 S.2.2.2.2 ⟨(Nat.le_of_ble_eq_true rfl), (Nat.le_of_ble_eq_true rfl)⟩) rfl hl.1 rfl (Nat.le_of_ble_eq_true rfl) ⟨(Nat.le_of_ble_eq_true rfl), (Nat.le_of_ble_eq_true rfl)⟩ dL_law_744 (fun H locs w => ?_)
      refine lv_icmp_eq (tgt := 1026) S.1 S.2.1 dL_law_747 (by decide) (fun c2 => ?_) (fun c2 => ?_)
      · exact nxt q.2 r.2 hR2 ax am _ _ w ls hl
      · exact absurd e3 c2
    by_cases c_20 : xs (nI k).toNatClampNeg &&& 31 = (20 : Int32)
    · refine lv_tableIn (tgt := 752) S.1 S.2.1 dL_law_32 (by rw [c_20]; decide) (by rw [c_20]; decide) (off := 720) (by rw [c_20]; decide) (by decide) ?_
      obtain ⟨q, r, e1, e2, e3, hR2⟩ := h_sits (xs (nI k + 1).toNatClampNeg) (xs (nI k + 2).toNatClampNeg) (xs (nI k + 3).toNatClampNeg) U V hR
      refine lv_aload_n S.1 S.2.1 dL_law_752 rfl (lv_at hl 1 rfl) ?_
      refine lv_aload_n S.1 S.2.1 dL_law_753 rfl (lv_at hl 0 rfl) ?_
      refine lv_iload_n S.1 S.2.1 dL_law_754 rfl (lv_at hl 3 rfl) ?_
      refine lv_iconst (v := 1) S.1 S.2.1 dL_law_755 (by decide) ?_
      refine lv_iadd S.1 S.2.1 dL_law_756 ?_
      refine va_sld S.1 S.2.1 hX hbl hbA w.2.2 g1 dL_law_757 ?_
      refine lv_aload_n S.1 S.2.1 dL_law_758 rfl (lv_at hl 0 rfl) ?_
      refine lv_iload_n S.1 S.2.1 dL_law_759 rfl (lv_at hl 3 rfl) ?_
      refine lv_iconst (v := 2) S.1 S.2.1 dL_law_760 (by decide) ?_
      refine lv_iadd S.1 S.2.1 dL_law_761 ?_
      refine va_sld S.1 S.2.1 hX hbl hbA w.2.2 g2 dL_law_762 ?_
      refine lv_aload_n S.1 S.2.1 dL_law_763 rfl (lv_at hl 0 rfl) ?_
      refine lv_iload_n S.1 S.2.1 dL_law_764 rfl (lv_at hl 3 rfl) ?_
      refine lv_iconst (v := 3) S.1 S.2.1 dL_law_765 (by decide) ?_
      refine lv_iadd S.1 S.2.1 dL_law_766 ?_
      refine va_sld S.1 S.2.1 hX hbl hbA w.2.2 g3 dL_law_767 ?_
      refine fX_i S K w hA (c_X10_sits l D cs ax U.1 U.2.1 U.2.2 (xs (nI k + 1).toNatClampNeg) (xs (nI k + 2).toNatClampNeg) (xs (nI k + 3).toNatClampNeg) q e1) (cw_L_98 S.2.2.2.2 ⟨(Nat.le_of_ble_eq_true rfl), (Nat.le_of_ble_eq_true rfl)⟩) rfl hl.1 rfl (Nat.le_of_ble_eq_true rfl) ⟨(Nat.le_of_ble_eq_true rfl), (Nat.le_of_ble_eq_true rfl)⟩ dL_law_768 (fun H locs w => ?_)
      refine lv_aload_n S.1 S.2.1 dL_law_771 rfl (lv_at hl 2 rfl) ?_
      refine lv_aload_n S.1 S.2.1 dL_law_772 rfl (lv_at hl 0 rfl) ?_
      refine lv_iload_n S.1 S.2.1 dL_law_773 rfl (lv_at hl 3 rfl) ?_
      refine lv_iconst (v := 1) S.1 S.2.1 dL_law_774 (by decide) ?_
      refine lv_iadd S.1 S.2.1 dL_law_775 ?_
      refine va_sld S.1 S.2.1 hX hbl hbA w.2.2 g1 dL_law_776 ?_
      refine lv_aload_n S.1 S.2.1 dL_law_777 rfl (lv_at hl 0 rfl) ?_
      refine lv_iload_n S.1 S.2.1 dL_law_778 rfl (lv_at hl 3 rfl) ?_
      refine lv_iconst (v := 2) S.1 S.2.1 dL_law_779 (by decide) ?_
      refine lv_iadd S.1 S.2.1 dL_law_780 ?_
      refine va_sld S.1 S.2.1 hX hbl hbA w.2.2 g2 dL_law_781 ?_
      refine lv_aload_n S.1 S.2.1 dL_law_782 rfl (lv_at hl 0 rfl) ?_
      refine lv_iload_n S.1 S.2.1 dL_law_783 rfl (lv_at hl 3 rfl) ?_
      refine lv_iconst (v := 3) S.1 S.2.1 dL_law_784 (by decide) ?_
      refine lv_iadd S.1 S.2.1 dL_law_785 ?_
      refine va_sld S.1 S.2.1 hX hbl hbA w.2.2 g3 dL_law_786 ?_
      refine fM_i S K w hA (c_X11_sits l D cs am V.1 V.2.1 V.2.2 (xs (nI k + 1).toNatClampNeg) (xs (nI k + 2).toNatClampNeg) (xs (nI k + 3).toNatClampNeg) r e2) (cw_L_101 S.2.2.2.2 ⟨(Nat.le_of_ble_eq_true rfl), (Nat.le_of_ble_eq_true rfl)⟩) rfl hl.1 rfl (Nat.le_of_ble_eq_true rfl) ⟨(Nat.le_of_ble_eq_true rfl), (Nat.le_of_ble_eq_true rfl)⟩ dL_law_787 (fun H locs w => ?_)
      refine lv_icmp_eq (tgt := 1026) S.1 S.2.1 dL_law_790 (by decide) (fun c2 => ?_) (fun c2 => ?_)
      · exact nxt q.2 r.2 hR2 ax am _ _ w ls hl
      · exact absurd e3 c2
    by_cases c_21 : xs (nI k).toNatClampNeg &&& 31 = (21 : Int32)
    · refine lv_tableIn (tgt := 795) S.1 S.2.1 dL_law_32 (by rw [c_21]; decide) (by rw [c_21]; decide) (off := 763) (by rw [c_21]; decide) (by decide) ?_
      obtain ⟨q, r, e1, e2, e3, hR2⟩ := h_wronged (xs (nI k + 1).toNatClampNeg) U V hR
      refine lv_aload_n S.1 S.2.1 dL_law_795 rfl (lv_at hl 1 rfl) ?_
      refine lv_aload_n S.1 S.2.1 dL_law_796 rfl (lv_at hl 0 rfl) ?_
      refine lv_iload_n S.1 S.2.1 dL_law_797 rfl (lv_at hl 3 rfl) ?_
      refine lv_iconst (v := 1) S.1 S.2.1 dL_law_798 (by decide) ?_
      refine lv_iadd S.1 S.2.1 dL_law_799 ?_
      refine va_sld S.1 S.2.1 hX hbl hbA w.2.2 g1 dL_law_800 ?_
      refine fX_i S K w hA (c_X10_wronged l D cs ax U.1 U.2.1 U.2.2 (xs (nI k + 1).toNatClampNeg) q e1) (cw_L_102 S.2.2.2.2 ⟨(Nat.le_of_ble_eq_true rfl), (Nat.le_of_ble_eq_true rfl)⟩) rfl hl.1 rfl (Nat.le_of_ble_eq_true rfl) ⟨(Nat.le_of_ble_eq_true rfl), (Nat.le_of_ble_eq_true rfl)⟩ dL_law_801 (fun H locs w => ?_)
      refine lv_aload_n S.1 S.2.1 dL_law_804 rfl (lv_at hl 2 rfl) ?_
      refine lv_aload_n S.1 S.2.1 dL_law_805 rfl (lv_at hl 0 rfl) ?_
      refine lv_iload_n S.1 S.2.1 dL_law_806 rfl (lv_at hl 3 rfl) ?_
      refine lv_iconst (v := 1) S.1 S.2.1 dL_law_807 (by decide) ?_
      refine lv_iadd S.1 S.2.1 dL_law_808 ?_
      refine va_sld S.1 S.2.1 hX hbl hbA w.2.2 g1 dL_law_809 ?_
      refine fM_i S K w hA (c_X11_wronged l D cs am V.1 V.2.1 V.2.2 (xs (nI k + 1).toNatClampNeg) r e2) (cw_L_105 S.2.2.2.2 ⟨(Nat.le_of_ble_eq_true rfl), (Nat.le_of_ble_eq_true rfl)⟩) rfl hl.1 rfl (Nat.le_of_ble_eq_true rfl) ⟨(Nat.le_of_ble_eq_true rfl), (Nat.le_of_ble_eq_true rfl)⟩ dL_law_810 (fun H locs w => ?_)
      refine lv_icmp_eq (tgt := 1026) S.1 S.2.1 dL_law_813 (by decide) (fun c2 => ?_) (fun c2 => ?_)
      · exact nxt q.2 r.2 hR2 ax am _ _ w ls hl
      · exact absurd e3 c2
    by_cases c_22 : xs (nI k).toNatClampNeg &&& 31 = (22 : Int32)
    · refine lv_tableIn (tgt := 818) S.1 S.2.1 dL_law_32 (by rw [c_22]; decide) (by rw [c_22]; decide) (off := 786) (by rw [c_22]; decide) (by decide) ?_
      obtain ⟨q, r, e1, e2, e3, hR2⟩ := h_book (xs (nI k + 1).toNatClampNeg) (xs (nI k + 2).toNatClampNeg) U V hR
      refine lv_aload_n S.1 S.2.1 dL_law_818 rfl (lv_at hl 1 rfl) ?_
      refine lv_aload_n S.1 S.2.1 dL_law_819 rfl (lv_at hl 0 rfl) ?_
      refine lv_iload_n S.1 S.2.1 dL_law_820 rfl (lv_at hl 3 rfl) ?_
      refine lv_iconst (v := 1) S.1 S.2.1 dL_law_821 (by decide) ?_
      refine lv_iadd S.1 S.2.1 dL_law_822 ?_
      refine va_sld S.1 S.2.1 hX hbl hbA w.2.2 g1 dL_law_823 ?_
      refine lv_aload_n S.1 S.2.1 dL_law_824 rfl (lv_at hl 0 rfl) ?_
      refine lv_iload_n S.1 S.2.1 dL_law_825 rfl (lv_at hl 3 rfl) ?_
      refine lv_iconst (v := 2) S.1 S.2.1 dL_law_826 (by decide) ?_
      refine lv_iadd S.1 S.2.1 dL_law_827 ?_
      refine va_sld S.1 S.2.1 hX hbl hbA w.2.2 g2 dL_law_828 ?_
      refine fX_i S K w hA (c_X10_book l D cs ax U.1 U.2.1 U.2.2 (xs (nI k + 1).toNatClampNeg) (xs (nI k + 2).toNatClampNeg) q e1) (cw_L_106 S.2.2.2.2 ⟨(Nat.le_of_ble_eq_true rfl), (Nat.le_of_ble_eq_true rfl)⟩) rfl hl.1 rfl (Nat.le_of_ble_eq_true rfl) ⟨(Nat.le_of_ble_eq_true rfl), (Nat.le_of_ble_eq_true rfl)⟩ dL_law_829 (fun H locs w => ?_)
      refine lv_aload_n S.1 S.2.1 dL_law_832 rfl (lv_at hl 2 rfl) ?_
      refine lv_aload_n S.1 S.2.1 dL_law_833 rfl (lv_at hl 0 rfl) ?_
      refine lv_iload_n S.1 S.2.1 dL_law_834 rfl (lv_at hl 3 rfl) ?_
      refine lv_iconst (v := 1) S.1 S.2.1 dL_law_835 (by decide) ?_
      refine lv_iadd S.1 S.2.1 dL_law_836 ?_
      refine va_sld S.1 S.2.1 hX hbl hbA w.2.2 g1 dL_law_837 ?_
      refine lv_aload_n S.1 S.2.1 dL_law_838 rfl (lv_at hl 0 rfl) ?_
      refine lv_iload_n S.1 S.2.1 dL_law_839 rfl (lv_at hl 3 rfl) ?_
      refine lv_iconst (v := 2) S.1 S.2.1 dL_law_840 (by decide) ?_
      refine lv_iadd S.1 S.2.1 dL_law_841 ?_
      refine va_sld S.1 S.2.1 hX hbl hbA w.2.2 g2 dL_law_842 ?_
      refine fM_i S K w hA (c_X11_book l D cs am V.1 V.2.1 V.2.2 (xs (nI k + 1).toNatClampNeg) (xs (nI k + 2).toNatClampNeg) r e2) (cw_L_109 S.2.2.2.2 ⟨(Nat.le_of_ble_eq_true rfl), (Nat.le_of_ble_eq_true rfl)⟩) rfl hl.1 rfl (Nat.le_of_ble_eq_true rfl) ⟨(Nat.le_of_ble_eq_true rfl), (Nat.le_of_ble_eq_true rfl)⟩ dL_law_843 (fun H locs w => ?_)
      refine lv_icmp_eq (tgt := 1026) S.1 S.2.1 dL_law_846 (by decide) (fun c2 => ?_) (fun c2 => ?_)
      · exact nxt q.2 r.2 hR2 ax am _ _ w ls hl
      · exact absurd e3 c2
    by_cases c_23 : xs (nI k).toNatClampNeg &&& 31 = (23 : Int32)
    · refine lv_tableIn (tgt := 851) S.1 S.2.1 dL_law_32 (by rw [c_23]; decide) (by rw [c_23]; decide) (off := 819) (by rw [c_23]; decide) (by decide) ?_
      obtain ⟨q, r, e1, e2, e3, hR2⟩ := h_burn U V hR
      refine lv_aload_n S.1 S.2.1 dL_law_851 rfl (lv_at hl 1 rfl) ?_
      refine fX_i S K w hA (c_X10_burn l D cs ax U.1 U.2.1 U.2.2 q e1) (cw_L_110 S.2.2.2.2 ⟨(Nat.le_of_ble_eq_true rfl), (Nat.le_of_ble_eq_true rfl)⟩) rfl hl.1 rfl (Nat.le_of_ble_eq_true rfl) ⟨(Nat.le_of_ble_eq_true rfl), (Nat.le_of_ble_eq_true rfl)⟩ dL_law_852 (fun H locs w => ?_)
      refine lv_aload_n S.1 S.2.1 dL_law_855 rfl (lv_at hl 2 rfl) ?_
      refine fM_i S K w hA (c_X11_burn l D cs am V.1 V.2.1 V.2.2 r e2) (cw_L_113 S.2.2.2.2 ⟨(Nat.le_of_ble_eq_true rfl), (Nat.le_of_ble_eq_true rfl)⟩) rfl hl.1 rfl (Nat.le_of_ble_eq_true rfl) ⟨(Nat.le_of_ble_eq_true rfl), (Nat.le_of_ble_eq_true rfl)⟩ dL_law_856 (fun H locs w => ?_)
      refine lv_icmp_eq (tgt := 1026) S.1 S.2.1 dL_law_859 (by decide) (fun c2 => ?_) (fun c2 => ?_)
      · exact nxt q.2 r.2 hR2 ax am _ _ w ls hl
      · exact absurd e3 c2
    by_cases c_24 : xs (nI k).toNatClampNeg &&& 31 = (24 : Int32)
    · refine lv_tableIn (tgt := 864) S.1 S.2.1 dL_law_32 (by rw [c_24]; decide) (by rw [c_24]; decide) (off := 832) (by rw [c_24]; decide) (by decide) ?_
      obtain ⟨q, r, e1, e2, e3, hR2⟩ := h_books (xs (nI k + 1).toNatClampNeg) U V hR
      refine lv_aload_n S.1 S.2.1 dL_law_864 rfl (lv_at hl 1 rfl) ?_
      refine lv_aload_n S.1 S.2.1 dL_law_865 rfl (lv_at hl 0 rfl) ?_
      refine lv_iload_n S.1 S.2.1 dL_law_866 rfl (lv_at hl 3 rfl) ?_
      refine lv_iconst (v := 1) S.1 S.2.1 dL_law_867 (by decide) ?_
      refine lv_iadd S.1 S.2.1 dL_law_868 ?_
      refine va_sld S.1 S.2.1 hX hbl hbA w.2.2 g1 dL_law_869 ?_
      refine fX_i S K w hA (c_X10_books l D cs ax U.1 U.2.1 U.2.2 (xs (nI k + 1).toNatClampNeg) q e1) (cw_L_114 S.2.2.2.2 ⟨(Nat.le_of_ble_eq_true rfl), (Nat.le_of_ble_eq_true rfl)⟩) rfl hl.1 rfl (Nat.le_of_ble_eq_true rfl) ⟨(Nat.le_of_ble_eq_true rfl), (Nat.le_of_ble_eq_true rfl)⟩ dL_law_870 (fun H locs w => ?_)
      refine lv_aload_n S.1 S.2.1 dL_law_873 rfl (lv_at hl 2 rfl) ?_
      refine lv_aload_n S.1 S.2.1 dL_law_874 rfl (lv_at hl 0 rfl) ?_
      refine lv_iload_n S.1 S.2.1 dL_law_875 rfl (lv_at hl 3 rfl) ?_
      refine lv_iconst (v := 1) S.1 S.2.1 dL_law_876 (by decide) ?_
      refine lv_iadd S.1 S.2.1 dL_law_877 ?_
      refine va_sld S.1 S.2.1 hX hbl hbA w.2.2 g1 dL_law_878 ?_
      refine fM_i S K w hA (c_X11_books l D cs am V.1 V.2.1 V.2.2 (xs (nI k + 1).toNatClampNeg) r e2) (cw_L_117 S.2.2.2.2 ⟨(Nat.le_of_ble_eq_true rfl), (Nat.le_of_ble_eq_true rfl)⟩) rfl hl.1 rfl (Nat.le_of_ble_eq_true rfl) ⟨(Nat.le_of_ble_eq_true rfl), (Nat.le_of_ble_eq_true rfl)⟩ dL_law_879 (fun H locs w => ?_)
      refine lv_icmp_eq (tgt := 1026) S.1 S.2.1 dL_law_882 (by decide) (fun c2 => ?_) (fun c2 => ?_)
      · exact nxt q.2 r.2 hR2 ax am _ _ w ls hl
      · exact absurd e3 c2
    by_cases c_25 : xs (nI k).toNatClampNeg &&& 31 = (25 : Int32)
    · refine lv_tableIn (tgt := 887) S.1 S.2.1 dL_law_32 (by rw [c_25]; decide) (by rw [c_25]; decide) (off := 855) (by rw [c_25]; decide) (by decide) ?_
      obtain ⟨q, r, e1, e2, e3, hR2⟩ := h_innocent (xs (nI k + 1).toNatClampNeg) U V hR
      refine lv_aload_n S.1 S.2.1 dL_law_887 rfl (lv_at hl 1 rfl) ?_
      refine lv_aload_n S.1 S.2.1 dL_law_888 rfl (lv_at hl 0 rfl) ?_
      refine lv_iload_n S.1 S.2.1 dL_law_889 rfl (lv_at hl 3 rfl) ?_
      refine lv_iconst (v := 1) S.1 S.2.1 dL_law_890 (by decide) ?_
      refine lv_iadd S.1 S.2.1 dL_law_891 ?_
      refine va_sld S.1 S.2.1 hX hbl hbA w.2.2 g1 dL_law_892 ?_
      refine fX_i S K w hA (c_X10_innocent l D cs ax U.1 U.2.1 U.2.2 (xs (nI k + 1).toNatClampNeg) q e1) (cw_L_118 S.2.2.2.2 ⟨(Nat.le_of_ble_eq_true rfl), (Nat.le_of_ble_eq_true rfl)⟩) rfl hl.1 rfl (Nat.le_of_ble_eq_true rfl) ⟨(Nat.le_of_ble_eq_true rfl), (Nat.le_of_ble_eq_true rfl)⟩ dL_law_893 (fun H locs w => ?_)
      refine lv_aload_n S.1 S.2.1 dL_law_896 rfl (lv_at hl 2 rfl) ?_
      refine lv_aload_n S.1 S.2.1 dL_law_897 rfl (lv_at hl 0 rfl) ?_
      refine lv_iload_n S.1 S.2.1 dL_law_898 rfl (lv_at hl 3 rfl) ?_
      refine lv_iconst (v := 1) S.1 S.2.1 dL_law_899 (by decide) ?_
      refine lv_iadd S.1 S.2.1 dL_law_900 ?_
      refine va_sld S.1 S.2.1 hX hbl hbA w.2.2 g1 dL_law_901 ?_
      refine fM_i S K w hA (c_X11_innocent l D cs am V.1 V.2.1 V.2.2 (xs (nI k + 1).toNatClampNeg) r.1 e2.1) (cw_L_121 S.2.2.2.2 ⟨(Nat.le_of_ble_eq_true rfl), (Nat.le_of_ble_eq_true rfl)⟩) rfl hl.1 rfl (Nat.le_of_ble_eq_true rfl) ⟨(Nat.le_of_ble_eq_true rfl), (Nat.le_of_ble_eq_true rfl)⟩ dL_law_902 (fun H locs w => ?_)
      rw [e2.2] at hR2
      refine lv_icmp_eq (tgt := 1026) S.1 S.2.1 dL_law_905 (by decide) (fun c2 => ?_) (fun c2 => ?_)
      · exact nxt q.2 V hR2 ax am _ _ w ls hl
      · exact absurd e3 c2
    by_cases c_26 : xs (nI k).toNatClampNeg &&& 31 = (26 : Int32)
    · refine lv_tableIn (tgt := 910) S.1 S.2.1 dL_law_32 (by rw [c_26]; decide) (by rw [c_26]; decide) (off := 878) (by rw [c_26]; decide) (by decide) ?_
      obtain ⟨q, r, e1, e2, e3, hR2⟩ := h_mark (xs (nI k + 1).toNatClampNeg) (xs (nI k + 2).toNatClampNeg) U V hR
      refine lv_aload_n S.1 S.2.1 dL_law_910 rfl (lv_at hl 1 rfl) ?_
      refine lv_aload_n S.1 S.2.1 dL_law_911 rfl (lv_at hl 0 rfl) ?_
      refine lv_iload_n S.1 S.2.1 dL_law_912 rfl (lv_at hl 3 rfl) ?_
      refine lv_iconst (v := 1) S.1 S.2.1 dL_law_913 (by decide) ?_
      refine lv_iadd S.1 S.2.1 dL_law_914 ?_
      refine va_sld S.1 S.2.1 hX hbl hbA w.2.2 g1 dL_law_915 ?_
      refine lv_aload_n S.1 S.2.1 dL_law_916 rfl (lv_at hl 0 rfl) ?_
      refine lv_iload_n S.1 S.2.1 dL_law_917 rfl (lv_at hl 3 rfl) ?_
      refine lv_iconst (v := 2) S.1 S.2.1 dL_law_918 (by decide) ?_
      refine lv_iadd S.1 S.2.1 dL_law_919 ?_
      refine va_sld S.1 S.2.1 hX hbl hbA w.2.2 g2 dL_law_920 ?_
      refine fX_i S K w hA (c_X10_mark l D cs ax U.1 U.2.1 U.2.2 (xs (nI k + 1).toNatClampNeg) (xs (nI k + 2).toNatClampNeg) q e1) (cw_L_122 S.2.2.2.2 ⟨(Nat.le_of_ble_eq_true rfl), (Nat.le_of_ble_eq_true rfl)⟩) rfl hl.1 rfl (Nat.le_of_ble_eq_true rfl) ⟨(Nat.le_of_ble_eq_true rfl), (Nat.le_of_ble_eq_true rfl)⟩ dL_law_921 (fun H locs w => ?_)
      refine lv_aload_n S.1 S.2.1 dL_law_924 rfl (lv_at hl 2 rfl) ?_
      refine lv_aload_n S.1 S.2.1 dL_law_925 rfl (lv_at hl 0 rfl) ?_
      refine lv_iload_n S.1 S.2.1 dL_law_926 rfl (lv_at hl 3 rfl) ?_
      refine lv_iconst (v := 1) S.1 S.2.1 dL_law_927 (by decide) ?_
      refine lv_iadd S.1 S.2.1 dL_law_928 ?_
      refine va_sld S.1 S.2.1 hX hbl hbA w.2.2 g1 dL_law_929 ?_
      refine lv_aload_n S.1 S.2.1 dL_law_930 rfl (lv_at hl 0 rfl) ?_
      refine lv_iload_n S.1 S.2.1 dL_law_931 rfl (lv_at hl 3 rfl) ?_
      refine lv_iconst (v := 2) S.1 S.2.1 dL_law_932 (by decide) ?_
      refine lv_iadd S.1 S.2.1 dL_law_933 ?_
      refine va_sld S.1 S.2.1 hX hbl hbA w.2.2 g2 dL_law_934 ?_
      refine fM_i S K w hA (c_X11_mark l D cs am V.1 V.2.1 V.2.2 (xs (nI k + 1).toNatClampNeg) (xs (nI k + 2).toNatClampNeg) r e2) (cw_L_125 S.2.2.2.2 ⟨(Nat.le_of_ble_eq_true rfl), (Nat.le_of_ble_eq_true rfl)⟩) rfl hl.1 rfl (Nat.le_of_ble_eq_true rfl) ⟨(Nat.le_of_ble_eq_true rfl), (Nat.le_of_ble_eq_true rfl)⟩ dL_law_935 (fun H locs w => ?_)
      refine lv_icmp_eq (tgt := 1026) S.1 S.2.1 dL_law_938 (by decide) (fun c2 => ?_) (fun c2 => ?_)
      · exact nxt q.2 r.2 hR2 ax am _ _ w ls hl
      · exact absurd e3 c2
    by_cases c_27 : xs (nI k).toNatClampNeg &&& 31 = (27 : Int32)
    · refine lv_tableIn (tgt := 943) S.1 S.2.1 dL_law_32 (by rw [c_27]; decide) (by rw [c_27]; decide) (off := 911) (by rw [c_27]; decide) (by decide) ?_
      obtain ⟨q, r, e1, e2, e3, hR2⟩ := h_keep (xs (nI k + 1).toNatClampNeg) U V hR
      refine lv_aload_n S.1 S.2.1 dL_law_943 rfl (lv_at hl 1 rfl) ?_
      refine lv_aload_n S.1 S.2.1 dL_law_944 rfl (lv_at hl 0 rfl) ?_
      refine lv_iload_n S.1 S.2.1 dL_law_945 rfl (lv_at hl 3 rfl) ?_
      refine lv_iconst (v := 1) S.1 S.2.1 dL_law_946 (by decide) ?_
      refine lv_iadd S.1 S.2.1 dL_law_947 ?_
      refine va_sld S.1 S.2.1 hX hbl hbA w.2.2 g1 dL_law_948 ?_
      refine fX_i S K w hA (c_X10_keep l D cs ax U.1 U.2.1 U.2.2 (xs (nI k + 1).toNatClampNeg) q e1) (cw_L_126 S.2.2.2.2 ⟨(Nat.le_of_ble_eq_true rfl), (Nat.le_of_ble_eq_true rfl)⟩) rfl hl.1 rfl (Nat.le_of_ble_eq_true rfl) ⟨(Nat.le_of_ble_eq_true rfl), (Nat.le_of_ble_eq_true rfl)⟩ dL_law_949 (fun H locs w => ?_)
      refine lv_aload_n S.1 S.2.1 dL_law_952 rfl (lv_at hl 2 rfl) ?_
      refine lv_aload_n S.1 S.2.1 dL_law_953 rfl (lv_at hl 0 rfl) ?_
      refine lv_iload_n S.1 S.2.1 dL_law_954 rfl (lv_at hl 3 rfl) ?_
      refine lv_iconst (v := 1) S.1 S.2.1 dL_law_955 (by decide) ?_
      refine lv_iadd S.1 S.2.1 dL_law_956 ?_
      refine va_sld S.1 S.2.1 hX hbl hbA w.2.2 g1 dL_law_957 ?_
      refine fM_i S K w hA (c_X11_keep l D cs am V.1 V.2.1 V.2.2 (xs (nI k + 1).toNatClampNeg) r e2) (cw_L_129 S.2.2.2.2 ⟨(Nat.le_of_ble_eq_true rfl), (Nat.le_of_ble_eq_true rfl)⟩) rfl hl.1 rfl (Nat.le_of_ble_eq_true rfl) ⟨(Nat.le_of_ble_eq_true rfl), (Nat.le_of_ble_eq_true rfl)⟩ dL_law_958 (fun H locs w => ?_)
      refine lv_icmp_eq (tgt := 1026) S.1 S.2.1 dL_law_961 (by decide) (fun c2 => ?_) (fun c2 => ?_)
      · exact nxt q.2 r.2 hR2 ax am _ _ w ls hl
      · exact absurd e3 c2
    by_cases c_28 : xs (nI k).toNatClampNeg &&& 31 = (28 : Int32)
    · refine lv_tableIn (tgt := 966) S.1 S.2.1 dL_law_32 (by rw [c_28]; decide) (by rw [c_28]; decide) (off := 934) (by rw [c_28]; decide) (by decide) ?_
      obtain ⟨q, r, e1, e2, e3, hR2⟩ := h_back (xs (nI k + 1).toNatClampNeg) U V hR
      refine lv_aload_n S.1 S.2.1 dL_law_966 rfl (lv_at hl 1 rfl) ?_
      refine lv_aload_n S.1 S.2.1 dL_law_967 rfl (lv_at hl 0 rfl) ?_
      refine lv_iload_n S.1 S.2.1 dL_law_968 rfl (lv_at hl 3 rfl) ?_
      refine lv_iconst (v := 1) S.1 S.2.1 dL_law_969 (by decide) ?_
      refine lv_iadd S.1 S.2.1 dL_law_970 ?_
      refine va_sld S.1 S.2.1 hX hbl hbA w.2.2 g1 dL_law_971 ?_
      refine fX_i S K w hA (c_X10_back l D cs ax U.1 U.2.1 U.2.2 (xs (nI k + 1).toNatClampNeg) q e1) (cw_L_130 S.2.2.2.2 ⟨(Nat.le_of_ble_eq_true rfl), (Nat.le_of_ble_eq_true rfl)⟩) rfl hl.1 rfl (Nat.le_of_ble_eq_true rfl) ⟨(Nat.le_of_ble_eq_true rfl), (Nat.le_of_ble_eq_true rfl)⟩ dL_law_972 (fun H locs w => ?_)
      refine lv_aload_n S.1 S.2.1 dL_law_975 rfl (lv_at hl 2 rfl) ?_
      refine lv_aload_n S.1 S.2.1 dL_law_976 rfl (lv_at hl 0 rfl) ?_
      refine lv_iload_n S.1 S.2.1 dL_law_977 rfl (lv_at hl 3 rfl) ?_
      refine lv_iconst (v := 1) S.1 S.2.1 dL_law_978 (by decide) ?_
      refine lv_iadd S.1 S.2.1 dL_law_979 ?_
      refine va_sld S.1 S.2.1 hX hbl hbA w.2.2 g1 dL_law_980 ?_
      refine fM_i S K w hA (c_X11_back l D cs am V.1 V.2.1 V.2.2 (xs (nI k + 1).toNatClampNeg) r e2) (cw_L_133 S.2.2.2.2 ⟨(Nat.le_of_ble_eq_true rfl), (Nat.le_of_ble_eq_true rfl)⟩) rfl hl.1 rfl (Nat.le_of_ble_eq_true rfl) ⟨(Nat.le_of_ble_eq_true rfl), (Nat.le_of_ble_eq_true rfl)⟩ dL_law_981 (fun H locs w => ?_)
      refine lv_icmp_eq (tgt := 1026) S.1 S.2.1 dL_law_984 (by decide) (fun c2 => ?_) (fun c2 => ?_)
      · exact nxt q.2 r.2 hR2 ax am _ _ w ls hl
      · exact absurd e3 c2
    by_cases c_29 : xs (nI k).toNatClampNeg &&& 31 = (29 : Int32)
    · refine lv_tableIn (tgt := 989) S.1 S.2.1 dL_law_32 (by rw [c_29]; decide) (by rw [c_29]; decide) (off := 957) (by rw [c_29]; decide) (by decide) ?_
      obtain ⟨q, r, e1, e2, e3, hR2⟩ := h_count (xs (nI k + 1).toNatClampNeg) U V hR
      refine lv_aload_n S.1 S.2.1 dL_law_989 rfl (lv_at hl 1 rfl) ?_
      refine lv_aload_n S.1 S.2.1 dL_law_990 rfl (lv_at hl 0 rfl) ?_
      refine lv_iload_n S.1 S.2.1 dL_law_991 rfl (lv_at hl 3 rfl) ?_
      refine lv_iconst (v := 1) S.1 S.2.1 dL_law_992 (by decide) ?_
      refine lv_iadd S.1 S.2.1 dL_law_993 ?_
      refine va_sld S.1 S.2.1 hX hbl hbA w.2.2 g1 dL_law_994 ?_
      refine fX_i S K w hA (c_X10_count l D cs ax U.1 U.2.1 U.2.2 (xs (nI k + 1).toNatClampNeg) q.1 e1.1) (cw_L_134 S.2.2.2.2 ⟨(Nat.le_of_ble_eq_true rfl), (Nat.le_of_ble_eq_true rfl)⟩) rfl hl.1 rfl (Nat.le_of_ble_eq_true rfl) ⟨(Nat.le_of_ble_eq_true rfl), (Nat.le_of_ble_eq_true rfl)⟩ dL_law_995 (fun H locs w => ?_)
      refine lv_aload_n S.1 S.2.1 dL_law_998 rfl (lv_at hl 2 rfl) ?_
      refine lv_aload_n S.1 S.2.1 dL_law_999 rfl (lv_at hl 0 rfl) ?_
      refine lv_iload_n S.1 S.2.1 dL_law_1000 rfl (lv_at hl 3 rfl) ?_
      refine lv_iconst (v := 1) S.1 S.2.1 dL_law_1001 (by decide) ?_
      refine lv_iadd S.1 S.2.1 dL_law_1002 ?_
      refine va_sld S.1 S.2.1 hX hbl hbA w.2.2 g1 dL_law_1003 ?_
      refine fM_i S K w hA (c_X11_count l D cs am V.1 V.2.1 V.2.2 (xs (nI k + 1).toNatClampNeg) r.1 e2.1) (cw_L_137 S.2.2.2.2 ⟨(Nat.le_of_ble_eq_true rfl), (Nat.le_of_ble_eq_true rfl)⟩) rfl hl.1 rfl (Nat.le_of_ble_eq_true rfl) ⟨(Nat.le_of_ble_eq_true rfl), (Nat.le_of_ble_eq_true rfl)⟩ dL_law_1004 (fun H locs w => ?_)
      rw [e1.2, e2.2] at hR2
      refine lv_icmp_eq (tgt := 1026) S.1 S.2.1 dL_law_1007 (by decide) (fun c2 => ?_) (fun c2 => ?_)
      · exact nxt U V hR2 ax am _ _ w ls hl
      · exact absurd e3 c2
    by_cases c_30 : xs (nI k).toNatClampNeg &&& 31 = (30 : Int32)
    · refine lv_tableIn (tgt := 1012) S.1 S.2.1 dL_law_32 (by rw [c_30]; decide) (by rw [c_30]; decide) (off := 980) (by rw [c_30]; decide) (by decide) ?_
      obtain ⟨q, r, e1, e2, e3, hR2⟩ := h_trace U V hR
      refine lv_aload_n S.1 S.2.1 dL_law_1012 rfl (lv_at hl 1 rfl) ?_
      refine fX_l S K w hA (c_X10_trace l D cs ax U.1 U.2.1 U.2.2 q.1 e1.1) (cw_L_138 S.2.2.2.2 ⟨(Nat.le_of_ble_eq_true rfl), (Nat.le_of_ble_eq_true rfl)⟩) rfl hl.1 rfl (Nat.le_of_ble_eq_true rfl) ⟨(Nat.le_of_ble_eq_true rfl), (Nat.le_of_ble_eq_true rfl)⟩ dL_law_1013 (fun H locs w => ?_)
      refine lv_aload_n S.1 S.2.1 dL_law_1016 rfl (lv_at hl 2 rfl) ?_
      refine fM_l S K w hA (c_X11_trace l D cs am V.1 V.2.1 V.2.2 r.1 e2.1) (cw_L_142 S.2.2.2.2 ⟨(Nat.le_of_ble_eq_true rfl), (Nat.le_of_ble_eq_true rfl)⟩) rfl hl.1 rfl (Nat.le_of_ble_eq_true rfl) ⟨(Nat.le_of_ble_eq_true rfl), (Nat.le_of_ble_eq_true rfl)⟩ dL_law_1017 (fun H locs w => ?_)
      refine W.lcmp S.1 S.2.1 dL_law_1020 ?_
      rw [e1.2, e2.2] at hR2
      refine lv_if_eq (tgt := 1026) S.1 S.2.1 dL_law_1021 (by decide) (fun c2 => ?_) (fun c2 => ?_)
      · exact nxt U V hR2 ax am _ _ w ls hl
      · exact absurd (by rw [e3]; exact lg_cmp_self _) c2
    refine lv_tableOut (tgt := 1026) S.1 S.2.1 dL_law_32 (by have := lv_neT (k := (0 : Int32)) (a := 0) c_0 (by decide); have := lv_neT (k := (1 : Int32)) (a := 1) c_1 (by decide); have := lv_neT (k := (2 : Int32)) (a := 2) c_2 (by decide); have := lv_neT (k := (3 : Int32)) (a := 3) c_3 (by decide); have := lv_neT (k := (4 : Int32)) (a := 4) c_4 (by decide); have := lv_neT (k := (5 : Int32)) (a := 5) c_5 (by decide); have := lv_neT (k := (6 : Int32)) (a := 6) c_6 (by decide); have := lv_neT (k := (7 : Int32)) (a := 7) c_7 (by decide); have := lv_neT (k := (8 : Int32)) (a := 8) c_8 (by decide); have := lv_neT (k := (9 : Int32)) (a := 9) c_9 (by decide); have := lv_neT (k := (10 : Int32)) (a := 10) c_10 (by decide); have := lv_neT (k := (11 : Int32)) (a := 11) c_11 (by decide); have := lv_neT (k := (12 : Int32)) (a := 12) c_12 (by decide); have := lv_neT (k := (13 : Int32)) (a := 13) c_13 (by decide); have := lv_neT (k := (14 : Int32)) (a := 14) c_14 (by decide); have := lv_neT (k := (15 : Int32)) (a := 15) c_15 (by decide); have := lv_neT (k := (16 : Int32)) (a := 16) c_16 (by decide); have := lv_neT (k := (17 : Int32)) (a := 17) c_17 (by decide); have := lv_neT (k := (18 : Int32)) (a := 18) c_18 (by decide); have := lv_neT (k := (19 : Int32)) (a := 19) c_19 (by decide); have := lv_neT (k := (20 : Int32)) (a := 20) c_20 (by decide); have := lv_neT (k := (21 : Int32)) (a := 21) c_21 (by decide); have := lv_neT (k := (22 : Int32)) (a := 22) c_22 (by decide); have := lv_neT (k := (23 : Int32)) (a := 23) c_23 (by decide); have := lv_neT (k := (24 : Int32)) (a := 24) c_24 (by decide); have := lv_neT (k := (25 : Int32)) (a := 25) c_25 (by decide); have := lv_neT (k := (26 : Int32)) (a := 26) c_26 (by decide); have := lv_neT (k := (27 : Int32)) (a := 27) c_27 (by decide); have := lv_neT (k := (28 : Int32)) (a := 28) c_28 (by decide); have := lv_neT (k := (29 : Int32)) (a := 29) c_29 (by decide); have := lv_neT (k := (30 : Int32)) (a := 30) c_30 (by decide); omega) (by decide) ?_
    exact nxt U V hR ax am H locs w ls hl
