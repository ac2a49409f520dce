/-! the two case files change places; super and overriding calls; fields of a nest mate -/
def zpA (k : Nat) : Nat := if k = 10 then 11 else if k = 11 then 10 else if k = 29 then 38 else if k = 30 then 39 else if k = 31 then 40 else if k = 32 then 41 else if k = 33 then 42 else if k = 34 then 43 else if k = 35 then 44 else if k = 36 then 45 else if k = 37 then 46 else if k = 38 then 29 else if k = 39 then 30 else if k = 40 then 31 else if k = 41 then 32 else if k = 42 then 33 else if k = 43 then 34 else if k = 44 then 35 else if k = 45 then 36 else if k = 46 then 37 else k
def zpF (k : Nat) : Nat := if k = 22 then 28 else if k = 23 then 29 else if k = 24 then 30 else if k = 25 then 31 else if k = 26 then 32 else if k = 27 then 33 else if k = 28 then 22 else if k = 29 then 23 else if k = 30 then 24 else if k = 31 then 25 else if k = 32 then 26 else if k = 33 then 27 else k
def zsw (ad : Nat → Nat) : Nat → Nat := fun k => ad (zpA k)
def zswF (F : ZF) : ZF := fun k => F (zpF k)
def zswA (A : ZA) : ZA := fun k => A (zpA k)
section Z6
variable {p : Program} {l : Launch} {e : Env} {R : Room} {s : State} {m : MethodId} {args : Array Value} {below : List Frame} {meth : Method} {c : Code} {H : Heap} {locs : List Loc} {cells slots : Nat} {Q : State → Prop} {cc : ByteArray} {pc nL : Nat} {ls : Array Slot} {rest : List Value} {own : String} {D : va_G} {cs : Nat → ClassId} {ad : Nat → Nat} {A0 : Nat → Prop} {H0 : Heap} {F : Nat → Int32} {A : Nat → Nat → Int32} {T : Int64} {td dr : Nat} {index : Nat}
set_option maxRecDepth 20000 in
theorem zsw_w (w : ZW D A0 H0 (XWc cs ad 11 10 F A T) H locs) : ZW D A0 H0 (XWc cs (zsw ad) 10 11 (zswF F) (zswA A) T) H locs :=
  ⟨w.1.sub [0, 1, 2, 3, 4, 5, 6, 7, 8, 9, 11, 10, 12, 13, 14, 15, 16, 17, 18, 19, 20, 21, 22, 23, 24, 25, 26, 27, 28, 38, 39, 40, 41, 42, 43, 44, 45, 46, 29, 30, 31, 32, 33, 34, 35, 36, 37] rfl, w.2.1.sub [0, 1, 2, 3, 4, 5, 6, 7, 8, 9, 11, 10, 12, 13, 14, 15, 16, 17, 18, 19, 20, 21, 22, 23, 24, 25, 26, 27, 28, 38, 39, 40, 41, 42, 43, 44, 45, 46, 29, 30, 31, 32, 33, 34, 35, 36, 37] (by decide) rfl, w.2.2⟩
theorem pX_0_11 (S : CallFix p m c cc nL s args zWs own) (K : ZK D cs s) (w : ZW D A0 H0 (XWc cs ad td dr F A T) H locs) {k : Nat} (hl : Cond.fieldLink own index "FifthsOfGuilt" "told" "LFifthsOfGuilt$CaseFile;" ∈ zWs) (hd : decode cc pc = .ok (.putfield index, 3)) (kk : ∀ (H1 : Heap) (locs1 : List Loc), ZW D A0 H0 (XWc cs ad k dr F A T) H1 locs1 → W p l e R s m args below meth c H1 locs1 cells slots Q (F0 m (pc + 3) ls rest)) : W p l e R s m args below meth c H locs cells slots Q (F0 m pc ls (.ref (ad k) :: .ref (ad 0) :: rest)) :=
  z_put (C := RX10) (T := TX10) (N := 13) (ci := 10) (ty := .object "FifthsOfGuilt$CaseFile") S K w inZ10 tyX10 tyX10_ok nmX10 0 rfl rfl 11 (by decide) hl rfl rfl rfl rfl rfl (Nat.le_of_ble_eq_true rfl) rfl hd kk
theorem pX_0_12 (S : CallFix p m c cc nL s args zWs own) (K : ZK D cs s) (w : ZW D A0 H0 (XWc cs ad td dr F A T) H locs) {k : Nat} (hl : Cond.fieldLink own index "FifthsOfGuilt" "draft" "LFifthsOfGuilt$CaseFile;" ∈ zWs) (hd : decode cc pc = .ok (.putfield index, 3)) (kk : ∀ (H1 : Heap) (locs1 : List Loc), ZW D A0 H0 (XWc cs ad td k F A T) H1 locs1 → W p l e R s m args below meth c H1 locs1 cells slots Q (F0 m (pc + 3) ls rest)) : W p l e R s m args below meth c H locs cells slots Q (F0 m pc ls (.ref (ad k) :: .ref (ad 0) :: rest)) :=
  z_put (C := RX10) (T := TX10) (N := 13) (ci := 10) (ty := .object "FifthsOfGuilt$CaseFile") S K w inZ10 tyX10 tyX10_ok nmX10 0 rfl rfl 12 (by decide) hl rfl rfl rfl rfl rfl (Nat.le_of_ble_eq_true rfl) rfl hd kk
theorem nX_0_1 (S : CallFix p m c cc nL s args zWs own) (K : ZK D cs s) (w : ZW D A0 H0 (XWc cs ad td dr F A T) H locs) (hl : Cond.fieldLinkNest own index "FifthsOfGuilt" "scales" "LFifthsOfGuilt$Scales;" "FifthsOfGuilt" ∈ zNs) (hd : decode cc pc = .ok (.getfield index, 3)) (kk : W p l e R s m args below meth c H locs cells slots Q (F0 m (pc + 3) ls (.ref (ad 2) :: rest))) : W p l e R s m args below meth c H locs cells slots Q (F0 m pc ls (.ref (ad 0) :: rest)) :=
  z_getN (C := RX10) (T := TX10) (N := 13) (ci := 10) S K w inZ10 0 rfl rfl 1 (by decide) hl rfl rfl hd kk
theorem nX_0_2 (S : CallFix p m c cc nL s args zWs own) (K : ZK D cs s) (w : ZW D A0 H0 (XWc cs ad td dr F A T) H locs) (hl : Cond.fieldLinkNest own index "FifthsOfGuilt" "present" "LFifthsOfGuilt$Standing;" "FifthsOfGuilt" ∈ zNs) (hd : decode cc pc = .ok (.getfield index, 3)) (kk : W p l e R s m args below meth c H locs cells slots Q (F0 m (pc + 3) ls (.ref (ad 3) :: rest))) : W p l e R s m args below meth c H locs cells slots Q (F0 m pc ls (.ref (ad 0) :: rest)) :=
  z_getN (C := RX10) (T := TX10) (N := 13) (ci := 10) S K w inZ10 0 rfl rfl 2 (by decide) hl rfl rfl hd kk
theorem nX_0_10 (S : CallFix p m c cc nL s args zWs own) (K : ZK D cs s) (w : ZW D A0 H0 (XWc cs ad td dr F A T) H locs) (hl : Cond.fieldLinkNest own index "FifthsOfGuilt" "trace" "J" "FifthsOfGuilt" ∈ zNs) (hd : decode cc pc = .ok (.getfield index, 3)) (kk : W p l e R s m args below meth c H locs cells slots Q (F0 m (pc + 3) ls (.long T :: rest))) : W p l e R s m args below meth c H locs cells slots Q (F0 m pc ls (.ref (ad 0) :: rest)) :=
  z_getN (C := RX10) (T := TX10) (N := 13) (ci := 10) S K w inZ10 0 rfl rfl 10 (by decide) hl rfl rfl hd kk
theorem nX_0_11 (S : CallFix p m c cc nL s args zWs own) (K : ZK D cs s) (w : ZW D A0 H0 (XWc cs ad td dr F A T) H locs) (hl : Cond.fieldLinkNest own index "FifthsOfGuilt" "told" "LFifthsOfGuilt$CaseFile;" "FifthsOfGuilt" ∈ zNs) (hd : decode cc pc = .ok (.getfield index, 3)) (kk : W p l e R s m args below meth c H locs cells slots Q (F0 m (pc + 3) ls (.ref (ad td) :: rest))) : W p l e R s m args below meth c H locs cells slots Q (F0 m pc ls (.ref (ad 0) :: rest)) :=
  z_getN (C := RX10) (T := TX10) (N := 13) (ci := 10) S K w inZ10 0 rfl rfl 11 (by decide) hl rfl rfl hd kk
theorem mX_0_10 (S : CallFix p m c cc nL s args zWs own) (K : ZK D cs s) (w : ZW D A0 H0 (XWc cs ad td dr F A T) H locs) {v : Int64} (hl : Cond.fieldLinkNest own index "FifthsOfGuilt" "trace" "J" "FifthsOfGuilt" ∈ zNs) (hd : decode cc pc = .ok (.putfield index, 3)) (kk : ∀ (H1 : Heap) (locs1 : List Loc), ZW D A0 H0 (XWc cs ad td dr F A v) H1 locs1 → W p l e R s m args below meth c H1 locs1 cells slots Q (F0 m (pc + 3) ls rest)) : W p l e R s m args below meth c H locs cells slots Q (F0 m pc ls (.long v :: .ref (ad 0) :: rest)) :=
  z_putN (C := RX10) (T := TX10) (N := 13) (ci := 10) (ty := .long) S K w inZ10 tyX10 tyX10_ok nmX10 0 rfl rfl 10 (by decide) hl rfl rfl rfl rfl rfl (Nat.le_of_ble_eq_true rfl) rfl hd kk
end Z6
theorem z_gO {own C owner : String} {idx n : Nat} {x y : MethodName} {bytes : ByteArray} {ret : Option FieldType} (h1 : Cond.methodLink own idx x ∈ zWs) (h2 : Cond.sameMethod x.cls owner x.name x.desc ∈ zWs) (h3 : Cond.instanceMethod ⟨owner, x.name, x.desc⟩ ∈ zWs) (h4 : Cond.selects C x y ∈ zWs) (h5 : Cond.instanceMethod y ∈ zWs) (h6 : Cond.initialized y.cls ∈ zWs) (h7 : Cond.code y bytes n ret ∈ zWs) : GoodIn zWs (va_wsO own idx C owner x y (.code y bytes n ret :: zWs)) := by
  intro w hw
  refine z_good ?_
  unfold va_wsO at hw
  simp only [List.cons_append, List.nil_append, List.mem_cons] at hw
  rcases hw with rfl | rfl | rfl | rfl | rfl | rfl | rfl | hw <;> assumption
theorem z_gU {own : String} {idx n : Nat} {y : MethodName} {bytes : ByteArray} {ret : Option FieldType} (h1 : Cond.methodLink own idx y ∈ zWs) (h2 : Cond.sameMethod y.cls y.cls y.name y.desc ∈ zWs) (h3 : Cond.superclass own y.cls ∈ zWs) (h5 : Cond.instanceMethod y ∈ zWs) (h6 : Cond.initialized y.cls ∈ zWs) (h7 : Cond.code y bytes n ret ∈ zWs) : GoodIn zWs (va_wsSU own idx y (.code y bytes n ret :: zWs)) := by
  intro w hw
  refine z_good ?_
  unfold va_wsSU at hw
  simp only [List.cons_append, List.nil_append, List.mem_cons] at hw
  rcases hw with rfl | rfl | rfl | rfl | rfl | rfl | hw <;> assumption
section Z7
variable {p : Program} {l : Launch} {e : Env} {R : Room} {s : State} {m : MethodId} {args : Array Value} {below : List Frame} {meth : Method} {c : Code} {H : Heap} {locs : List Loc} {cells slots : Nat} {Q : State → Prop} {cc : ByteArray} {pc nL : Nat} {ls : Array Slot} {rest : List Value} {own : String} {D : va_G} {cs : Nat → ClassId} {ad : Nat → Nat} {WF : ZF → ZA → Int64 → va_W} {A0 : Nat → Prop} {H0 : Heap} {F : ZF} {A : ZA} {T : Int64} {index : Nat} {av : List Value}
variable {x y : MethodName} {bytes : ByteArray} {maxL n : Nat} {ret : Option FieldType} {rm : Room} {C owner host : String} {b : Nat} {As st0 : List Value}
theorem z_callOi {q : Int32 × ZS} {φ : Prop} (S : CallFix p m c cc nL s args zWs own) (K : ZK D cs s) (w : ZW D A0 H0 (WF F A T) H locs) (hA : ∀ q : Nat, H0.size ≤ q → A0 q) (hM : zMi l D cs WF y bytes maxL ret rm (.ref b :: As) F A T q φ) (cw : va_CU R s args own C owner index x y bytes maxL ret (.code y bytes maxL ret :: zWs) rm 0 0 n) (hrec : ∃ cell : Cell, H[b]? = some cell ∧ cell.vm.isStatics = false ∧ s.vm.findClass C = some cell.cls) (hn : As.length = n) (hsz : ls.size = nL) (hst : st0 = As.reverse ++ .ref b :: rest) (hW : (rest.map fun v => v.category).sum ≤ 8) (hf : cells ≤ R.cells ∧ slots ≤ R.slots) (hd : decode cc pc = .ok (.invokevirtual index, 3))
    (kk : φ → ∀ (H1 : Heap) (locs1 : List Loc), ZW D A0 H0 (WF q.2.1 q.2.2.1 q.2.2.2) H1 locs1 → W p l e R s m args below meth c H1 locs1 cells slots Q (F0 m (pc + 3) ls (.int q.1 :: rest))) : W p l e R s m args below meth c H locs cells slots Q (F0 m pc ls st0) := by
  have hF := z_free w hA
  refine va_calli (va_runU S (hM H.size) cw ⟨z_blind, hrec, z_pre K w⟩ rfl hn hsz hst (lv_room hW) hd hf) w.2.2 (fun q _ h => hF q h) hF (fun r u t H1 locs1 ht hvm hw hB hz1 hk1 hS => ?_)
  obtain ⟨rfl, rfl, hφ⟩ := hw
  exact kk hφ H1 locs1 ⟨by rw [← ht]; exact hB.1, hB.2.weaken (fun _ _ _ h => hF _ h), hS⟩
theorem z_callUi {q : Int32 × ZS} {φ : Prop} {ci : Nat} {TT : u_T} {N : Nat} (S : CallFix p m c cc nL s args zWs own) (K : ZK D cs s) (w : ZW D A0 H0 (WF F A T) H locs) (hA : ∀ q : Nat, H0.size ≤ q → A0 q) (hM : zMi l D cs WF y bytes maxL ret rm (.ref b :: As) F A T q φ) (cw : va_CS R s args own index y bytes maxL ret (.code y bytes maxL ret :: zWs) rm 0 0 n) (hc : vwCl[ci]? = some (C, TT, N)) (hrec : ∃ cell : Cell, H[b]? = some cell ∧ cell.vm.isStatics = false ∧ s.vm.findClass C = some cell.cls) (hn : As.length = n) (hsz : ls.size = nL) (hst : st0 = As.reverse ++ .ref b :: rest) (hW : (rest.map fun v => v.category).sum ≤ 8) (hf : cells ≤ R.cells ∧ slots ≤ R.slots) (hd : decode cc pc = .ok (.invokespecial index, 3))
    (kk : φ → ∀ (H1 : Heap) (locs1 : List Loc), ZW D A0 H0 (WF q.2.1 q.2.2.1 q.2.2.2) H1 locs1 → W p l e R s m args below meth c H1 locs1 cells slots Q (F0 m (pc + 3) ls (.int q.1 :: rest))) : W p l e R s m args below meth c H locs cells slots Q (F0 m pc ls st0) := by
  have hF := z_free w hA
  refine va_calli (va_runSU (K.1.1 ci _ hc).2 S (hM H.size) cw ⟨z_blind, hrec, z_pre K w⟩ rfl hn hsz hst (lv_room hW) hd hf) w.2.2 (fun q _ h => hF q h) hF (fun r u t H1 locs1 ht hvm hw hB hz1 hk1 hS => ?_)
  obtain ⟨rfl, rfl, hφ⟩ := hw
  exact kk hφ H1 locs1 ⟨by rw [← ht]; exact hB.1, hB.2.weaken (fun _ _ _ h => hF _ h), hS⟩
def zBc (cs : Nat → ClassId) (ad : Nat → Nat) (D : va_G) (A0 : Nat → Prop) : ZS → State → Prop := fun u t => ∃ ad' : Nat → Nat, ad' 0 = ad 0 ∧ va_P D vwCl (XWc cs ad' 10 11 u.1 u.2.1 u.2.2) t.heap ∧ va_D A0 (XWc cs ad' 10 11 u.1 u.2.1 u.2.2)
def zMc (l : Launch) (D : va_G) (cs : Nat → ClassId) (ad : Nat → Nat) (y : MethodName) (cc : ByteArray) (n : Nat) (ret : Option FieldType) (rm : Room) (av : List Value) (F : ZF) (A : ZA) (T : Int64) (q : Int32 × ZS) : Prop :=
  ∀ sz : Nat, Met l y (.code y cc n ret :: zWs) rm (va_Pc av (zPre D cs (XWc cs ad 10 11 F A T) sz)) (va_Qi (fun r2 u => r2 = q.1 ∧ u = q.2) (zBc cs ad D (va_A (XWc cs ad 10 11 F A T) sz)) (va_A (XWc cs ad 10 11 F A T) sz)) 0 0 (va_A (XWc cs ad 10 11 F A T) sz)
def zQc (cs : Nat → ClassId) (ad : Nat → Nat) (D : va_G) (A0 : Nat → Prop) (below : List Frame) (av : List Value) (s : State) (q : Int32 × ZS) : State → Prop := MQ below (va_Qi (fun r2 u => r2 = q.1 ∧ u = q.2) (zBc cs ad D A0) A0) av.toArray s 0 0 A0
theorem z_enterc {q : Int32 × ZS} (hy : plainName y.cls = true) (hn : (lg_sl av).length ≤ n) (body : ∀ (p : Program) (e : Env) (s : State) (m : MethodId) (below : List Frame) (meth : Method) (c : Code) (A0 : Nat → Prop) (ls : Array Slot), CallFix p m c cc n s av.toArray zWs y.cls → ZK D cs s → ZW D A0 s.heap (XWc cs ad 10 11 F A T) s.heap [] → (∀ q : Nat, s.heap.size ≤ q → A0 q) → meth.sig.returnType = ret → meth.locks = false → lv_has ls n (lv_args 0 av) → W p l e rm s m av.toArray below meth c s.heap [] 0 0 (zQc cs ad D A0 below av s q) (F0 m 0 ls [])) : zMc l D cs ad y cc n ret rm av F A T q := by
  intro sz
  refine Met.ofW (cc := cc) (maxL := n) (ret := ret) hy rfl ?_
  intro p e s m args below meth c s₁ B hml hv
  obtain ⟨rfl, rfl, hP, K, hD0⟩ := hv
  have hz : ∀ w ∈ zWs, w.before av.toArray s = true := fun w hw => atoms_spec (ws := .code y cc n ret :: zWs) B.pre w (List.mem_cons_of_mem _ hw)
  have hD := hD0.self (sz := s.heap.size)
  generalize hAe : va_A (XWc cs ad 10 11 F A T) s.heap.size = A0 at hD ⊢
  have hA : ∀ q : Nat, s.heap.size ≤ q → A0 q := fun q h => by rw [← hAe]; exact Or.inr h
  have hl := lv_entry av (n := n) hn
  rw [lg_entry_eq]
  exact body p e s m below meth c A0 _ ⟨B.exec, B.bytes, hml, findClass_of_methodNamed B.named, hz⟩ K ⟨hP, hD, va_S.rf⟩ hA B.returns B.notSynchronized hl
theorem z_retc {q : Int32 × ZS} {v : Int32} {ad' : Nat → Nat} (S : CallFix p m c cc nL s av.toArray zWs own) (w : ZW D A0 s.heap (XWc cs ad' 10 11 F A T) H locs) (h0 : ad' 0 = ad 0) (hr : meth.sig.returnType = some .int) (hlk : meth.locks = false) (hd : decode cc pc = .ok (.ireturn, 1)) (hq : q = (v, F, A, T)) : W p l e R s m av.toArray below meth c H locs 0 0 (zQc cs ad D A0 below av s q) (F0 m pc ls [.int v]) := by
  subst hq
  exact W.iret S.1 S.2.1 hr (fun t ht hW => ⟨⟨v, (F, A, T), rfl, ⟨rfl, rfl⟩, ad', h0, by rw [ht]; exact w.1, w.2.1⟩, w.2.2.F ht⟩) w.2.2.2.2 hd hlk
theorem z_callVc {q : Int32 × ZS} (S : CallFix p m c cc nL s args zWs own) (K : ZK D cs s) (w : ZW D A0 H0 (XWc cs ad 10 11 F A T) H locs) (hA : ∀ q : Nat, H0.size ≤ q → A0 q) (hM : zMc l D cs ad y bytes maxL ret rm (.ref b :: As) F A T q) (cw : CallW R s args own C index y bytes maxL ret (.code y bytes maxL ret :: zWs) rm 0 0 n) (hrec : ∃ cell : Cell, H[b]? = some cell ∧ cell.vm.isStatics = false ∧ s.vm.findClass C = some cell.cls) (hn : As.length = n) (hsz : ls.size = nL) (hst : st0 = As.reverse ++ .ref b :: rest) (hW : (rest.map fun v => v.category).sum ≤ 8) (hf : cells ≤ R.cells ∧ slots ≤ R.slots) (hd : decode cc pc = .ok (.invokevirtual index, 3))
    (kk : ∀ (ad' : Nat → Nat) (H1 : Heap) (locs1 : List Loc), ad' 0 = ad 0 → ZW D A0 H0 (XWc cs ad' 10 11 q.2.1 q.2.2.1 q.2.2.2) H1 locs1 → W p l e R s m args below meth c H1 locs1 cells slots Q (F0 m (pc + 3) ls (.int q.1 :: rest))) : W p l e R s m args below meth c H locs cells slots Q (F0 m pc ls st0) := by
  have hF := z_free w hA
  refine va_calli (va_runV S (hM H.size) cw ⟨z_blind, hrec, z_pre K w⟩ rfl hn hsz hst (lv_room hW) hd hf) w.2.2 (fun q _ h => hF q h) hF (fun r u t H1 locs1 ht hvm hw hB hz1 hk1 hS => ?_)
  obtain ⟨rfl, rfl⟩ := hw
  obtain ⟨ad', h0, hB1, hB2⟩ := hB
  exact kk ad' H1 locs1 h0 ⟨by rw [← ht]; exact hB1, hB2.weaken (fun _ _ _ h => hF _ h), hS⟩
end Z7
