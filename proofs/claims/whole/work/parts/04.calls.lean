/-! contracts over a whole world: enter, leave, call -/
def zPre (D : va_G) (cs : Nat → ClassId) (ws : va_W) (sz : Nat) : State → Prop := fun U => U.heap.size = sz ∧ va_P D vwCl ws U.heap ∧ ZK D cs U ∧ va_D (fun _ => True) ws
def zB (WF : ZF → ZA → Int64 → va_W) (D : va_G) (A0 : Nat → Prop) : ZS → State → Prop := fun u t => va_P D vwCl (WF u.1 u.2.1 u.2.2) t.heap ∧ va_D A0 (WF u.1 u.2.1 u.2.2)
def zMi (l : Launch) (D : va_G) (cs : Nat → ClassId) (WF : ZF → ZA → Int64 → va_W) (y : MethodName) (cc : ByteArray) (n : Nat) (ret : Option FieldType) (rm : Room) (av : List Value) (F : ZF) (A : ZA) (T : Int64) (q : Int32 × ZS) (φ : Prop) : Prop :=
  ∀ sz : Nat, Met l y (.code y cc n ret :: zWs) rm (va_Pc av (zPre D cs (WF F A T) sz)) (va_Qi (fun r2 u => r2 = q.1 ∧ u = q.2 ∧ φ) (zB WF D (va_A (WF F A T) sz)) (va_A (WF F A T) sz)) 0 0 (va_A (WF F A T) sz)
def zMl (l : Launch) (D : va_G) (cs : Nat → ClassId) (WF : ZF → ZA → Int64 → va_W) (y : MethodName) (cc : ByteArray) (n : Nat) (ret : Option FieldType) (rm : Room) (av : List Value) (F : ZF) (A : ZA) (T : Int64) (q : Int64 × ZS) : Prop :=
  ∀ sz : Nat, Met l y (.code y cc n ret :: zWs) rm (va_Pc av (zPre D cs (WF F A T) sz)) (va_Ql (fun r2 u => r2 = q.1 ∧ u = q.2) (zB WF D (va_A (WF F A T) sz)) (va_A (WF F A T) sz)) 0 0 (va_A (WF F A T) sz)
def zMv (l : Launch) (D : va_G) (cs : Nat → ClassId) (WF : ZF → ZA → Int64 → va_W) (y : MethodName) (cc : ByteArray) (n : Nat) (ret : Option FieldType) (rm : Room) (av : List Value) (F : ZF) (A : ZA) (T : Int64) (q : ZS) : Prop :=
  ∀ sz : Nat, Met l y (.code y cc n ret :: zWs) rm (va_Pc av (zPre D cs (WF F A T) sz)) (va_Qv (fun u => u = q) (zB WF D (va_A (WF F A T) sz)) (va_A (WF F A T) sz)) 0 0 (va_A (WF F A T) sz)
def zQi (WF : ZF → ZA → Int64 → va_W) (D : va_G) (A0 : Nat → Prop) (below : List Frame) (av : List Value) (s : State) (q : Int32 × ZS) (φ : Prop) : State → Prop := MQ below (va_Qi (fun r2 u => r2 = q.1 ∧ u = q.2 ∧ φ) (zB WF D A0) A0) av.toArray s 0 0 A0
def zQl (WF : ZF → ZA → Int64 → va_W) (D : va_G) (A0 : Nat → Prop) (below : List Frame) (av : List Value) (s : State) (q : Int64 × ZS) : State → Prop := MQ below (va_Ql (fun r2 u => r2 = q.1 ∧ u = q.2) (zB WF D A0) A0) av.toArray s 0 0 A0
def zQv (WF : ZF → ZA → Int64 → va_W) (D : va_G) (A0 : Nat → Prop) (below : List Frame) (av : List Value) (s : State) (q : ZS) : State → Prop := MQ below (va_Qv (fun u => u = q) (zB WF D A0) A0) av.toArray s 0 0 A0
section Z3
variable {l : Launch} {D : va_G} {cs : Nat → ClassId} {WF : ZF → ZA → Int64 → va_W} {y : MethodName} {cc : ByteArray} {n : Nat} {ret : Option FieldType} {rm : Room} {av : List Value} {F : ZF} {A : ZA} {T : Int64}
theorem z_enteri {q : Int32 × ZS} {φ : Prop} (hy : plainName y.cls = true) (hn : (lg_sl av).length ≤ n) (body : ∀ (p : Program) (e : Env) (s : State) (m : MethodId) (below : List Frame) (meth : Method) (c : Code) (A0 : Nat → Prop) (ls : Array Slot), CallFix p m c cc n s av.toArray zWs y.cls → ZK D cs s → ZW D A0 s.heap (WF F A T) s.heap [] → (∀ q : Nat, s.heap.size ≤ q → A0 q) → meth.sig.returnType = ret → meth.locks = false → lv_has ls n (lv_args 0 av) → W p l e rm s m av.toArray below meth c s.heap [] 0 0 (zQi WF D A0 below av s q φ) (F0 m 0 ls [])) : zMi l D cs WF y cc n ret rm av F A T q φ := by
  intro sz
  refine Met.ofW (cc := cc) (maxL := n) (ret := ret) hy rfl ?_
  intro p e s m args below meth c s₁ B hml hv
  obtain ⟨rfl, rfl, hP, K, hD0⟩ := hv
  have hz : ∀ w ∈ zWs, w.before av.toArray s = true := fun w hw => atoms_spec (ws := .code y cc n ret :: zWs) B.pre w (List.mem_cons_of_mem _ hw)
  have hD := hD0.self (sz := s.heap.size)
  generalize hAe : va_A (WF F A T) s.heap.size = A0 at hD ⊢
  have hA : ∀ q : Nat, s.heap.size ≤ q → A0 q := fun q h => by rw [← hAe]; exact Or.inr h
  have hl := lv_entry av (n := n) hn
  rw [lg_entry_eq]
  exact body p e s m below meth c A0 _ ⟨B.exec, B.bytes, hml, findClass_of_methodNamed B.named, hz⟩ K ⟨hP, hD, va_S.rf⟩ hA B.returns B.notSynchronized hl
theorem z_enterl {q : Int64 × ZS} (hy : plainName y.cls = true) (hn : (lg_sl av).length ≤ n) (body : ∀ (p : Program) (e : Env) (s : State) (m : MethodId) (below : List Frame) (meth : Method) (c : Code) (A0 : Nat → Prop) (ls : Array Slot), CallFix p m c cc n s av.toArray zWs y.cls → ZK D cs s → ZW D A0 s.heap (WF F A T) s.heap [] → (∀ q : Nat, s.heap.size ≤ q → A0 q) → meth.sig.returnType = ret → meth.locks = false → lv_has ls n (lv_args 0 av) → W p l e rm s m av.toArray below meth c s.heap [] 0 0 (zQl WF D A0 below av s q) (F0 m 0 ls [])) : zMl l D cs WF y cc n ret rm av F A T q := by
  intro sz
  refine Met.ofW (cc := cc) (maxL := n) (ret := ret) hy rfl ?_
  intro p e s m args below meth c s₁ B hml hv
  obtain ⟨rfl, rfl, hP, K, hD0⟩ := hv
  have hz : ∀ w ∈ zWs, w.before av.toArray s = true := fun w hw => atoms_spec (ws := .code y cc n ret :: zWs) B.pre w (List.mem_cons_of_mem _ hw)
  have hD := hD0.self (sz := s.heap.size)
  generalize hAe : va_A (WF F A T) s.heap.size = A0 at hD ⊢
  have hA : ∀ q : Nat, s.heap.size ≤ q → A0 q := fun q h => by rw [← hAe]; exact Or.inr h
  have hl := lv_entry av (n := n) hn
  rw [lg_entry_eq]
  exact body p e s m below meth c A0 _ ⟨B.exec, B.bytes, hml, findClass_of_methodNamed B.named, hz⟩ K ⟨hP, hD, va_S.rf⟩ hA B.returns B.notSynchronized hl
theorem z_enterv {q : ZS} (hy : plainName y.cls = true) (hn : (lg_sl av).length ≤ n) (body : ∀ (p : Program) (e : Env) (s : State) (m : MethodId) (below : List Frame) (meth : Method) (c : Code) (A0 : Nat → Prop) (ls : Array Slot), CallFix p m c cc n s av.toArray zWs y.cls → ZK D cs s → ZW D A0 s.heap (WF F A T) s.heap [] → (∀ q : Nat, s.heap.size ≤ q → A0 q) → meth.sig.returnType = ret → meth.locks = false → lv_has ls n (lv_args 0 av) → W p l e rm s m av.toArray below meth c s.heap [] 0 0 (zQv WF D A0 below av s q) (F0 m 0 ls [])) : zMv l D cs WF y cc n ret rm av F A T q := by
  intro sz
  refine Met.ofW (cc := cc) (maxL := n) (ret := ret) hy rfl ?_
  intro p e s m args below meth c s₁ B hml hv
  obtain ⟨rfl, rfl, hP, K, hD0⟩ := hv
  have hz : ∀ w ∈ zWs, w.before av.toArray s = true := fun w hw => atoms_spec (ws := .code y cc n ret :: zWs) B.pre w (List.mem_cons_of_mem _ hw)
  have hD := hD0.self (sz := s.heap.size)
  generalize hAe : va_A (WF F A T) s.heap.size = A0 at hD ⊢
  have hA : ∀ q : Nat, s.heap.size ≤ q → A0 q := fun q h => by rw [← hAe]; exact Or.inr h
  have hl := lv_entry av (n := n) hn
  rw [lg_entry_eq]
  exact body p e s m below meth c A0 _ ⟨B.exec, B.bytes, hml, findClass_of_methodNamed B.named, hz⟩ K ⟨hP, hD, va_S.rf⟩ hA B.returns B.notSynchronized hl
end Z3
section Z4
variable {p : Program} {l : Launch} {e : Env} {R : Room} {s : State} {m : MethodId} {args : Array Value} {below : List Frame} {meth : Method} {c : Code} {H : Heap} {locs : List Loc} {cells slots : Nat} {Q : State → Prop} {cc : ByteArray} {pc nL : Nat} {ls : Array Slot} {rest : List Value} {own : String} {D : va_G} {cs : Nat → ClassId} {WF : ZF → ZA → Int64 → va_W} {A0 : Nat → Prop} {H0 : Heap} {F : ZF} {A : ZA} {T : Int64} {index : Nat} {av : List Value}
theorem z_reti {q : Int32 × ZS} {φ : Prop} {v : Int32} (S : CallFix p m c cc nL s av.toArray zWs own) (w : ZW D A0 s.heap (WF F A T) H locs) (hr : meth.sig.returnType = some .int) (hlk : meth.locks = false) (hd : decode cc pc = .ok (.ireturn, 1)) (hφ : φ) (hq : q = (v, F, A, T)) : W p l e R s m av.toArray below meth c H locs 0 0 (zQi WF D A0 below av s q φ) (F0 m pc ls [.int v]) := by
  subst hq
  exact W.iret S.1 S.2.1 hr (fun t ht hW => ⟨⟨v, (F, A, T), rfl, ⟨rfl, rfl, hφ⟩, by rw [ht]; exact w.1, w.2.1⟩, w.2.2.F ht⟩) w.2.2.2.2 hd hlk
theorem z_retz {q : Int32 × ZS} {v : Int32} (S : CallFix p m c cc nL s av.toArray zWs own) (w : ZW D A0 s.heap (WF F A T) H locs) (hr : meth.sig.returnType = some .boolean) (hlk : meth.locks = false) (hd : decode cc pc = .ok (.ireturn, 1)) (hv : v &&& 1 = v) (hq : q = (v, F, A, T)) : W p l e R s m av.toArray below meth c H locs 0 0 (zQi WF D A0 below av s q (q.1 &&& 1 = q.1)) (F0 m pc ls [.int v]) := by
  subst hq
  exact W.zret S.1 S.2.1 hr (og_n hv) (fun t ht hW => ⟨⟨v, (F, A, T), rfl, ⟨rfl, rfl, hv⟩, by rw [ht]; exact w.1, w.2.1⟩, w.2.2.F ht⟩) w.2.2.2.2 hd hlk
theorem z_retl {q : Int64 × ZS} {v : Int64} (S : CallFix p m c cc nL s av.toArray zWs own) (w : ZW D A0 s.heap (WF F A T) H locs) (hr : meth.sig.returnType = some .long) (hlk : meth.locks = false) (hd : decode cc pc = .ok (.lreturn, 1)) (hq : q = (v, F, A, T)) : W p l e R s m av.toArray below meth c H locs 0 0 (zQl WF D A0 below av s q) (F0 m pc ls [.long v]) := by
  subst hq
  exact W.lret S.1 S.2.1 hr (fun t ht hW => ⟨⟨v, (F, A, T), rfl, ⟨rfl, rfl⟩, by rw [ht]; exact w.1, w.2.1⟩, w.2.2.F ht⟩) w.2.2.2.2 hd hlk
theorem z_retv {q : ZS} (S : CallFix p m c cc nL s av.toArray zWs own) (w : ZW D A0 s.heap (WF F A T) H locs) (hr : meth.sig.returnType = none) (hlk : meth.locks = false) (hd : decode cc pc = .ok (.return_, 1)) (hq : q = (F, A, T)) : W p l e R s m av.toArray below meth c H locs 0 0 (zQv WF D A0 below av s q) (F0 m pc ls []) := by
  subst hq
  exact W.vret S.1 S.2.1 hr (fun t ht hW => ⟨⟨(F, A, T), rfl, rfl, by rw [ht]; exact w.1, w.2.1⟩, w.2.2.F ht⟩) w.2.2.2.2 hd hlk
theorem z_free {ws : va_W} (w : ZW D A0 H0 ws H locs) (hA : ∀ q : Nat, H0.size ≤ q → A0 q) : ∀ q : Nat, va_A ws H.size q → A0 q := by
  intro q h
  rcases h with ⟨k, e, hk⟩ | h
  · exact w.2.1.2 k _ hk
  · exact hA q (Nat.le_trans w.2.2.1 h)
theorem z_blind {ws : va_W} {sz : Nat} : FrameBlind (va_Pc av (zPre D cs ws sz)) := by
  intro a U g mk h
  obtain ⟨h1, h2, h3, ⟨h4, h5⟩, h6⟩ := h
  exact ⟨h1, h2, h3, ⟨va_K.moved (u := U) (U := U.calling g mk a) (Vm.Alike.refl U.vm) h4, zNw.same (s := U) (U := U.calling g mk a) rfl h5⟩, h6⟩
theorem z_pre {ws : va_W} (K : ZK D cs s) (w : ZW D A0 H0 ws H locs) : ∀ U : State, U.heap = H → s.WarmedH U.vm → va_Pc av (zPre D cs ws H.size) av.toArray U := by
  intro U hU hW
  exact ⟨rfl, by rw [hU], by rw [hU]; exact w.1, ⟨va_K.moved hW.alike K.1, zNw.warm hW K.2⟩, w.2.1.weaken (fun _ _ _ _ => trivial)⟩
variable {y : MethodName} {bytes : ByteArray} {maxL n : Nat} {ret : Option FieldType} {rm : Room} {C host : String} {b : Nat} {As st0 : List Value}
theorem z_callVi {q : Int32 × ZS} {φ : Prop} (S : CallFix p m c cc nL s args zWs own) (K : ZK D cs s) (w : ZW D A0 H0 (WF F A T) H locs) (hA : ∀ q : Nat, H0.size ≤ q → A0 q) (hM : zMi l D cs WF y bytes maxL ret rm (.ref b :: As) F A T q φ) (cw : CallW R s args own C index y bytes maxL ret (.code y bytes maxL ret :: zWs) rm 0 0 n) (hrec : ∃ cell : Cell, H[b]? = some cell ∧ cell.vm.isStatics = false ∧ s.vm.findClass C = some cell.cls) (hn : As.length = n) (hsz : ls.size = nL) (hst : st0 = As.reverse ++ .ref b :: rest) (hW : (rest.map fun v => v.category).sum ≤ 8) (hf : cells ≤ R.cells ∧ slots ≤ R.slots) (hd : decode cc pc = .ok (.invokevirtual index, 3))
    (kk : φ → ∀ (H1 : Heap) (locs1 : List Loc), ZW D A0 H0 (WF q.2.1 q.2.2.1 q.2.2.2) H1 locs1 → W p l e R s m args below meth c H1 locs1 cells slots Q (F0 m (pc + 3) ls (.int q.1 :: rest))) : W p l e R s m args below meth c H locs cells slots Q (F0 m pc ls st0) := by
  have hF := z_free w hA
  refine va_calli (va_runV S (hM H.size) cw ⟨z_blind, hrec, z_pre K w⟩ rfl hn hsz hst (lv_room hW) hd hf) w.2.2 (fun q _ h => hF q h) hF (fun r u t H1 locs1 ht hvm hw hB hz1 hk1 hS => ?_)
  obtain ⟨rfl, rfl, hφ⟩ := hw
  exact kk hφ H1 locs1 ⟨by rw [← ht]; exact hB.1, hB.2.weaken (fun _ _ _ h => hF _ h), hS⟩
theorem z_callVv {q : ZS} (S : CallFix p m c cc nL s args zWs own) (K : ZK D cs s) (w : ZW D A0 H0 (WF F A T) H locs) (hA : ∀ q : Nat, H0.size ≤ q → A0 q) (hM : zMv l D cs WF y bytes maxL ret rm (.ref b :: As) F A T q) (cw : CallW R s args own C index y bytes maxL ret (.code y bytes maxL ret :: zWs) rm 0 0 n) (hrec : ∃ cell : Cell, H[b]? = some cell ∧ cell.vm.isStatics = false ∧ s.vm.findClass C = some cell.cls) (hn : As.length = n) (hsz : ls.size = nL) (hst : st0 = As.reverse ++ .ref b :: rest) (hW : (rest.map fun v => v.category).sum ≤ 8) (hf : cells ≤ R.cells ∧ slots ≤ R.slots) (hd : decode cc pc = .ok (.invokevirtual index, 3))
    (kk : ∀ (H1 : Heap) (locs1 : List Loc), ZW D A0 H0 (WF q.1 q.2.1 q.2.2) H1 locs1 → W p l e R s m args below meth c H1 locs1 cells slots Q (F0 m (pc + 3) ls rest)) : W p l e R s m args below meth c H locs cells slots Q (F0 m pc ls st0) := by
  have hF := z_free w hA
  refine va_callv (va_runV S (hM H.size) cw ⟨z_blind, hrec, z_pre K w⟩ rfl hn hsz hst (lv_room hW) hd hf) w.2.2 (fun q _ h => hF q h) hF (fun u t H1 locs1 ht hvm hw hB hz1 hk1 hS => ?_)
  obtain rfl := hw
  exact kk H1 locs1 ⟨by rw [← ht]; exact hB.1, hB.2.weaken (fun _ _ _ h => hF _ h), hS⟩
theorem z_callVl {q : Int64 × ZS} (S : CallFix p m c cc nL s args zWs own) (K : ZK D cs s) (w : ZW D A0 H0 (WF F A T) H locs) (hA : ∀ q : Nat, H0.size ≤ q → A0 q) (hM : zMl l D cs WF y bytes maxL ret rm (.ref b :: As) F A T q) (cw : CallW R s args own C index y bytes maxL ret (.code y bytes maxL ret :: zWs) rm 0 0 n) (hrec : ∃ cell : Cell, H[b]? = some cell ∧ cell.vm.isStatics = false ∧ s.vm.findClass C = some cell.cls) (hn : As.length = n) (hsz : ls.size = nL) (hst : st0 = As.reverse ++ .ref b :: rest) (hW : (rest.map fun v => v.category).sum ≤ 8) (hf : cells ≤ R.cells ∧ slots ≤ R.slots) (hd : decode cc pc = .ok (.invokevirtual index, 3))
    (kk : ∀ (H1 : Heap) (locs1 : List Loc), ZW D A0 H0 (WF q.2.1 q.2.2.1 q.2.2.2) H1 locs1 → W p l e R s m args below meth c H1 locs1 cells slots Q (F0 m (pc + 3) ls (.long q.1 :: rest))) : W p l e R s m args below meth c H locs cells slots Q (F0 m pc ls st0) := by
  have hF := z_free w hA
  refine va_calll (va_runV S (hM H.size) cw ⟨z_blind, hrec, z_pre K w⟩ rfl hn hsz hst (lv_room hW) hd hf) w.2.2 (fun q _ h => hF q h) hF (fun r u t H1 locs1 ht hvm hw hB hz1 hk1 hS => ?_)
  obtain ⟨rfl, rfl⟩ := hw
  exact kk H1 locs1 ⟨by rw [← ht]; exact hB.1, hB.2.weaken (fun _ _ _ h => hF _ h), hS⟩
theorem z_callSi {q : Int32 × ZS} {φ : Prop} (S : CallFix p m c cc nL s args zWs own) (K : ZK D cs s) (w : ZW D A0 H0 (WF F A T) H locs) (hA : ∀ q : Nat, H0.size ≤ q → A0 q) (hM : zMi l D cs WF y bytes maxL ret rm As F A T q φ) (cw : CallB R s args own index y bytes maxL ret (.code y bytes maxL ret :: zWs) rm 0 0 n ∧ (Cond.static y).before args s = true) (hn : As.length = n) (hsz : ls.size = nL) (hst : st0 = As.reverse ++ rest) (hW : (rest.map fun v => v.category).sum ≤ 8) (hf : cells ≤ R.cells ∧ slots ≤ R.slots) (hd : decode cc pc = .ok (.invokestatic index, 3))
    (kk : φ → ∀ (H1 : Heap) (locs1 : List Loc), ZW D A0 H0 (WF q.2.1 q.2.2.1 q.2.2.2) H1 locs1 → W p l e R s m args below meth c H1 locs1 cells slots Q (F0 m (pc + 3) ls (.int q.1 :: rest))) : W p l e R s m args below meth c H locs cells slots Q (F0 m pc ls st0) := by
  have hF := z_free w hA
  refine va_calli (va_runS S (hM H.size) cw ⟨z_blind, z_pre K w⟩ rfl hn hsz hst (lv_room hW) hd hf) w.2.2 (fun q _ h => hF q h) hF (fun r u t H1 locs1 ht hvm hw hB hz1 hk1 hS => ?_)
  obtain ⟨rfl, rfl, hφ⟩ := hw
  exact kk hφ H1 locs1 ⟨by rw [← ht]; exact hB.1, hB.2.weaken (fun _ _ _ h => hF _ h), hS⟩
theorem z_callNi {q : Int32 × ZS} {φ : Prop} (S : CallFix p m c cc nL s args zWs own) (K : ZK D cs s) (w : ZW D A0 H0 (WF F A T) H locs) (hA : ∀ q : Nat, H0.size ≤ q → A0 q) (hM : zMi l D cs WF y bytes maxL ret rm As F A T q φ) (cw : va_CN R s args own index y host bytes maxL ret (.code y bytes maxL ret :: zWs) rm 0 0 n ∧ (Cond.static y).before args s = true ∧ True) (hn : As.length = n) (hsz : ls.size = nL) (hst : st0 = As.reverse ++ rest) (hW : (rest.map fun v => v.category).sum ≤ 8) (hf : cells ≤ R.cells ∧ slots ≤ R.slots) (hd : decode cc pc = .ok (.invokestatic index, 3))
    (kk : φ → ∀ (H1 : Heap) (locs1 : List Loc), ZW D A0 H0 (WF q.2.1 q.2.2.1 q.2.2.2) H1 locs1 → W p l e R s m args below meth c H1 locs1 cells slots Q (F0 m (pc + 3) ls (.int q.1 :: rest))) : W p l e R s m args below meth c H locs cells slots Q (F0 m pc ls st0) := by
  have hF := z_free w hA
  refine va_calli (va_runSN S (hM H.size) cw ⟨z_blind, z_pre K w⟩ rfl hn hsz hst (lv_room hW) hd hf) w.2.2 (fun q _ h => hF q h) hF (fun r u t H1 locs1 ht hvm hw hB hz1 hk1 hS => ?_)
  obtain ⟨rfl, rfl, hφ⟩ := hw
  exact kk hφ H1 locs1 ⟨by rw [← ht]; exact hB.1, hB.2.weaken (fun _ _ _ h => hF _ h), hS⟩
end Z4
section Z5
variable {p : Program} {l : Launch} {e : Env} {R : Room} {s : State} {m : MethodId} {args : Array Value} {below : List Frame} {meth : Method} {c : Code} {H : Heap} {locs : List Loc} {cells slots : Nat} {Q : State → Prop} {cc : ByteArray} {pc nL : Nat} {ls : Array Slot} {rest : List Value} {own : String} {D : va_G} {cs : Nat → ClassId} {ad : Nat → Nat} {WF : ZF → ZA → Int64 → va_W} {A0 : Nat → Prop} {H0 : Heap} {F : ZF} {A : ZA} {T : Int64} {index : Nat} {av : List Value}
variable {y : MethodName} {bytes : ByteArray} {maxL n : Nat} {ret : Option FieldType} {rm : Room} {C host : String} {b : Nat} {As st0 : List Value}
theorem z_callVr {r : Int32} {φ : Prop} (S : CallFix p m c cc nL s args zWs own) (K : ZK D cs s) (w : ZW D A0 H0 (WF F A T) H locs) (hA : ∀ q : Nat, H0.size ≤ q → A0 q) (hM : zMi l D cs WF y bytes maxL ret rm (.ref b :: As) F A T (r, F, A, T) φ) (cw : CallW R s args own C index y bytes maxL ret (.code y bytes maxL ret :: zWs) rm 0 0 n) (hrec : ∃ cell : Cell, H[b]? = some cell ∧ cell.vm.isStatics = false ∧ s.vm.findClass C = some cell.cls) (hn : As.length = n) (hsz : ls.size = nL) (hst : st0 = As.reverse ++ .ref b :: rest) (hW : (rest.map fun v => v.category).sum ≤ 8) (hf : cells ≤ R.cells ∧ slots ≤ R.slots) (hd : decode cc pc = .ok (.invokevirtual index, 3))
    (kk : φ → ∀ (H1 : Heap) (locs1 : List Loc), ZW D A0 H0 (WF F A T) H1 locs1 → W p l e R s m args below meth c H1 locs1 cells slots Q (F0 m (pc + 3) ls (.int r :: rest))) : W p l e R s m args below meth c H locs cells slots Q (F0 m pc ls st0) := z_callVi S K w hA hM cw hrec hn hsz hst hW hf hd kk
theorem z_callSr {r : Int32} {φ : Prop} (S : CallFix p m c cc nL s args zWs own) (K : ZK D cs s) (w : ZW D A0 H0 (WF F A T) H locs) (hA : ∀ q : Nat, H0.size ≤ q → A0 q) (hM : zMi l D cs WF y bytes maxL ret rm As F A T (r, F, A, T) φ) (cw : CallB R s args own index y bytes maxL ret (.code y bytes maxL ret :: zWs) rm 0 0 n ∧ (Cond.static y).before args s = true) (hn : As.length = n) (hsz : ls.size = nL) (hst : st0 = As.reverse ++ rest) (hW : (rest.map fun v => v.category).sum ≤ 8) (hf : cells ≤ R.cells ∧ slots ≤ R.slots) (hd : decode cc pc = .ok (.invokestatic index, 3))
    (kk : φ → ∀ (H1 : Heap) (locs1 : List Loc), ZW D A0 H0 (WF F A T) H1 locs1 → W p l e R s m args below meth c H1 locs1 cells slots Q (F0 m (pc + 3) ls (.int r :: rest))) : W p l e R s m args below meth c H locs cells slots Q (F0 m pc ls st0) := z_callSi S K w hA hM cw hn hsz hst hW hf hd kk
theorem z_callNr {r : Int32} {φ : Prop} (S : CallFix p m c cc nL s args zWs own) (K : ZK D cs s) (w : ZW D A0 H0 (WF F A T) H locs) (hA : ∀ q : Nat, H0.size ≤ q → A0 q) (hM : zMi l D cs WF y bytes maxL ret rm As F A T (r, F, A, T) φ) (cw : va_CN R s args own index y host bytes maxL ret (.code y bytes maxL ret :: zWs) rm 0 0 n ∧ (Cond.static y).before args s = true ∧ True) (hn : As.length = n) (hsz : ls.size = nL) (hst : st0 = As.reverse ++ rest) (hW : (rest.map fun v => v.category).sum ≤ 8) (hf : cells ≤ R.cells ∧ slots ≤ R.slots) (hd : decode cc pc = .ok (.invokestatic index, 3))
    (kk : φ → ∀ (H1 : Heap) (locs1 : List Loc), ZW D A0 H0 (WF F A T) H1 locs1 → W p l e R s m args below meth c H1 locs1 cells slots Q (F0 m (pc + 3) ls (.int r :: rest))) : W p l e R s m args below meth c H locs cells slots Q (F0 m pc ls st0) := z_callNi S K w hA hM cw hn hsz hst hW hf hd kk
theorem rX_4_0 {td dr : Nat} (S : CallFix p m c cc nL s args zWs own) (K : ZK D cs s) (w : ZW D A0 H0 (XWc cs ad td dr F A T) H locs) {i : Int32} (hi : i = 0) (hd : decode cc pc = .ok (.aaload, 1)) (kk : W p l e R s m args below meth c H locs cells slots Q (F0 m (pc + 1) ls (.ref (ad 19) :: rest))) : W p l e R s m args below meth c H locs cells slots Q (F0 m pc ls (.int i :: .ref (ad 4) :: rest)) := by
  subst hi
  exact va_aldq S.1 S.2.1 K.1 w.1 4 4 (n := 2) (f := zIm ad) rfl rfl (gok_in (by decide)) hd kk
theorem rX_4_1 {td dr : Nat} (S : CallFix p m c cc nL s args zWs own) (K : ZK D cs s) (w : ZW D A0 H0 (XWc cs ad td dr F A T) H locs) {i : Int32} (hi : i = 1) (hd : decode cc pc = .ok (.aaload, 1)) (kk : W p l e R s m args below meth c H locs cells slots Q (F0 m (pc + 1) ls (.ref (ad 20) :: rest))) : W p l e R s m args below meth c H locs cells slots Q (F0 m pc ls (.int i :: .ref (ad 4) :: rest)) := by
  subst hi
  exact va_aldq S.1 S.2.1 K.1 w.1 4 4 (n := 2) (f := zIm ad) rfl rfl (gok_in (by decide)) hd kk
end Z5
theorem rX_6_0 {p : Program} {l : Launch} {e : Env} {R : Room} {s : State} {m : MethodId} {args : Array Value} {below : List Frame} {meth : Method} {c : Code} {H : Heap} {locs : List Loc} {cells slots : Nat} {Q : State → Prop} {cc : ByteArray} {pc nL : Nat} {ls : Array Slot} {rest : List Value} {own : String} {D : va_G} {cs : Nat → ClassId} {ad : Nat → Nat} {A0 : Nat → Prop} {H0 : Heap} {F : ZF} {A : ZA} {T : Int64} {td dr : Nat} (S : CallFix p m c cc nL s args zWs own) (K : ZK D cs s) (w : ZW D A0 H0 (XWc cs ad td dr F A T) H locs) {i : Int32} (hi : i = 0) (hd : decode cc pc = .ok (.aaload, 1)) (kk : W p l e R s m args below meth c H locs cells slots Q (F0 m (pc + 1) ls (.ref (ad 23) :: rest))) : W p l e R s m args below meth c H locs cells slots Q (F0 m pc ls (.int i :: .ref (ad 6) :: rest)) := by
  subst hi
  exact va_aldq S.1 S.2.1 K.1 w.1 6 3 (n := 6) (f := zKd ad) rfl rfl (gok_in (by decide)) hd kk
theorem rX_6_1 {p : Program} {l : Launch} {e : Env} {R : Room} {s : State} {m : MethodId} {args : Array Value} {below : List Frame} {meth : Method} {c : Code} {H : Heap} {locs : List Loc} {cells slots : Nat} {Q : State → Prop} {cc : ByteArray} {pc nL : Nat} {ls : Array Slot} {rest : List Value} {own : String} {D : va_G} {cs : Nat → ClassId} {ad : Nat → Nat} {A0 : Nat → Prop} {H0 : Heap} {F : ZF} {A : ZA} {T : Int64} {td dr : Nat} (S : CallFix p m c cc nL s args zWs own) (K : ZK D cs s) (w : ZW D A0 H0 (XWc cs ad td dr F A T) H locs) {i : Int32} (hi : i = 1) (hd : decode cc pc = .ok (.aaload, 1)) (kk : W p l e R s m args below meth c H locs cells slots Q (F0 m (pc + 1) ls (.ref (ad 24) :: rest))) : W p l e R s m args below meth c H locs cells slots Q (F0 m pc ls (.int i :: .ref (ad 6) :: rest)) := by
  subst hi
  exact va_aldq S.1 S.2.1 K.1 w.1 6 3 (n := 6) (f := zKd ad) rfl rfl (gok_in (by decide)) hd kk
theorem rX_6_2 {p : Program} {l : Launch} {e : Env} {R : Room} {s : State} {m : MethodId} {args : Array Value} {below : List Frame} {meth : Method} {c : Code} {H : Heap} {locs : List Loc} {cells slots : Nat} {Q : State → Prop} {cc : ByteArray} {pc nL : Nat} {ls : Array Slot} {rest : List Value} {own : String} {D : va_G} {cs : Nat → ClassId} {ad : Nat → Nat} {A0 : Nat → Prop} {H0 : Heap} {F : ZF} {A : ZA} {T : Int64} {td dr : Nat} (S : CallFix p m c cc nL s args zWs own) (K : ZK D cs s) (w : ZW D A0 H0 (XWc cs ad td dr F A T) H locs) {i : Int32} (hi : i = 2) (hd : decode cc pc = .ok (.aaload, 1)) (kk : W p l e R s m args below meth c H locs cells slots Q (F0 m (pc + 1) ls (.ref (ad 25) :: rest))) : W p l e R s m args below meth c H locs cells slots Q (F0 m pc ls (.int i :: .ref (ad 6) :: rest)) := by
  subst hi
  exact va_aldq S.1 S.2.1 K.1 w.1 6 3 (n := 6) (f := zKd ad) rfl rfl (gok_in (by decide)) hd kk
theorem rX_6_3 {p : Program} {l : Launch} {e : Env} {R : Room} {s : State} {m : MethodId} {args : Array Value} {below : List Frame} {meth : Method} {c : Code} {H : Heap} {locs : List Loc} {cells slots : Nat} {Q : State → Prop} {cc : ByteArray} {pc nL : Nat} {ls : Array Slot} {rest : List Value} {own : String} {D : va_G} {cs : Nat → ClassId} {ad : Nat → Nat} {A0 : Nat → Prop} {H0 : Heap} {F : ZF} {A : ZA} {T : Int64} {td dr : Nat} (S : CallFix p m c cc nL s args zWs own) (K : ZK D cs s) (w : ZW D A0 H0 (XWc cs ad td dr F A T) H locs) {i : Int32} (hi : i = 3) (hd : decode cc pc = .ok (.aaload, 1)) (kk : W p l e R s m args below meth c H locs cells slots Q (F0 m (pc + 1) ls (.ref (ad 26) :: rest))) : W p l e R s m args below meth c H locs cells slots Q (F0 m pc ls (.int i :: .ref (ad 6) :: rest)) := by
  subst hi
  exact va_aldq S.1 S.2.1 K.1 w.1 6 3 (n := 6) (f := zKd ad) rfl rfl (gok_in (by decide)) hd kk
theorem rX_6_4 {p : Program} {l : Launch} {e : Env} {R : Room} {s : State} {m : MethodId} {args : Array Value} {below : List Frame} {meth : Method} {c : Code} {H : Heap} {locs : List Loc} {cells slots : Nat} {Q : State → Prop} {cc : ByteArray} {pc nL : Nat} {ls : Array Slot} {rest : List Value} {own : String} {D : va_G} {cs : Nat → ClassId} {ad : Nat → Nat} {A0 : Nat → Prop} {H0 : Heap} {F : ZF} {A : ZA} {T : Int64} {td dr : Nat} (S : CallFix p m c cc nL s args zWs own) (K : ZK D cs s) (w : ZW D A0 H0 (XWc cs ad td dr F A T) H locs) {i : Int32} (hi : i = 4) (hd : decode cc pc = .ok (.aaload, 1)) (kk : W p l e R s m args below meth c H locs cells slots Q (F0 m (pc + 1) ls (.ref (ad 27) :: rest))) : W p l e R s m args below meth c H locs cells slots Q (F0 m pc ls (.int i :: .ref (ad 6) :: rest)) := by
  subst hi
  exact va_aldq S.1 S.2.1 K.1 w.1 6 3 (n := 6) (f := zKd ad) rfl rfl (gok_in (by decide)) hd kk
theorem rX_6_5 {p : Program} {l : Launch} {e : Env} {R : Room} {s : State} {m : MethodId} {args : Array Value} {below : List Frame} {meth : Method} {c : Code} {H : Heap} {locs : List Loc} {cells slots : Nat} {Q : State → Prop} {cc : ByteArray} {pc nL : Nat} {ls : Array Slot} {rest : List Value} {own : String} {D : va_G} {cs : Nat → ClassId} {ad : Nat → Nat} {A0 : Nat → Prop} {H0 : Heap} {F : ZF} {A : ZA} {T : Int64} {td dr : Nat} (S : CallFix p m c cc nL s args zWs own) (K : ZK D cs s) (w : ZW D A0 H0 (XWc cs ad td dr F A T) H locs) {i : Int32} (hi : i = 5) (hd : decode cc pc = .ok (.aaload, 1)) (kk : W p l e R s m args below meth c H locs cells slots Q (F0 m (pc + 1) ls (.ref (ad 28) :: rest))) : W p l e R s m args below meth c H locs cells slots Q (F0 m pc ls (.int i :: .ref (ad 6) :: rest)) := by
  subst hi
  exact va_aldq S.1 S.2.1 K.1 w.1 6 3 (n := 6) (f := zKd ad) rfl rfl (gok_in (by decide)) hd kk
