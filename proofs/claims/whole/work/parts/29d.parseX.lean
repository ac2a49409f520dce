/-! X reads an item -/
def shF (F : ZF) : ZF := fun k => F (k + 6)
def shA (A : ZA) : ZA := fun k => A (k + 9)
def DX (st : PS) (F : ZF) (A : ZA) : Prop := TX st.1 (shF F) (shA A) ∧ F 33 = nI st.2.2 ∧ F 6 = (if st.2.1.1 = true then 1 else 0) ∧ F 7 = (if st.2.1.2 = true then 1 else 0)
theorem DX.fr {st : PS} {F F' : ZF} {A A' : ZA} (h : DX st F A) (hF : ∀ k, (k = 6 ∨ k = 7 ∨ 28 ≤ k ∧ k ≤ 33) → F' k = F k) (hA : ∀ k, 38 ≤ k ∧ k ≤ 46 → A' k = A k) : DX st F' A' := by
  obtain ⟨h1, h2, h3, h4⟩ := h
  refine ⟨h1.fr (fun k a b => hF (k + 6) (by omega)) (fun k a b => hA (k + 9) (by omega)), ?_, ?_, ?_⟩
  · rw [hF 33 (by omega)]; exact h2
  · rw [hF 6 (by omega)]; exact h3
  · rw [hF 7 (by omega)]; exact h4
theorem x_least {c : Nat} (hc : isC c) {vs : List Nat} (hl : vs.length < 8) {F : ZF} {A : ZA} {T : Int64} (h13 : ∀ j, j < vs.length → A 13 j = nI (vs.getD j 0)) : f_X7_least (nI c) (nI vs.length) F A T = nI (lo c vs) := by
  unfold f_X7_least f_X7_least_12 f_X7_least_30 lo
  rw [cl0, cl2]
  have e0 : nI vs.length = (0 : Int32) ↔ vs.length = 0 := nI_eq (b := 0) (by omega) (by decide)
  have e3 : nI vs.length = (3 : Int32) ↔ vs.length = 3 := nI_eq (b := 3) (by omega) (by decide)
  have e1 : nI vs.length = (1 : Int32) ↔ vs.length = 1 := nI_eq (b := 1) (by omega) (by decide)
  rcases hc with rfl | rfl | rfl | rfl | rfl
  · rw [if_neg (show ¬ nI 97 = (102 : Int32) by decide), if_pos (show nI 97 = (97 : Int32) from rfl), if_neg (show ¬ nI 97 = (116 : Int32) by decide), if_neg (show ¬ (97 = 102 ∧ vs.length = 0) by omega)]
    by_cases q : vs.length = 3
    · rw [if_pos (e3.mpr q), if_pos ⟨rfl, q⟩, h13 2 (by omega)]
    · rw [if_neg (fun e => q (e3.mp e)), if_neg (fun e => q e.2), if_neg (show ¬ (97 = 116 ∧ vs.length = 1) by omega)]; rfl
  · rw [if_neg (show ¬ nI 100 = (102 : Int32) by decide), if_neg (show ¬ nI 100 = (97 : Int32) by decide), if_neg (show ¬ nI 100 = (116 : Int32) by decide), if_neg (by omega), if_neg (by omega), if_neg (by omega)]; rfl
  · rw [if_pos (show nI 102 = (102 : Int32) from rfl), if_neg (show ¬ nI 102 = (97 : Int32) by decide), if_neg (show ¬ nI 102 = (116 : Int32) by decide)]
    by_cases q : vs.length = 0
    · rw [if_pos (e0.mpr q), if_pos ⟨rfl, q⟩]; rfl
    · rw [if_neg (fun e => q (e0.mp e)), if_neg (fun e => q e.2), if_neg (by omega), if_neg (by omega)]; rfl
  · rw [if_neg (show ¬ nI 115 = (102 : Int32) by decide), if_neg (show ¬ nI 115 = (97 : Int32) by decide), if_neg (show ¬ nI 115 = (116 : Int32) by decide), if_neg (by omega), if_neg (by omega), if_neg (by omega)]; rfl
  · rw [if_neg (show ¬ nI 116 = (102 : Int32) by decide), if_neg (show ¬ nI 116 = (97 : Int32) by decide), if_pos (show nI 116 = (116 : Int32) from rfl), if_neg (show ¬ (116 = 102 ∧ vs.length = 0) by omega), if_neg (show ¬ (116 = 97 ∧ vs.length = 3) by omega)]
    by_cases q : vs.length = 1
    · rw [if_pos (e1.mpr q), if_pos ⟨rfl, q⟩, h13 0 (by omega)]
    · rw [if_neg (fun e => q (e1.mp e)), if_neg (fun e => q e.2)]; rfl
theorem x_most {c : Nat} (hc : isC c) {i n : Nat} (hi' : i < 8) {F : ZF} {A : ZA} {T : Int64} (h28 : F 28 = nI n) : f_X7_most (nI c) (nI i) F A T = nI (hi c n i) - 1 := by
  unfold f_X7_most hi
  have e0 : nI i = (0 : Int32) ↔ i = 0 := nI_eq (b := 0) (by omega) (by decide)
  have e1 : nI i = (1 : Int32) ↔ i = 1 := nI_eq (b := 1) (by omega) (by decide)
  rcases hc with rfl | rfl | rfl | rfl | rfl
  · rw [if_pos (show nI 97 = (97 : Int32) from rfl), if_pos rfl]
    by_cases q : i = 0
    · rw [if_pos (e0.mpr q), if_pos q, h28]
    · rw [if_neg (fun e => q (e0.mp e)), if_neg q]
      by_cases q : i = 1
      · rw [if_pos (e1.mpr q), if_pos q]; decide
      · rw [if_neg (fun e => q (e1.mp e)), if_neg q]; decide
  · rw [if_neg (show ¬ nI 100 = (97 : Int32) by decide), if_neg (show ¬ nI 100 = (102 : Int32) by decide), if_neg (show ¬ nI 100 = (115 : Int32) by decide), if_neg (show ¬ nI 100 = (116 : Int32) by decide), if_neg (by decide), if_neg (by decide), if_neg (by decide), if_neg (by decide)]; decide
  · rw [if_neg (show ¬ nI 102 = (97 : Int32) by decide), if_pos (show nI 102 = (102 : Int32) from rfl), if_neg (show ¬ (102 : Nat) = 97 by decide), if_pos (show (102 : Nat) = 102 from rfl)]
    by_cases q : i = 0
    · rw [if_pos (e0.mpr q), if_pos q]; decide
    · rw [if_neg (fun e => q (e0.mp e)), if_neg q]
      by_cases q : i = 1
      · rw [if_pos (e1.mpr q), if_pos q]; decide
      · rw [if_neg (fun e => q (e1.mp e)), if_neg q]; decide
  · rw [if_neg (show ¬ nI 115 = (97 : Int32) by decide), if_neg (show ¬ nI 115 = (102 : Int32) by decide), if_pos (show nI 115 = (115 : Int32) from rfl), if_neg (by decide), if_neg (by decide), if_pos rfl]; decide
  · rw [if_neg (show ¬ nI 116 = (97 : Int32) by decide), if_neg (show ¬ nI 116 = (102 : Int32) by decide), if_neg (show ¬ nI 116 = (115 : Int32) by decide), if_pos (show nI 116 = (116 : Int32) from rfl), if_neg (by decide), if_neg (by decide), if_neg (by decide), if_pos rfl]; decide
theorem lo_le {c : Nat} {vs : List Nat} (h : ∀ j, vs.getD j 0 ≤ 99) : lo c vs ≤ 99 := by
  unfold lo
  split
  · decide
  · split
    · exact h 2
    · split
      · exact h 0
      · decide
theorem hi_le {c n i : Nat} (hn : n ≤ 6) : hi c n i ≤ 61 := by
  unfold hi
  repeat' split
  all_goals omega
theorem x_due {c n : Nat} (hc : isC c) {F : ZF} {A : ZA} {T : Int64} (h28 : F 28 = nI n) : f_X7_numbersDue (nI c) F A T = nI (due c n) := by
  unfold f_X7_numbersDue due
  rcases hc with rfl | rfl | rfl | rfl | rfl
  · rfl
  · rw [if_neg (show ¬ nI 100 = (97 : Int32) by decide), if_neg (show ¬ nI 100 = (102 : Int32) by decide), if_neg (show ¬ nI 100 = (116 : Int32) by decide)]; rfl
  · rw [if_neg (show ¬ nI 102 = (97 : Int32) by decide), if_pos (show nI 102 = (102 : Int32) from rfl), h28, show (2 : Int32) = nI 2 from rfl, nI_add]; rfl
  · rw [if_neg (show ¬ nI 115 = (97 : Int32) by decide), if_neg (show ¬ nI 115 = (102 : Int32) by decide), if_neg (show ¬ nI 115 = (116 : Int32) by decide)]; rfl
  · rw [if_neg (show ¬ nI 116 = (97 : Int32) by decide), if_neg (show ¬ nI 116 = (102 : Int32) by decide), if_pos (show nI 116 = (116 : Int32) from rfl)]; rfl
theorem due_le {c n : Nat} (hn : n ≤ 6) : due c n ≤ 8 := by
  unfold due
  repeat' split
  all_goals omega
theorem x_may {c : Nat} (hc : c < 256) {st : PS} (hs : sOK st) {F : ZF} {A : ZA} {T : Int64} (h : DX st F A) : f_X7_mayBegin (nI c) F A T = if may c st = true then 1 else 0 := by
  obtain ⟨h1, h2, h3, h4⟩ := h
  have d1 := hs.1.1.1
  have d2 := hs.1.1.2.1
  have d3 := hs.1.1.2.2.1
  have e30 : F 30 = nI (nA st.1) := h1.1.2.2.1
  have e29 : F 29 = nI (nF st.1) := h1.1.2.1
  have e28 : F 28 = nI (nS st.1) := h1.1.1
  unfold f_X7_mayBegin may
  rw [e30, e29, e28, h3, h4]
  by_cases c1 : c = 97
  · have z : nI c = (97 : Int32) := by rw [c1]; rfl
    rw [if_pos z, if_pos c1]
    by_cases q : nA st.1 < 8
    · have z2 : ¬ (8 : Int32) ≤ nI (nA st.1) := nI_ge (b := 8) q (by decide)
      rw [if_neg z2, if_pos (by simpa using q)]
    · have z2 : (8 : Int32) ≤ nI (nA st.1) := nI_le (a := 8) (by omega) (by omega)
      rw [if_pos z2, if_neg (by simpa using q)]
  · have z : ¬ nI c = (97 : Int32) := fun e => c1 ((nI_lit (k := 97) hc (by decide)).mp e)
    rw [if_neg z, if_neg c1]
    by_cases c1 : c = 100
    · have z : nI c = (100 : Int32) := by rw [c1]; rfl
      rw [if_pos z, if_pos c1]
      cases st.2.1.2 <;> rfl
    · have z : ¬ nI c = (100 : Int32) := fun e => c1 ((nI_lit (k := 100) hc (by decide)).mp e)
      rw [if_neg z, if_neg c1]
      by_cases c1 : c = 102
      · have z : nI c = (102 : Int32) := by rw [c1]; rfl
        rw [if_pos z, if_pos c1]
        by_cases q : nF st.1 < 8
        · have z2 : ¬ (8 : Int32) ≤ nI (nF st.1) := nI_ge (b := 8) q (by decide)
          rw [if_neg z2, if_pos (by simpa using q)]
        · have z2 : (8 : Int32) ≤ nI (nF st.1) := nI_le (a := 8) (by omega) (by omega)
          rw [if_pos z2, if_neg (by simpa using q)]
      · have z : ¬ nI c = (102 : Int32) := fun e => c1 ((nI_lit (k := 102) hc (by decide)).mp e)
        rw [if_neg z, if_neg c1]
        by_cases c1 : c = 115
        · have z : nI c = (115 : Int32) := by rw [c1]; rfl
          rw [if_pos z, if_pos c1]
          by_cases q : nS st.1 < 6
          · have z2 : ¬ (6 : Int32) ≤ nI (nS st.1) := nI_ge (b := 6) q (by decide)
            rw [if_neg z2, if_pos (by simpa using q)]
          · have z2 : (6 : Int32) ≤ nI (nS st.1) := nI_le (a := 6) (by omega) (by omega)
            rw [if_pos z2, if_neg (by simpa using q)]
        · have z : ¬ nI c = (115 : Int32) := fun e => c1 ((nI_lit (k := 115) hc (by decide)).mp e)
          rw [if_neg z, if_neg c1]
          by_cases c1 : c = 116
          · have z : nI c = (116 : Int32) := by rw [c1]; rfl
            rw [if_pos z, if_pos c1]
            cases st.2.1.1 <;> rfl
          · have z : ¬ nI c = (116 : Int32) := fun e => c1 ((nI_lit (k := 116) hc (by decide)).mp e)
            rw [if_neg z, if_neg c1]; rfl
noncomputable def addK (r : Option ZS) : Option (Int32 × ZS) := Option.bind r fun q9 => some ((1 : Int32), q9.1, q9.2.1, q9.2.2)
theorem x_rd {tx : List Nat} (ht : xOK tx) {c n : Nat} (hc : isC c) (hn : n ≤ 6) {T : Int64} : ∀ (m : Nat) (vs : List Nat) (p w : Nat) (F : ZF) (A : ZA), vs.length + m = due c n → m + 1 < w → p ≤ tx.length → TXX tx (F 1) (A 12) → F 2 = nI p → F 28 = nI n → (∀ j, j < vs.length → A 13 j = nI (vs.getD j 0)) → (∀ j, vs.getD j 0 ≤ 99) → ∃ F' A', (∀ k, k ≠ 2 → k ≠ 3 → k ≠ 4 → k ≠ 5 → F' k = F k) ∧ (∀ k, k ≠ 13 → A' k = A k) ∧ (∀ q, fnl tx (itr tx c n m (.inr (vs, p))) = .inl q → f_X7_readItem_36 w (nI c) (nI (due c n)) (nI vs.length) F A T = some (0, F', A', T) ∧ F' 4 = nI q) ∧ (∀ vs' p', fnl tx (itr tx c n m (.inr (vs, p))) = .inr (vs', p') → f_X7_readItem_36 w (nI c) (nI (due c n)) (nI vs.length) F A T = addK (f_X7_addItem (nI c) F' A' T) ∧ F' 2 = nI p' ∧ ∀ j, j < vs'.length → A' 13 j = nI (vs'.getD j 0)) := by
  have hL := ht.1
  have hdu := due_le (c := c) hn
  have n1 : ¬ (1 : Int32) = 0 := by decide
  intro m
  induction m with
  | zero =>
    intro vs p w F A hm hw hp hx h2 h28 h13 h99
    obtain ⟨w, rfl⟩ : ∃ w', w = w' + 1 := ⟨w - 1, by omega⟩
    obtain ⟨F1, t1, t2, t3, t4, t5, t6⟩ := x_tok ht (T := T) hp hx h2
    have k4 := (tk_next hp).2.2.2.2.1
    rw [f_X7_readItem_36_s, if_pos (nI_le (by omega) (by omega)), t1, Option.bind_some]
    dsimp only
    refine ⟨F1, A, t2, fun k hk => rfl, fun q e => ?_, fun vs' p' e => ?_⟩
    · have e : (if (tk tx p).1.1 = 3 then (.inr (vs, (tk tx p).2.2) : RS) else .inl (tk tx p).2.1) = .inl q := e
      by_cases z : (tk tx p).1.1 = 3
      · rw [if_pos z] at e; cases e
      · rw [if_neg z] at e
        have z2 : ¬ F1 3 = (3 : Int32) := fun y => z ((nI_eq (b := 3) (by omega) (by decide)).mp (by rw [← t3]; exact y))
        rw [if_neg z2]
        cases e
        exact ⟨rfl, t4⟩
    · have e : (if (tk tx p).1.1 = 3 then (.inr (vs, (tk tx p).2.2) : RS) else .inl (tk tx p).2.1) = .inr (vs', p') := e
      by_cases z : (tk tx p).1.1 = 3
      · rw [if_pos z] at e
        have z2 : F1 3 = (3 : Int32) := by rw [t3, z]; rfl
        rw [if_pos z2]
        cases e
        exact ⟨rfl, t5 (by omega), h13⟩
      · rw [if_neg z] at e; cases e
  | succ m ih =>
    intro vs p w F A hm hw hp hx h2 h28 h13 h99
    obtain ⟨w, rfl⟩ : ∃ w', w = w' + 1 := ⟨w - 1, by omega⟩
    obtain ⟨F1, t1, t2, t3, t4, t5, t6⟩ := x_tok ht (T := T) hp hx h2
    obtain ⟨k1, k2, k3, k4, k5, k6⟩ := tk_next hp
    rw [f_X7_readItem_36_s, if_neg (nI_ge (by omega) (by omega)), t1, Option.bind_some]
    dsimp only
    have ei : itr tx c n (m + 1) (.inr (vs, p)) = itr tx c n m (stp tx c n (.inr (vs, p))) := rfl
    rw [ei]
    have bad : ¬ ((tk tx p).1.1 = 2 ∧ okv c n vs (tk tx p).1.2 = true) → fnl tx (itr tx c n m (stp tx c n (.inr (vs, p)))) = .inl (tk tx p).2.1 := by
      intro z
      have e2 : stp tx c n (.inr (vs, p)) = .inl (tk tx p).2.1 := if_neg z
      rw [e2, itr_inl]; rfl
    by_cases z : (tk tx p).1.1 = 2
    · have z2 : F1 3 = (2 : Int32) := by rw [t3, z]; rfl
      have v99 := k6 z
      have e28 : F1 28 = nI n := by rw [t2 28 (by decide) (by decide) (by decide) (by decide)]; exact h28
      have hlo := lo_le (c := c) h99
      have hhi := hi_le (c := c) (n := n) (i := vs.length) hn
      have hwv : f_X10_within (F1 5) (f_X7_least (nI c) (nI vs.length) F1 A T) (f_X7_most (nI c) (nI vs.length) F1 A T) = if okv c n vs (tk tx p).1.2 = true then 1 else 0 := by
        rw [t6 (Or.inr z), x_least hc (by omega) h13, x_most hc (by omega) e28, wi_ok (by omega) (by omega) (by omega)]; rfl
      rw [if_pos z2]
      cases y : okv c n vs (tk tx p).1.2
      · rw [y, if_neg (show ¬ (false = true) by decide)] at hwv
        rw [if_pos hwv, bad (by rw [y]; simp)]
        refine ⟨F1, A, t2, fun k hk => rfl, fun q e => ?_, fun vs' p' e => by cases e⟩
        cases e
        exact ⟨rfl, t4⟩
      · have e2 : stp tx c n (.inr (vs, p)) = .inr (vs ++ [(tk tx p).1.2], (tk tx p).2.2) := if_pos ⟨z, y⟩
        rw [y, if_pos rfl] at hwv
        have hwn : ¬ f_X10_within (F1 5) (f_X7_least (nI c) (nI vs.length) F1 A T) (f_X7_most (nI c) (nI vs.length) F1 A T) = 0 := by rw [hwv]; exact n1
        rw [if_neg hwn, if_pos (gok_nI (by omega) (by decide)), nI_clamp (by omega), nI_1, e2, t6 (Or.inr z)]
        have ll : (vs ++ [(tk tx p).1.2]).length = vs.length + 1 := by rw [List.length_append, List.length_singleton]
        have g99 : ∀ j, (vs ++ [(tk tx p).1.2]).getD j 0 ≤ 99 := fun j => by
          rcases Nat.lt_trichotomy j vs.length with h | h | h
          · rw [getD_app h]; exact h99 j
          · subst h; rw [getD_last]; exact v99
          · rw [List.getD_eq_getElem?_getD, List.getElem?_eq_none_iff.mpr (by omega)]; exact Nat.zero_le _
        obtain ⟨F', A', r1, r2, r3, r4⟩ := ih (vs ++ [(tk tx p).1.2]) (tk tx p).2.2 w F1 (zst A 13 vs.length (nI (tk tx p).1.2)) (by omega) (by omega) k3 (by rw [t2 1 (by decide) (by decide) (by decide) (by decide), zst_ne (by decide)]; exact hx) (t5 (by omega)) e28 (fun j hj => by
          rw [zst_same]
          by_cases h : j = vs.length
          · subst h; rw [upd_same, getD_last]
          · rw [upd_ne h, getD_app (by omega)]; exact h13 j (by omega)) g99
        rw [ll] at r3 r4
        exact ⟨F', A', fun k a b c d => by rw [r1 k a b c d, t2 k a b c d], fun k hk => by rw [r2 k hk, zst_ne hk], r3, r4⟩
    · have z2 : ¬ F1 3 = (2 : Int32) := fun y => z ((nI_eq (b := 2) (by omega) (by decide)).mp (by rw [← t3]; exact y))
      rw [if_neg z2, bad (fun y => z y.1)]
      refine ⟨F1, A, t2, fun k hk => rfl, fun q e => ?_, fun vs' p' e => by cases e⟩
      cases e
      exact ⟨rfl, t4⟩
/-! X adds an item -/
theorem of_sub {v : Nat} (hv : v ≤ 99) : nI v - 9 = Int32.ofInt ((v : Int) - 9) := by
  apply Int32.toInt_inj.mp
  rw [show (9 : Int32) = nI 9 from rfl, pk_sub_toInt (by omega) (by decide), fb_ofI (by omega) (by omega)]
  rfl
theorem x_af {st : PS} (hs : sOK st) (hm : nF st.1 < 8) {vs : List Nat} (hl : vs.length = 2 + nS st.1) (h99 : ∀ j, vs.getD j 0 ≤ 99) (hd2 : dOK (adF st.1 vs)) {F : ZF} (h28 : F 28 = nI (nS st.1)) (h29 : F 29 = nI (nF st.1)) {T : Int64} : ∀ (m j w : Nat) (A : ZA), j + m = 6 → m < w → (∀ i, i < vs.length → A 13 i = nI (vs.getD i 0)) → (∀ s, s < j → A 41 (6 * nF st.1 + s) = Int32.ofInt (mvN st.1 vs s) ∧ A 42 (6 * nF st.1 + s) = Int32.ofInt (tmv (adF st.1 vs) (nF st.1) s)) → ∃ A', f_X1_addFact_26 w (nI j) F A T = some (upd F 29 (nI (nF st.1 + 1)), A', T) ∧ (∀ k, k ≠ 41 → k ≠ 42 → A' k = A k) ∧ (∀ s, s < 6 → A' 41 (6 * nF st.1 + s) = Int32.ofInt (mvN st.1 vs s) ∧ A' 42 (6 * nF st.1 + s) = Int32.ofInt (tmv (adF st.1 vs) (nF st.1) s)) ∧ ∀ i, i < 6 * nF st.1 → A' 41 i = A 41 i ∧ A' 42 i = A 42 i := by
  have hS := hs.1.1.1
  intro m
  induction m with
  | zero =>
    intro j w A hj hw h13 h6
    obtain ⟨w, rfl⟩ : ∃ w', w = w' + 1 := ⟨w - 1, by omega⟩
    have e : j = 6 := by omega
    subst e
    rw [f_X1_addFact_26_s, if_pos (show (6 : Int32) ≤ nI 6 by decide), h29, nI_1]
    exact ⟨A, rfl, fun k _ _ => rfl, h6, fun i _ => ⟨rfl, rfl⟩⟩
  | succ m ih =>
    intro j w A hj hw h13 h6
    obtain ⟨w, rfl⟩ : ∃ w', w = w' + 1 := ⟨w - 1, by omega⟩
    have c6 : ¬ (6 : Int32) ≤ nI j := nI_ge (b := 6) (by omega) (by decide)
    have ix : F 29 * 6 + nI j = nI (6 * nF st.1 + j) := by
      rw [h29, show (6 : Int32) = nI 6 from rfl, pk_mul, nI_add, Nat.mul_comm]
    have g : gok (nI (6 * nF st.1 + j)) 48 = true := gok_nI (by omega) (by decide)
    have body : ∃ A', f_X1_addFact_52 (f_X1_addFact_26 w) (nI j) (Int32.ofInt (mvN st.1 vs j)) F A T = some (upd F 29 (nI (nF st.1 + 1)), A', T) ∧ (∀ k, k ≠ 41 → k ≠ 42 → A' k = A k) ∧ (∀ s, s < 6 → A' 41 (6 * nF st.1 + s) = Int32.ofInt (mvN st.1 vs s) ∧ A' 42 (6 * nF st.1 + s) = Int32.ofInt (tmv (adF st.1 vs) (nF st.1) s)) ∧ ∀ i, i < 6 * nF st.1 → A' 41 i = A 41 i ∧ A' 42 i = A 42 i := by
      unfold f_X1_addFact_52
      rw [ix, if_pos g, if_pos g, nI_clamp (by omega), cl1, zst_ne (show (13 : Nat) ≠ 41 by decide), h13 1 (by omega), nI_1]
      have te := tmv_eq hd2 (f := nF st.1) (s := j) (show nF st.1 < nF st.1 + 1 by omega) (by omega)
      have e1 : mv (adF st.1 vs) (nF st.1) j = mvN st.1 vs j := if_pos rfl
      have e2 : tr (adF st.1 vs) (nF st.1) = vs.getD 1 0 := upn_same _ _ _
      rw [e1, e2] at te
      rw [te]
      obtain ⟨A', r1, r2, r3, r4⟩ := ih (j + 1) w (zst (zst A 41 (6 * nF st.1 + j) (Int32.ofInt (mvN st.1 vs j))) 42 (6 * nF st.1 + j) (Int32.ofInt (tmv (adF st.1 vs) (nF st.1) j))) (by omega) (by omega) (fun i hi => by rw [zst_ne (by decide), zst_ne (by decide)]; exact h13 i hi) (fun s hs => by
        rw [zst_ne (show (41 : Nat) ≠ 42 by decide), zst_same, zst_same, zst_ne (show (42 : Nat) ≠ 41 by decide)]
        by_cases q : s = j
        · subst q; rw [upd_same, upd_same]; exact ⟨rfl, rfl⟩
        · rw [upd_ne (by omega), upd_ne (by omega)]; exact h6 s (by omega))
      refine ⟨A', r1, fun k a b => by rw [r2 k a b, zst_ne b, zst_ne a], r3, fun i hi => ?_⟩
      obtain ⟨q1, q2⟩ := r4 i hi
      rw [q1, q2, zst_ne (show (41 : Nat) ≠ 42 by decide), zst_same, zst_same, zst_ne (show (42 : Nat) ≠ 41 by decide), upd_ne (by omega), upd_ne (by omega)]
      exact ⟨rfl, rfl⟩
    rw [f_X1_addFact_26_s, if_neg c6, h28]
    by_cases q : nS st.1 ≤ j
    · have e : mvN st.1 vs j = 0 := if_neg (by omega)
      rw [e] at body
      rw [if_pos (nI_le q (by omega))]
      exact body
    · have e : mvN st.1 vs j = ((vs.getD (2 + j) 0 : Nat) : Int) - 9 := if_pos (by omega)
      rw [e, ← of_sub (h99 (2 + j))] at body
      rw [if_neg (nI_ge (by omega) (by omega)), show (2 : Int32) = nI 2 from rfl, nI_add, if_pos (gok_nI (by omega) (by decide)), nI_clamp (by omega), h13 (2 + j) (by omega)]
      exact body
theorem x_add {c : Nat} {st : PS} (hs : sOK st) (hm : may c st = true) {vs : List Nat} (hv : vOK c (nS st.1) vs) (hl : vs.length = due c (nS st.1)) {F : ZF} {A : ZA} {T : Int64} (h : DX st F A) (h13 : ∀ j, j < vs.length → A 13 j = nI (vs.getD j 0)) (h99 : ∀ j, vs.getD j 0 ≤ 99) : ∃ F' A', f_X7_addItem (nI c) F A T = some (F', A', T) ∧ DX (add c st vs) F' A' ∧ (∀ k, ¬ (k = 6 ∨ k = 7 ∨ 28 ≤ k ∧ k ≤ 33) → F' k = F k) ∧ ∀ k, ¬ (38 ≤ k ∧ k ≤ 46) → A' k = A k := by
  have hs2 := add_ok hs hm hv hl
  have hS := hs.1.1.1
  obtain ⟨⟨⟨t0, t1, t2, t3, t4⟩, tg, tf, tmm, ta⟩, h33, h6, h7⟩ := h
  have e28 : F 28 = nI (nS st.1) := t0
  have e29 : F 29 = nI (nF st.1) := t1
  have e30 : F 30 = nI (nA st.1) := t2
  unfold f_X7_addItem
  rcases may_c hm with rfl | rfl | rfl | rfl | rfl
  · have m1 : nA st.1 < 8 := by simpa [may] using hm
    have l4 : vs.length = 4 := hl
    have g : gok (nI (nA st.1)) 8 = true := gok_nI m1 (by decide)
    rw [if_pos (show nI 97 = (97 : Int32) from rfl)]
    unfold f_X1_addAlibi
    rw [e30, if_pos g, if_pos g, if_pos g, if_pos g, nI_clamp (by omega), cl0, cl1, cl2, cl3, Option.bind_some, nI_1]
    simp only [zst_ne (show (13 : Nat) ≠ 43 by decide), zst_ne (show (13 : Nat) ≠ 44 by decide), zst_ne (show (13 : Nat) ≠ 45 by decide), h13 0 (by omega), h13 1 (by omega), h13 2 (by omega), h13 3 (by omega)]
    refine ⟨_, _, rfl, ⟨⟨⟨?_, ?_, ?_, ?_, ?_⟩, ?_, ?_, ?_, fun a ha => ?_⟩, ?_, ?_, ?_⟩, fun k hk => by rw [upd_ne (by omega)], fun k hk => by rw [zst_ne (by omega), zst_ne (by omega), zst_ne (by omega), zst_ne (by omega)]⟩
    · show upd F 30 _ 28 = _; rw [upd_ne (by decide)]; exact t0
    · show upd F 30 _ 29 = _; rw [upd_ne (by decide)]; exact t1
    · exact upd_same _ _ _
    · show upd F 30 _ 31 = _; rw [upd_ne (by decide)]; exact t3
    · show upd F 30 _ 32 = _; rw [upd_ne (by decide)]; exact t4
    · exact tg
    · exact tf
    · exact tmm
    · have ha : a < nA st.1 + 1 := ha
      show zst (zst (zst (zst A 43 (nA st.1) (nI (vs.getD 0 0))) 44 (nA st.1) (nI (vs.getD 1 0))) 45 (nA st.1) (nI (vs.getD 2 0))) 46 (nA st.1) (nI (vs.getD 3 0)) 43 a = nI (upn (wh st.1) (nA st.1) (vs.getD 0 0) a) ∧ zst (zst (zst (zst A 43 (nA st.1) (nI (vs.getD 0 0))) 44 (nA st.1) (nI (vs.getD 1 0))) 45 (nA st.1) (nI (vs.getD 2 0))) 46 (nA st.1) (nI (vs.getD 3 0)) 44 a = nI (upn (pl st.1) (nA st.1) (vs.getD 1 0) a) ∧ zst (zst (zst (zst A 43 (nA st.1) (nI (vs.getD 0 0))) 44 (nA st.1) (nI (vs.getD 1 0))) 45 (nA st.1) (nI (vs.getD 2 0))) 46 (nA st.1) (nI (vs.getD 3 0)) 45 a = nI (upn (fm st.1) (nA st.1) (vs.getD 2 0) a) ∧ zst (zst (zst (zst A 43 (nA st.1) (nI (vs.getD 0 0))) 44 (nA st.1) (nI (vs.getD 1 0))) 45 (nA st.1) (nI (vs.getD 2 0))) 46 (nA st.1) (nI (vs.getD 3 0)) 46 a = nI (upn (tt st.1) (nA st.1) (vs.getD 3 0) a)
      rw [zst_same, zst_ne (show (45 : Nat) ≠ 46 by decide), zst_same, zst_ne (show (44 : Nat) ≠ 46 by decide), zst_ne (show (44 : Nat) ≠ 45 by decide), zst_same, zst_ne (show (43 : Nat) ≠ 46 by decide), zst_ne (show (43 : Nat) ≠ 45 by decide), zst_ne (show (43 : Nat) ≠ 44 by decide), zst_same, zst_ne (show (46 : Nat) ≠ 45 by decide), zst_ne (show (46 : Nat) ≠ 44 by decide), zst_ne (show (46 : Nat) ≠ 43 by decide), zst_ne (show (45 : Nat) ≠ 44 by decide), zst_ne (show (45 : Nat) ≠ 43 by decide), zst_ne (show (44 : Nat) ≠ 43 by decide)]
      by_cases q : a = nA st.1
      · subst q; simp only [upd_same, upn_same]; exact ⟨trivial, trivial, trivial, trivial⟩
      · rw [upd_ne q, upd_ne q, upd_ne q, upd_ne q, upn_ne q, upn_ne q, upn_ne q, upn_ne q]; exact ta a (by omega)
    · show upd F 30 _ 33 = _; rw [upd_ne (by decide)]; exact h33
    · rw [upd_ne (by decide)]; exact h6
    · rw [upd_ne (by decide)]; exact h7
  · have l1 : vs.length = 1 := hl
    rw [if_neg (show ¬ nI 100 = (97 : Int32) by decide), if_neg (show ¬ nI 100 = (102 : Int32) by decide), if_neg (show ¬ nI 100 = (115 : Int32) by decide), if_neg (show ¬ nI 100 = (116 : Int32) by decide), cl0, h13 0 (by omega)]
    refine ⟨_, _, rfl, ⟨⟨⟨?_, ?_, ?_, ?_, ?_⟩, tg, tf, tmm, ta⟩, ?_, ?_, ?_⟩, fun k hk => by rw [upd_ne (by omega), upd_ne (by omega)], fun k hk => rfl⟩
    · show upd (upd F 33 _) 7 _ 28 = _; rw [upd_ne (by decide), upd_ne (by decide)]; exact t0
    · show upd (upd F 33 _) 7 _ 29 = _; rw [upd_ne (by decide), upd_ne (by decide)]; exact t1
    · show upd (upd F 33 _) 7 _ 30 = _; rw [upd_ne (by decide), upd_ne (by decide)]; exact t2
    · show upd (upd F 33 _) 7 _ 31 = _; rw [upd_ne (by decide), upd_ne (by decide)]; exact t3
    · show upd (upd F 33 _) 7 _ 32 = _; rw [upd_ne (by decide), upd_ne (by decide)]; exact t4
    · rw [upd_ne (by decide), upd_same]; rfl
    · rw [upd_ne (by decide), upd_ne (by decide)]; exact h6
    · rw [upd_same]; rfl
  · have m1 : nF st.1 < 8 := by simpa [may] using hm
    have l2 : vs.length = 2 + nS st.1 := hl
    have g : gok (nI (nF st.1)) 8 = true := gok_nI m1 (by decide)
    rw [if_neg (show ¬ nI 102 = (97 : Int32) by decide), if_pos (show nI 102 = (102 : Int32) from rfl)]
    unfold f_X1_addFact
    rw [e29, if_pos g, if_pos g, nI_clamp (by omega), cl0, cl1, zst_ne (show (13 : Nat) ≠ 39 by decide), h13 0 (by omega), h13 1 (by omega)]
    obtain ⟨A', r1, r2, r3, r4⟩ := x_af hs m1 l2 h99 hs2.1 e28 e29 (T := T) 6 0 1000 (zst (zst A 39 (nF st.1) (nI (vs.getD 0 0))) 40 (nF st.1) (nI (vs.getD 1 0))) (by omega) (by omega) (fun i hi => by rw [zst_ne (by decide), zst_ne (by decide)]; exact h13 i hi) (fun s hs => absurd hs (Nat.not_lt_zero s))
    have r1 : f_X1_addFact_26 1000 (0 : Int32) F (zst (zst A 39 (nF st.1) (nI (vs.getD 0 0))) 40 (nF st.1) (nI (vs.getD 1 0))) T = _ := r1
    rw [r1, Option.bind_some]
    refine ⟨upd F 29 (nI (nF st.1 + 1)), A', rfl, ⟨⟨⟨?_, ?_, ?_, ?_, ?_⟩, ?_, fun f hf => ?_, fun f hf s hs' => ?_, ?_⟩, ?_, ?_, ?_⟩, fun k hk => by rw [upd_ne (by omega)], fun k hk => by rw [r2 k (by omega) (by omega), zst_ne (by omega), zst_ne (by omega)]⟩
    · show upd F 29 _ 28 = _; rw [upd_ne (by decide)]; exact t0
    · exact upd_same _ _ _
    · show upd F 29 _ 30 = _; rw [upd_ne (by decide)]; exact t2
    · show upd F 29 _ 31 = _; rw [upd_ne (by decide)]; exact t3
    · show upd F 29 _ 32 = _; rw [upd_ne (by decide)]; exact t4
    · intro s hs'
      show A' 38 s = _
      rw [r2 38 (by decide) (by decide), zst_ne (by decide), zst_ne (by decide)]; exact tg s hs'
    · have hf : f < nF st.1 + 1 := hf
      show A' 39 f = nI (upn (co st.1) (nF st.1) (vs.getD 0 0) f) ∧ A' 40 f = nI (upn (tr st.1) (nF st.1) (vs.getD 1 0) f)
      rw [r2 39 (by decide) (by decide), r2 40 (by decide) (by decide), zst_same, zst_ne (show (39 : Nat) ≠ 40 by decide), zst_same, zst_ne (show (40 : Nat) ≠ 39 by decide)]
      by_cases q : f = nF st.1
      · subst q; simp only [upd_same, upn_same]; exact ⟨trivial, trivial⟩
      · rw [upd_ne q, upd_ne q, upn_ne q, upn_ne q]; exact tf f (by omega)
    · have hf : f < nF st.1 + 1 := hf
      show A' 41 (6 * f + s) = Int32.ofInt (if f = nF st.1 then mvN st.1 vs s else mv st.1 f s) ∧ A' 42 (6 * f + s) = Int32.ofInt (tmv (adF st.1 vs) f s)
      by_cases q : f = nF st.1
      · subst q; rw [if_pos rfl]; exact r3 s hs'
      · have et : tmv (adF st.1 vs) f s = tmv st.1 f s := by
          show ((if f = nF st.1 then mvN st.1 vs s else mv st.1 f s) * (upn (tr st.1) (nF st.1) (vs.getD 1 0) f : Int)).tdiv 10 = _
          rw [if_neg q, upn_ne q]; rfl
        obtain ⟨q1, q2⟩ := r4 (6 * f + s) (by omega)
        rw [if_neg q, et, q1, q2, zst_ne (by decide), zst_ne (by decide), zst_ne (by decide), zst_ne (by decide)]
        exact tmm f (by omega) s hs'
    · intro a ha
      show A' 43 a = _ ∧ A' 44 a = _ ∧ A' 45 a = _ ∧ A' 46 a = _
      rw [r2 43 (by decide) (by decide), r2 44 (by decide) (by decide), r2 45 (by decide) (by decide), r2 46 (by decide) (by decide), zst_ne (by decide), zst_ne (by decide), zst_ne (by decide), zst_ne (by decide), zst_ne (by decide), zst_ne (by decide), zst_ne (by decide), zst_ne (by decide)]
      exact ta a ha
    · rw [upd_ne (by decide)]; exact h33
    · rw [upd_ne (by decide)]; exact h6
    · rw [upd_ne (by decide)]; exact h7
  · have m1 : nS st.1 < 6 := by simpa [may] using hm
    have l1 : vs.length = 1 := hl
    have g : gok (nI (nS st.1)) 6 = true := gok_nI m1 (by decide)
    rw [if_neg (show ¬ nI 115 = (97 : Int32) by decide), if_neg (show ¬ nI 115 = (102 : Int32) by decide), if_pos (show nI 115 = (115 : Int32) from rfl), cl0, h13 0 (by omega)]
    unfold f_X1_addSuspect
    rw [e28, if_pos g, nI_clamp (by omega), nI_1, Option.bind_some]
    refine ⟨upd F 28 (nI (nS st.1 + 1)), zst A 38 (nS st.1) (nI (vs.getD 0 0)), rfl, ⟨⟨⟨?_, ?_, ?_, ?_, ?_⟩, fun s hs' => ?_, tf, tmm, ta⟩, ?_, ?_, ?_⟩, fun k hk => by rw [upd_ne (by omega)], fun k hk => by rw [zst_ne (by omega)]⟩
    · exact upd_same _ _ _
    · show upd F 28 _ 29 = _; rw [upd_ne (by decide)]; exact t1
    · show upd F 28 _ 30 = _; rw [upd_ne (by decide)]; exact t2
    · show upd F 28 _ 31 = _; rw [upd_ne (by decide)]; exact t3
    · show upd F 28 _ 32 = _; rw [upd_ne (by decide)]; exact t4
    · have hs' : s < nS st.1 + 1 := hs'
      show zst A 38 (nS st.1) (nI (vs.getD 0 0)) 38 s = nI (upn (gr st.1) (nS st.1) (vs.getD 0 0) s)
      rw [zst_same]
      by_cases q : s = nS st.1
      · subst q; rw [upd_same, upn_same]
      · rw [upd_ne q, upn_ne q]; exact tg s (by omega)
    · rw [upd_ne (by decide)]; exact h33
    · rw [upd_ne (by decide)]; exact h6
    · rw [upd_ne (by decide)]; exact h7
  · have l2 : vs.length = 2 := hl
    rw [if_neg (show ¬ nI 116 = (97 : Int32) by decide), if_neg (show ¬ nI 116 = (102 : Int32) by decide), if_neg (show ¬ nI 116 = (115 : Int32) by decide), if_pos (show nI 116 = (116 : Int32) from rfl), cl0, cl1, h13 0 (by omega), h13 1 (by omega)]
    refine ⟨_, _, rfl, ⟨⟨⟨?_, ?_, ?_, ?_, ?_⟩, tg, tf, tmm, ta⟩, ?_, ?_, ?_⟩, fun k hk => by rw [upd_ne (by omega), upd_ne (by omega), upd_ne (by omega)], fun k hk => rfl⟩
    · show upd (upd (upd F 31 _) 32 _) 6 _ 28 = _; rw [upd_ne (by decide), upd_ne (by decide), upd_ne (by decide)]; exact t0
    · show upd (upd (upd F 31 _) 32 _) 6 _ 29 = _; rw [upd_ne (by decide), upd_ne (by decide), upd_ne (by decide)]; exact t1
    · show upd (upd (upd F 31 _) 32 _) 6 _ 30 = _; rw [upd_ne (by decide), upd_ne (by decide), upd_ne (by decide)]; exact t2
    · show upd (upd (upd F 31 _) 32 _) 6 _ 31 = _; rw [upd_ne (by decide), upd_ne (by decide), upd_same]; rfl
    · show upd (upd (upd F 31 _) 32 _) 6 _ 32 = _; rw [upd_ne (by decide), upd_same]; rfl
    · rw [upd_ne (by decide), upd_ne (by decide), upd_ne (by decide)]; exact h33
    · rw [upd_same]; rfl
    · rw [upd_ne (by decide), upd_ne (by decide), upd_ne (by decide)]; exact h7
