/-! the whole text, both sides -/
theorem may_srt {tx : List Nat} {p : Nat} (hp : p ≤ tx.length) (st : PS) : may (srt (tk tx p).1) st = (decide ((tk tx p).1.1 = 1) && may (tk tx p).1.2 st) := by
  have h4 := (tk_next hp).2.2.2.2.1
  have hl := fun h => tk_let (tx := tx) (p := p) h
  have m0 : ∀ c, c = 0 ∨ c = 1 ∨ c = 2 ∨ c = 3 ∨ c = 4 → may c st = false := by
    intro c hc
    unfold may
    rw [if_neg (by omega), if_neg (by omega), if_neg (by omega), if_neg (by omega), if_neg (by omega)]
  unfold srt
  rcases (show (tk tx p).1.1 = 0 ∨ (tk tx p).1.1 = 1 ∨ (tk tx p).1.1 = 2 ∨ (tk tx p).1.1 = 3 ∨ (tk tx p).1.1 = 4 by omega) with e | e | e | e | e
  · rw [e, if_pos rfl, m0 3 (by omega)]; rfl
  · rw [e, if_neg (by decide), if_pos rfl]
    by_cases z : (tk tx p).1.2 = 0
    · rw [if_pos z, z, m0 4 (by omega), m0 0 (by omega)]; rfl
    · rw [if_neg z]; rfl
  · rw [e, if_neg (by decide), if_neg (by decide), if_pos rfl, m0 1 (by omega)]; rfl
  · rw [e, if_neg (by decide), if_neg (by decide), if_neg (by decide), if_pos rfl, m0 2 (by omega)]; rfl
  · rw [e, if_neg (by decide), if_neg (by decide), if_neg (by decide), if_neg (by decide), m0 4 (by omega)]; rfl
theorem m_may {c : Nat} (hc : c < 256) {st : PS} (hs : sOK st) {F : ZF} {A : ZA} {T : Int64} (h : DM st F A) : f_X11_mayBe (nI c) F A T = if may c st = true then 1 else 0 := by
  obtain ⟨h1, h2, h3, h4⟩ := h
  have d1 := hs.1.1.1
  have d2 := hs.1.1.2.1
  have d3 := hs.1.1.2.2.1
  have e30 : A 8 1 = nI (nA st.1) := h1.1.2.2.1
  have e29 : A 4 1 = nI (nF st.1) := h1.1.2.1
  have e28 : A 2 1 = nI (nS st.1) := h1.1.1
  unfold f_X11_mayBe may
  rw [cl1, e30, e29, e28, h3, h4]
  by_cases c1 : c = 97
  · have z : nI c = (97 : Int32) := by rw [c1]; rfl
    rw [if_pos z, if_pos c1]
    by_cases q : nA st.1 < 8
    · have z2 : ¬ (8 : Int32) ≤ nI (nA st.1) := nI_ge (b := 8) q (by decide)
      rw [if_neg z2, if_pos (by simpa using q)]
    · have z2 : (8 : Int32) ≤ nI (nA st.1) := nI_le (a := 8) (by omega) (by omega)
      rw [if_pos z2, if_neg (by simpa using q)]
  · have z : ¬ nI c = (97 : Int32) := fun e => c1 ((nI_lit (k := 97) hc (by decide)).mp e)
    rw [if_neg z, if_neg c1]
    by_cases c1 : c = 100
    · have z : nI c = (100 : Int32) := by rw [c1]; rfl
      rw [if_pos z, if_pos c1]
      cases st.2.1.2 <;> rfl
    · have z : ¬ nI c = (100 : Int32) := fun e => c1 ((nI_lit (k := 100) hc (by decide)).mp e)
      rw [if_neg z, if_neg c1]
      by_cases c1 : c = 102
      · have z : nI c = (102 : Int32) := by rw [c1]; rfl
        rw [if_pos z, if_pos c1]
        by_cases q : nF st.1 < 8
        · have z2 : ¬ (8 : Int32) ≤ nI (nF st.1) := nI_ge (b := 8) q (by decide)
          rw [if_neg z2, if_pos (by simpa using q)]
        · have z2 : (8 : Int32) ≤ nI (nF st.1) := nI_le (a := 8) (by omega) (by omega)
          rw [if_pos z2, if_neg (by simpa using q)]
      · have z : ¬ nI c = (102 : Int32) := fun e => c1 ((nI_lit (k := 102) hc (by decide)).mp e)
        rw [if_neg z, if_neg c1]
        by_cases c1 : c = 115
        · have z : nI c = (115 : Int32) := by rw [c1]; rfl
          rw [if_pos z, if_pos c1]
          by_cases q : nS st.1 < 6
          · have z2 : ¬ (6 : Int32) ≤ nI (nS st.1) := nI_ge (b := 6) q (by decide)
            rw [if_neg z2, if_pos (by simpa using q)]
          · have z2 : (6 : Int32) ≤ nI (nS st.1) := nI_le (a := 6) (by omega) (by omega)
            rw [if_pos z2, if_neg (by simpa using q)]
        · have z : ¬ nI c = (115 : Int32) := fun e => c1 ((nI_lit (k := 115) hc (by decide)).mp e)
          rw [if_neg z, if_neg c1]
          by_cases c1 : c = 116
          · have z : nI c = (116 : Int32) := by rw [c1]; rfl
            rw [if_pos z, if_pos c1]
            cases st.2.1.1 <;> rfl
          · have z : ¬ nI c = (116 : Int32) := fun e => c1 ((nI_lit (k := 116) hc (by decide)).mp e)
            rw [if_neg z, if_neg c1]; rfl
theorem run_0 {tx : List Nat} {m i : Nat} {st : PS} {p : Nat} (h : (tk tx p).1.1 = 0) : run tx (m + 1) i st p = .inr (i, st) := if_pos h
theorem run_l {tx : List Nat} {m i : Nat} {st : PS} {p q : Nat} (h : ¬ (tk tx p).1.1 = 0) (hi' : itm tx st p = .inl q) : run tx (m + 1) i st p = .inl q := by
  unfold run; rw [if_neg h, hi']
theorem run_r {tx : List Nat} {m i : Nat} {st : PS} {p : Nat} {st2 : PS} {p2 : Nat} (h : ¬ (tk tx p).1.1 = 0) (hi' : itm tx st p = .inr (st2, p2)) : run tx (m + 1) i st p = run tx m (i + 1) st2 p2 := by
  rw [run]; rw [if_neg h, hi']
theorem itm_bad {tx : List Nat} {st : PS} {p : Nat} (h : ¬ ((tk tx p).1.1 = 1 ∧ may (tk tx p).1.2 st = true)) : itm tx st p = .inl (tk tx p).2.1 := if_neg h
theorem itm_l {tx : List Nat} {st : PS} {p q : Nat} (h1 : (tk tx p).1.1 = 1) (h2 : may (tk tx p).1.2 st = true) (h : rowR tx st p = .inl q) : itm tx st p = .inl q := by rw [itm_eq h1 h2, h]
theorem itm_r {tx : List Nat} {st : PS} {p : Nat} {vs : List Nat} {p2 : Nat} (h1 : (tk tx p).1.1 = 1) (h2 : may (tk tx p).1.2 st = true) (h : rowR tx st p = .inr (vs, p2)) : itm tx st p = .inr (add (tk tx p).1.2 st vs, p2) := by rw [itm_eq h1 h2, h]
theorem rs_le {tx : List Nat} {c n : Nat} : ∀ (m : Nat) (vs : List Nat) (p q : Nat), p ≤ tx.length → itr tx c n m (.inr (vs, p)) = .inl q → q ≤ tx.length := by
  intro m
  induction m with
  | zero => intro vs p q hp h; cases h
  | succ m ih =>
    intro vs p q hp h
    have h : itr tx c n m (stp tx c n (.inr (vs, p))) = .inl q := h
    have k := tk_next hp
    by_cases z : (tk tx p).1.1 = 2 ∧ okv c n vs (tk tx p).1.2 = true
    · rw [stp_y z] at h; exact ih _ _ _ k.2.2.1 h
    · rw [stp_n z, itr_inl] at h; cases h; exact k.1
theorem row_le {tx : List Nat} {st : PS} {p q : Nat} (hp : p ≤ tx.length) (h : rowR tx st p = .inl q) : q ≤ tx.length := by
  unfold rowR at h
  have k := tk_next hp
  cases e : itr tx (tk tx p).1.2 (nS st.1) (due (tk tx p).1.2 (nS st.1)) (.inr ([], (tk tx p).2.2)) with
  | inl q2 =>
    rw [e] at h
    have h : (Sum.inl q2 : RS) = .inl q := h
    cases h
    exact rs_le _ _ _ _ k.2.2.1 e
  | inr t =>
    obtain ⟨vs, p1⟩ := t
    have hp1 := (itr_ok _ _ _ _ _ e k.2.2.1 (fun i hi => absurd hi (Nat.not_lt_zero i))).2.2.2
    rw [e] at h
    have h : (if (tk tx p1).1.1 = 3 then (.inr (vs, (tk tx p1).2.2) : RS) else .inl (tk tx p1).2.1) = .inl q := h
    by_cases z : (tk tx p1).1.1 = 3
    · rw [if_pos z] at h; cases h
    · rw [if_neg z] at h; cases h; exact (tk_next hp1).1
theorem vs99 {c n : Nat} (hn : n ≤ 6) {vs : List Nat} (h : vOK c n vs) : ∀ j, vs.getD j 0 ≤ 99 := by
  intro j
  by_cases q : j < vs.length
  · have := (vOK_at h q).2
    have := hi_le (c := c) (n := n) (i := j) hn
    omega
  · rw [List.getD_eq_getElem?_getD, List.getElem?_eq_none_iff.mpr (by omega)]; exact Nat.zero_le _
/-! X -/
theorem x_run {tx : List Nat} (ht : xOK tx) {T : Int64} : ∀ (m i : Nat) (st : PS) (p w : Nat) (F : ZF) (A : ZA), tx.length < p + m → p ≤ tx.length → i ≤ p → m < w → sOK st → TXX tx (F 1) (A 12) → F 2 = nI p → DX st F A → ∃ F' A', (∀ k, (k ≤ 1 ∨ 8 ≤ k ∧ k ≤ 27) → F' k = F k) ∧ (∀ k, ¬ (k = 13 ∨ 38 ≤ k ∧ k ≤ 46) → A' k = A k) ∧ (∀ q, run tx m i st p = .inl q → f_X7_readInto_21 w (nI i) F A T = some (-10 - nI q, F', A', T) ∧ q ≤ 200) ∧ (∀ i' st', run tx m i st p = .inr (i', st') → f_X7_readInto_21 w (nI i) F A T = some (nI i', F', A', T) ∧ DX st' F' A' ∧ sOK st' ∧ i' ≤ 200) := by
  have hL := ht.1
  have n1 : ¬ (1 : Int32) = 0 := by decide
  intro m
  induction m with
  | zero => intro i st p w F A h1 h2; omega
  | succ m ih =>
    intro i st p w F A hm hp hi hw hs hx h2 hD
    obtain ⟨w, rfl⟩ : ∃ w', w = w' + 1 := ⟨w - 1, by omega⟩
    obtain ⟨k1, k2, k3, k4, k5, k6⟩ := tk_next hp
    have hS := hs.1.1.1
    have c200 : ¬ (200 : Int32) < nI i := nI_nlt (a := 200) (by omega) (by omega)
    obtain ⟨F1, t1, t2, t3, t4, t5, t6⟩ := x_tok ht (T := T) hp hx h2
    rw [f_X7_readInto_21_s, if_neg c200, t1, Option.bind_some]
    dsimp only
    have fF1 : ∀ k, (k ≤ 1 ∨ 8 ≤ k ∧ k ≤ 27) → F1 k = F k := fun k hk => t2 k (by omega) (by omega) (by omega) (by omega)
    by_cases z0 : (tk tx p).1.1 = 0
    · have y0 : F1 3 = 0 := by rw [t3, z0]; rfl
      rw [if_pos y0, run_0 z0]
      refine ⟨F1, A, fF1, fun k _ => rfl, fun q e => (by cases e), fun i' st' e => ?_⟩
      cases e
      exact ⟨rfl, hD.fr (fun k hk => t2 k (by omega) (by omega) (by omega) (by omega)) (fun k _ => rfl), hs, by omega⟩
    · have y0 : ¬ F1 3 = 0 := fun e => z0 ((nI_z (by omega)).mp (by rw [← t3]; exact e))
      rw [if_neg y0]
      have D1 : DX st F1 A := hD.fr (fun k hk => t2 k (by omega) (by omega) (by omega) (by omega)) (fun k _ => rfl)
      -- it can not begin so
      have bad : f_X7_readItem F1 A T = some (0, F1, A, T) → ¬ ((tk tx p).1.1 = 1 ∧ may (tk tx p).1.2 st = true) → ∃ F' A', (∀ k, (k ≤ 1 ∨ 8 ≤ k ∧ k ≤ 27) → F' k = F k) ∧ (∀ k, ¬ (k = 13 ∨ 38 ≤ k ∧ k ≤ 46) → A' k = A k) ∧ (∀ q, run tx (m + 1) i st p = .inl q → (Option.bind (f_X7_readItem F1 A T) fun q8 => if q8.1 = 0 then some (-10 - q8.2.1 4, q8.2.1, q8.2.2.1, q8.2.2.2) else f_X7_readInto_21 w (nI i + 1) q8.2.1 q8.2.2.1 q8.2.2.2) = some (-10 - nI q, F', A', T) ∧ q ≤ 200) ∧ (∀ i' st', run tx (m + 1) i st p = .inr (i', st') → (Option.bind (f_X7_readItem F1 A T) fun q8 => if q8.1 = 0 then some (-10 - q8.2.1 4, q8.2.1, q8.2.2.1, q8.2.2.2) else f_X7_readInto_21 w (nI i + 1) q8.2.1 q8.2.2.1 q8.2.2.2) = some (nI i', F', A', T) ∧ DX st' F' A' ∧ sOK st' ∧ i' ≤ 200) := by
        intro e nb
        rw [e, Option.bind_some, if_pos rfl, run_l z0 (itm_bad nb)]
        refine ⟨F1, A, fF1, fun k _ => rfl, fun q e => ?_, fun i' st' e => by cases e⟩
        cases e
        dsimp only
        rw [t4]
        exact ⟨rfl, by omega⟩
      by_cases z1 : (tk tx p).1.1 = 1
      · have y1 : F1 3 = (1 : Int32) := by rw [t3, z1]; rfl
        have e5 := t6 (Or.inl z1)
        have c256 : (tk tx p).1.2 < 256 := by
          rcases tk_let z1 with h | h <;> omega
        have mb := x_may (T := T) c256 hs D1
        cases z2 : may (tk tx p).1.2 st
        · refine bad ?_ (by rw [z2]; simp)
          unfold f_X7_readItem
          rw [if_pos y1, e5, mb, z2, if_neg (show ¬ (false = true) by decide), if_pos rfl]
        · have hc := may_c z2
          have e28 : F1 28 = nI (nS st.1) := D1.1.1.1
          have hri : f_X7_readItem F1 A T = f_X7_readItem_36 1000 (nI (tk tx p).1.2) (nI (due (tk tx p).1.2 (nS st.1))) (nI ([] : List Nat).length) F1 A T := by
            unfold f_X7_readItem
            rw [if_pos y1, e5, mb, z2, if_pos rfl, if_neg n1, x_due hc e28]
            rfl
          have hdu := due_le (c := (tk tx p).1.2) hS
          obtain ⟨F2, A2, r1, r2, r3, r4⟩ := x_rd ht hc hS (T := T) (due (tk tx p).1.2 (nS st.1)) [] (tk tx p).2.2 1000 F1 A (by simp) (by omega) k3 (by rw [t2 1 (by decide) (by decide) (by decide) (by decide)]; exact hx) (t5 (by omega)) e28 (fun j hj => absurd hj (Nat.not_lt_zero j)) (fun j => by simp)
          rw [hri]
          cases e : rowR tx st p with
          | inl q =>
            obtain ⟨s1, s2⟩ := r3 q e
            rw [s1, Option.bind_some, if_pos rfl, run_l z0 (itm_l z1 z2 e)]
            refine ⟨F2, A2, fun k hk => by rw [r1 k (by omega) (by omega) (by omega) (by omega), fF1 k hk], fun k hk => r2 k (by omega), fun q' e' => ?_, fun i' st' e' => by cases e'⟩
            cases e'
            dsimp only
            rw [s2]
            exact ⟨rfl, by have := row_le hp e; omega⟩
          | inr t =>
            obtain ⟨vs, p2⟩ := t
            obtain ⟨s1, s2, s3⟩ := r4 vs p2 e
            obtain ⟨o1, o2, o3, o4⟩ := row_ok hp z1 e
            have D2 : DX st F2 A2 := D1.fr (fun k hk => r1 k (by omega) (by omega) (by omega) (by omega)) (fun k hk => r2 k (by omega))
            obtain ⟨F3, A3, a1, a2, a3, a4⟩ := x_add hs z2 o1 o2 (T := T) D2 s3 (vs99 hS o1)
            have hs3 := add_ok hs z2 o1 o2
            unfold addK at s1
            rw [s1, a1, Option.bind_some, Option.bind_some, if_neg n1, run_r z0 (itm_r z1 z2 e), nI_1]
            obtain ⟨F', A', u1, u2, u3, u4⟩ := ih (i + 1) (add (tk tx p).1.2 st vs) p2 w F3 A3 (by omega) o4 (by omega) (by omega) hs3 (by
              rw [a3 1 (by omega), r1 1 (by decide) (by decide) (by decide) (by decide), t2 1 (by decide) (by decide) (by decide) (by decide), a4 12 (by omega), r2 12 (by decide)]; exact hx) (by rw [a3 2 (by omega)]; exact s2) a2
            exact ⟨F', A', fun k hk => by rw [u1 k hk, a3 k (by omega), r1 k (by omega) (by omega) (by omega) (by omega), fF1 k hk], fun k hk => by rw [u2 k hk, a4 k (by omega), r2 k (by omega)], u3, u4⟩
      · refine bad ?_ (fun h => z1 h.1)
        have y1 : ¬ F1 3 = (1 : Int32) := fun e => z1 ((nI_eq (b := 1) (by omega) (by decide)).mp (by rw [← t3]; exact e))
        unfold f_X7_readItem
        rw [if_neg y1]
/-! the reference -/
theorem m_140d {x1 : Int32} {F : ZF} {A : ZA} {T : Int64} {q : Nat} (h : F 5 = nI q) (hq : q ≤ 200) : f_X11_court_140 x1 F A T = some (-10 - nI q, F, A, T) := by
  unfold f_X11_court_140
  rw [if_neg (show ¬ F 5 = -9 by rw [h]; exact n9_ne hq), h]
theorem m_70d {x1 : Int32} {F : ZF} {A : ZA} {T : Int64} {q w : Nat} (h : F 5 = nI q) (hq : q ≤ 200) : f_X11_court_70 (w + 1) x1 F A T = some (-10 - nI q, F, A, T) := by
  rw [f_X11_court_70_s, if_neg (show ¬ F 5 = -9 by rw [h]; exact n9_ne hq), m_140d h hq]
theorem m_run {tx : List Nat} (ht : xOK tx) {T : Int64} : ∀ (m i : Nat) (st : PS) (p w : Nat) (F : ZF) (A : ZA) (us : List Nat), tx.length < p + m → p ≤ tx.length → m + 1 < w → sOK st → TXM tx (F 0) (A 1) → MS tx (.inr (us, p)) F → DM st F A → ∃ F' A', LH A A' ∧ (∀ k, (k = 0 ∨ 9 ≤ k) → F' k = F k) ∧ (∀ q, run tx m i st p = .inl q → f_X11_court_70 w (nI i) F A T = some (-10 - nI q, F', A', T)) ∧ (∀ i' st', run tx m i st p = .inr (i', st') → f_X11_court_70 w (nI i) F A T = f_X11_court_140 (nI i') F' A' T ∧ F' 5 = -9 ∧ DM st' F' A' ∧ sOK st') := by
  have hL := ht.1
  have n1 : ¬ (1 : Int32) = 0 := by decide
  intro m
  induction m with
  | zero => intro i st p w F A us h1 h2; omega
  | succ m ih =>
    intro i st p w F A us hm hp hw hs hx hq hD
    obtain ⟨w, rfl⟩ : ∃ w', w = w' + 1 := ⟨w - 1, by omega⟩
    obtain ⟨k1, k2, k3, k4, k5, k6⟩ := tk_next hp
    obtain ⟨b1, b2, b3, b4⟩ := srt_le hp
    have hq0 := hq
    obtain ⟨h5, ⟨q2, q3, q4, q1⟩, -⟩ := hq
    rw [f_X11_court_70_s, if_pos h5]
    by_cases z0 : (tk tx p).1.1 = 0
    · have y0 : F 3 = (3 : Int32) := by rw [q3, b2.mp z0]; rfl
      rw [if_pos y0, run_0 z0]
      refine ⟨F, A, LH.refl A, fun k _ => rfl, fun q e => (by cases e), fun i' st' e => ?_⟩
      cases e
      exact ⟨rfl, h5, hD, hs⟩
    · have y0 : ¬ F 3 = (3 : Int32) := fun e => z0 (b2.mpr ((nI_eq (b := 3) (by omega) (by decide)).mp (by rw [← q3]; exact e)))
      rw [if_neg y0, q3, m_may (by omega) hs hD, may_srt hp]
      by_cases z : (tk tx p).1.1 = 1 ∧ may (tk tx p).1.2 st = true
      · obtain ⟨z1, z2⟩ := z
        have zb : (decide ((tk tx p).1.1 = 1) && may (tk tx p).1.2 st) = true := by simp [z1, z2]
        rw [zb]
        obtain ⟨F1, r1, r2, r3, r4⟩ := m_due ht (T := T) (y := if true = true then 1 else 0) (b := true) hx hq0 rfl (fun _ => by omega)
        obtain ⟨r5, r6⟩ := r4 rfl
        rw [r1, Option.bind_some]
        dsimp only
        rw [if_pos r5]
        have sv : srt (tk tx p).1 = (tk tx p).1.2 := by
          have hc := may_c z2
          unfold srt
          rw [if_neg (by omega), if_pos z1, if_neg]
          unfold isC at hc
          omega
        rw [sv]
        have x1 : TXM tx (F1 0) (A 1) := by rw [r2 0 (by decide) (by decide) (by decide) (by decide) (by decide)]; exact hx
        have D1 : DM st F1 A := ⟨hD.1, by rw [r2 8 (by decide) (by decide) (by decide) (by decide) (by decide)]; exact hD.2.1, by rw [r2 6 (by decide) (by decide) (by decide) (by decide) (by decide)]; exact hD.2.2.1, by rw [r2 7 (by decide) (by decide) (by decide) (by decide) (by decide)]; exact hD.2.2.2⟩
        obtain ⟨F2, A2, a1, a2, a3, a4, a5⟩ := m_row ht hs z2 (T := T) x1 (show MS tx (.inr ([], (tk tx p).2.2)) F1 from ⟨r5, r6, k3⟩) D1
        have fr2 : ∀ k, (k = 0 ∨ 9 ≤ k) → F2 k = F k := fun k hk => by rw [a4 k hk, r2 k (by omega) (by omega) (by omega) (by omega) (by omega)]
        rw [a1, Option.bind_some]
        dsimp only
        cases e : itr tx (tk tx p).1.2 (nS st.1) (due (tk tx p).1.2 (nS st.1)) (.inr ([], (tk tx p).2.2)) with
        | inl q =>
          rw [e] at a2
          obtain ⟨d5, dq⟩ := a2
          have er : rowR tx st p = .inl q := by unfold rowR; rw [e]; rfl
          have hy : ∀ y : Int32, f_X11_court_130 (f_X11_court_70 w) (nI i) y F2 A2 T = some (-10 - nI q, F2, A2, T) := by
            intro y
            obtain ⟨w, rfl⟩ : ∃ w', w = w' + 1 := ⟨w - 1, by omega⟩
            unfold f_X11_court_130 f_X11_due
            rw [if_neg (show ¬ F2 5 = -9 by rw [d5]; exact n9_ne dq), Option.bind_some]
            exact m_70d d5 dq
          rw [hy, hy, run_l z0 (itm_l z1 z2 er)]
          refine ⟨F2, A2, a3, fr2, fun q' e' => ?_, fun i' st' e' => by cases e'⟩
          cases e'
          split <;> rfl
        | inr t =>
          obtain ⟨vs, p1⟩ := t
          have a5' := a5 vs p1 e
          rw [e] at a2
          have hp1 : p1 ≤ tx.length := a2.2.2
          obtain ⟨c1, c2, c3, c4⟩ := srt_le hp1
          obtain ⟨j1, j2, j3, j4, j5, j6⟩ := tk_next hp1
          have e3 : F2 3 = nI (srt (tk tx p1).1) := a2.2.1.2.1
          have x2 : TXM tx (F2 0) (A2 1) := by rw [fr2 0 (by omega), a3.1 1 (by omega)]; exact hx
          by_cases w3 : (tk tx p1).1.1 = 3
          · have er : rowR tx st p = .inr (vs, (tk tx p1).2.2) := by unfold rowR; rw [e]; exact if_pos w3
            obtain ⟨o1, o2, o3, o4⟩ := row_ok hp z1 er
            have hs3 := add_ok hs z2 o1 o2
            have y3 : F2 3 = (2 : Int32) := by rw [e3, c4.mp w3]; rfl
            rw [if_pos y3]
            obtain ⟨F3, u1, u2, u3, u4⟩ := m_due ht (T := T) (y := 1) (b := true) x2 a2 rfl (fun _ => by omega)
            obtain ⟨u5, u6⟩ := u4 rfl
            unfold f_X11_court_130
            rw [u1, Option.bind_some, nI_1]
            dsimp only
            have D3 : DM (add (tk tx p).1.2 st vs) F3 A2 := ⟨a5'.1, by rw [u2 8 (by decide) (by decide) (by decide) (by decide) (by decide)]; exact a5'.2.1, by rw [u2 6 (by decide) (by decide) (by decide) (by decide) (by decide)]; exact a5'.2.2.1, by rw [u2 7 (by decide) (by decide) (by decide) (by decide) (by decide)]; exact a5'.2.2.2⟩
            obtain ⟨F', A', v1, v2, v3, v4⟩ := ih (i + 1) (add (tk tx p).1.2 st vs) (tk tx p1).2.2 w F3 A2 vs (by omega) o4 (by omega) hs3 (by rw [u2 0 (by decide) (by decide) (by decide) (by decide) (by decide)]; exact x2) ⟨u5, u6, o4⟩ D3
            rw [run_r z0 (itm_r z1 z2 er)]
            exact ⟨F', A', a3.trans v1, fun k hk => by rw [v2 k hk, u2 k (by omega) (by omega) (by omega) (by omega) (by omega), fr2 k hk], v3, v4⟩
          · have er : rowR tx st p = .inl (tk tx p1).2.1 := by unfold rowR; rw [e]; exact if_neg w3
            have y3 : ¬ F2 3 = (2 : Int32) := fun e' => w3 (c4.mpr ((nI_eq (b := 2) (by omega) (by decide)).mp (by rw [← e3]; exact e')))
            rw [if_neg y3]
            obtain ⟨F3, u1, u2, u3, u4⟩ := m_due ht (T := T) (y := 0) (b := false) x2 a2 rfl (fun e' => by cases e')
            have u5 := u3 rfl
            unfold f_X11_court_130
            rw [u1, Option.bind_some]
            dsimp only
            obtain ⟨w, rfl⟩ : ∃ w', w = w' + 1 := ⟨w - 1, by omega⟩
            rw [m_70d u5 (by omega), run_l z0 (itm_l z1 z2 er)]
            refine ⟨F3, A2, a3, fun k hk => by rw [u2 k (by omega) (by omega) (by omega) (by omega) (by omega), fr2 k hk], fun q' e' => ?_, fun i' st' e' => by cases e'⟩
            cases e'
            rfl
      · have zb : (decide ((tk tx p).1.1 = 1) && may (tk tx p).1.2 st) = false := by
          cases y : (decide ((tk tx p).1.1 = 1) && may (tk tx p).1.2 st)
          · rfl
          · exact absurd (by simpa using y) z
        rw [zb]
        obtain ⟨F1, r1, r2, r3, r4⟩ := m_due ht (T := T) (y := if false = true then 1 else 0) (b := false) hx hq0 rfl (fun e => by cases e)
        have r5 := r3 rfl
        rw [r1, Option.bind_some]
        dsimp only
        rw [if_neg (show ¬ F1 5 = -9 by rw [r5]; exact n9_ne (by omega))]
        obtain ⟨w, rfl⟩ : ∃ w', w = w' + 1 := ⟨w - 1, by omega⟩
        rw [m_70d r5 (by omega), run_l z0 (itm_bad z)]
        refine ⟨F1, A, LH.refl A, fun k hk => r2 k (by omega) (by omega) (by omega) (by omega) (by omega), fun q' e' => ?_, fun i' st' e' => by cases e'⟩
        cases e'
        rfl
/-! the call -/
def st0 : PS := (((0, 0, 0, 8, 15), fun _ => 0, fun _ => 0, fun _ => 0, fun _ _ => 0, fun _ => 0, fun _ => 0, fun _ => 0, fun _ => 0), (false, false), 10)
theorem st0_ok : sOK st0 := by
  refine ⟨⟨⟨by decide, by decide, by decide, by decide, by decide⟩, ?_, ?_, ?_, ?_⟩, by decide⟩ <;> exact fun s h => absurd h (Nat.not_lt_zero s)
theorem nar0 : vp_nar .boolean (0 : Int32) = 0 := by decide
theorem x_65 {x1 : Int32} {F : ZF} {A : ZA} {T : Int64} : f_X10_court_65 1000 x1 0 F A T = some (x1, F, zst (zst A 5 0 0) 5 1 0, T) := by
  have s0 : f_X10_court_65 1000 x1 (nI 0) F A T = f_X10_court_65 999 x1 (nI 1) F (zst A 5 0 0) T := by
    rw [show (1000 : Nat) = 999 + 1 from rfl, f_X10_court_65_s, if_neg (show ¬ (2 : Int32) ≤ nI 0 by decide), if_pos (show gok (nI 0) 2 = true by decide), nar0, nI_clamp (by decide), nI_1]
  have s1 : f_X10_court_65 999 x1 (nI 1) F (zst A 5 0 0) T = f_X10_court_65 998 x1 (nI 2) F (zst (zst A 5 0 0) 5 1 0) T := by
    rw [show (999 : Nat) = 998 + 1 from rfl, f_X10_court_65_s, if_neg (show ¬ (2 : Int32) ≤ nI 1 by decide), if_pos (show gok (nI 1) 2 = true by decide), nar0, nI_clamp (by decide), nI_1]
  have s2 : f_X10_court_65 998 x1 (nI 2) F (zst (zst A 5 0 0) 5 1 0) T = some (x1, F, zst (zst A 5 0 0) 5 1 0, T) := by
    rw [show (998 : Nat) = 997 + 1 from rfl, f_X10_court_65_s, if_pos (show (2 : Int32) ≤ nI 2 by decide)]
  exact s0.trans (s1.trans s2)
def newQ (st : PS) (t : Int64) : ZQ := (st.1, ((0, 0, st.2.2), []), (none, none), [], [], t)
theorem newQ_ok {st : PS} (h : sOK st) (t : Int64) : aOK (newQ st t) := by
  refine ⟨h.1, ⟨⟨Nat.two_pow_pos _, Nat.two_pow_pos _, h.2⟩, (by decide : ([] : List (Nat × Nat × Nat)).length ≤ 10), fun t ht => by cases ht⟩, ⟨fun g hg => (by cases hg), fun g hg => by cases hg⟩, ⟨(by decide : ([] : List (Nat × Nat)).length ≤ 6), fun t ht => by cases ht⟩, ⟨(by decide : ([] : List Nat).length ≤ 200), fun t ht => by cases ht⟩⟩
theorem x_new {st : PS} {F : ZF} {A : ZA} {T : Int64} (h : DX st F A) : IX (newQ st T) (upd (upd (upd (upd (upd (upd (zswF F) 1 0) 10 0) 11 0) 12 (upd (zswF F) 1 0 27)) 13 0) 0 0, zst (zst (zswA A) 5 0 0) 5 1 0, T) := by
  obtain ⟨h1, h33, h6, h7⟩ := h
  refine ⟨h1.fr (fun k a b => ?_) (fun k a b => ?_), ⟨?_, ?_, ?_, ?_, fun i t e => by cases e⟩, ⟨?_, ?_⟩, ⟨?_, fun i t e => by cases e⟩, ⟨?_, fun i c e => by cases e⟩, rfl⟩
  · dsimp only
    rw [upd_ne (by omega), upd_ne (by omega), upd_ne (by omega), upd_ne (by omega), upd_ne (by omega), upd_ne (by omega)]
    rcases (show k = 22 ∨ k = 23 ∨ k = 24 ∨ k = 25 ∨ k = 26 by omega) with rfl | rfl | rfl | rfl | rfl <;> rfl
  · dsimp only
    rw [zst_ne (by omega), zst_ne (by omega)]
    rcases (show k = 29 ∨ k = 30 ∨ k = 31 ∨ k = 32 ∨ k = 33 ∨ k = 34 ∨ k = 35 ∨ k = 36 ∨ k = 37 by omega) with rfl | rfl | rfl | rfl | rfl | rfl | rfl | rfl | rfl <;> rfl
  · dsimp only
    rw [upd_ne (by decide), upd_ne (by decide), upd_ne (by decide), upd_ne (by decide), upd_same]; rfl
  · dsimp only
    rw [upd_ne (by decide), upd_ne (by decide), upd_ne (by decide), upd_same]; rfl
  · dsimp only
    rw [upd_ne (by decide), upd_ne (by decide), upd_same, upd_ne (by decide)]; exact h33
  · dsimp only
    rw [upd_ne (by decide), upd_same]; rfl
  · show zst (zst (zswA A) 5 0 0) 5 1 0 5 0 = 0
    rw [zst_same, upd_ne (by decide), zst_same, upd_same]
  · show zst (zst (zswA A) 5 0 0) 5 1 0 5 1 = 0
    rw [zst_same, upd_same]
  · dsimp only
    rw [upd_same]; rfl
  · dsimp only
    rw [upd_ne (by decide), upd_ne (by decide), upd_ne (by decide), upd_ne (by decide), upd_ne (by decide), upd_same]; rfl
theorem m_new {st : PS} (hs : sOK st) {x1 : Int32} {F : ZF} {A : ZA} {T : Int64} (h5 : F 5 = -9) (h : DM st F A) : ∃ F' A', f_X11_court_140 x1 F A T = some (x1, F', A', T) ∧ IM (newQ st T) (F', A', T) := by
  obtain ⟨A', t1, t2, t3⟩ := m_take F A T
  have tm := m_tmT hs.1 h.1 t3
  unfold f_X11_court_140
  rw [if_pos h5, t1, Option.bind_some, cl0, cl1, cl2, cl3, nar0]
  dsimp only
  refine ⟨_, _, rfl, tm.fr (fun k a b => ?_), ⟨?_, ?_, ?_, ?_, fun i t e => by cases e⟩, ⟨?_, ?_⟩, ⟨?_, fun i t e => by cases e⟩, ⟨?_, fun i c e => by cases e⟩, rfl⟩
  · dsimp only
    rw [zst_ne (by omega), zst_ne (by omega), zst_ne (by omega), zst_ne (by omega), zst_ne (by omega), zst_ne (by omega)]
  · dsimp only
    rw [zst_ne (by decide), zst_ne (by decide), zst_same, upd_ne (by decide), zst_same, upd_ne (by decide), zst_same, upd_ne (by decide), zst_same, upd_same]; rfl
  · dsimp only
    rw [zst_ne (by decide), zst_ne (by decide), zst_same, upd_ne (by decide), zst_same, upd_ne (by decide), zst_same, upd_same]; rfl
  · dsimp only
    rw [zst_ne (by decide), zst_ne (by decide), zst_same, upd_ne (by decide), zst_same, upd_same]; exact h.2.1
  · dsimp only
    rw [zst_ne (by decide), zst_ne (by decide), zst_same, upd_same]; rfl
  · dsimp only
    rw [zst_same, upd_ne (by decide), zst_same, upd_same]; rfl
  · dsimp only
    rw [zst_same, upd_same]; rfl
  · dsimp only
    rw [upd_ne (by decide), upd_same]; rfl
  · dsimp only
    rw [upd_same]; rfl
theorem neg_q {q : Nat} (h : q ≤ 200) : ¬ (0 : Int32) ≤ -10 - nI q := by
  rw [fa_le, fb_subI (by rw [show (-10 : Int32).toInt = -10 by decide, nI_toInt (by omega)]; omega) (by rw [show (-10 : Int32).toInt = -10 by decide, nI_toInt (by omega)]; omega), show (-10 : Int32).toInt = -10 by decide, nI_toInt (by omega), show (0 : Int32).toInt = 0 by decide]
  omega
theorem p_court : st_court Rel := by
  rintro U V ⟨a, hok, hx, hm⟩
  have ht := hok.2.2.2.2
  have hL := ht.1
  have xt := hx.2.2.2.2.1
  have mt := hm.2.2.2.2.1
  have eT : U.2.2 = V.2.2 := by rw [hx.2.2.2.2.2, hm.2.2.2.2.2]
  -- X
  have D0 : DX st0 (upd (upd (upd (upd (upd (upd (upd (upd (upd U.1 28 0) 29 0) 30 0) 31 8) 32 15) 33 10) 2 0) 6 0) 7 0) U.2.1 := by
    refine ⟨⟨⟨?_, ?_, ?_, ?_, ?_⟩, ?_, ?_, ?_, ?_⟩, ?_, ?_, ?_⟩
    · show upd (upd (upd (upd (upd (upd (upd (upd (upd U.1 28 0) 29 0) 30 0) 31 8) 32 15) 33 10) 2 0) 6 0) 7 0 28 = _
      rw [upd_ne (by decide), upd_ne (by decide), upd_ne (by decide), upd_ne (by decide), upd_ne (by decide), upd_ne (by decide), upd_ne (by decide), upd_ne (by decide), upd_same]; rfl
    · show upd (upd (upd (upd (upd (upd (upd (upd (upd U.1 28 0) 29 0) 30 0) 31 8) 32 15) 33 10) 2 0) 6 0) 7 0 29 = _
      rw [upd_ne (by decide), upd_ne (by decide), upd_ne (by decide), upd_ne (by decide), upd_ne (by decide), upd_ne (by decide), upd_ne (by decide), upd_same]; rfl
    · show upd (upd (upd (upd (upd (upd (upd (upd (upd U.1 28 0) 29 0) 30 0) 31 8) 32 15) 33 10) 2 0) 6 0) 7 0 30 = _
      rw [upd_ne (by decide), upd_ne (by decide), upd_ne (by decide), upd_ne (by decide), upd_ne (by decide), upd_ne (by decide), upd_same]; rfl
    · show upd (upd (upd (upd (upd (upd (upd (upd (upd U.1 28 0) 29 0) 30 0) 31 8) 32 15) 33 10) 2 0) 6 0) 7 0 31 = _
      rw [upd_ne (by decide), upd_ne (by decide), upd_ne (by decide), upd_ne (by decide), upd_ne (by decide), upd_same]; rfl
    · show upd (upd (upd (upd (upd (upd (upd (upd (upd U.1 28 0) 29 0) 30 0) 31 8) 32 15) 33 10) 2 0) 6 0) 7 0 32 = _
      rw [upd_ne (by decide), upd_ne (by decide), upd_ne (by decide), upd_ne (by decide), upd_same]; rfl
    · exact fun s h => absurd h (Nat.not_lt_zero s)
    · exact fun s h => absurd h (Nat.not_lt_zero s)
    · exact fun s h => absurd h (Nat.not_lt_zero s)
    · exact fun s h => absurd h (Nat.not_lt_zero s)
    · rw [upd_ne (by decide), upd_ne (by decide), upd_ne (by decide), upd_same]; rfl
    · rw [upd_ne (by decide), upd_same]; rfl
    · rw [upd_same]; rfl
  obtain ⟨F1, A1, x1, x2, x3, x4⟩ := x_run ht (T := U.2.2) (a.2.2.2.2.1.length + 1) 0 st0 0 1000 (upd (upd (upd (upd (upd (upd (upd (upd (upd U.1 28 0) 29 0) 30 0) 31 8) 32 15) 33 10) 2 0) 6 0) 7 0) U.2.1 (by omega) (by omega) (by omega) (by omega) st0_ok (by
    rw [upd_ne (by decide), upd_ne (by decide), upd_ne (by decide), upd_ne (by decide), upd_ne (by decide), upd_ne (by decide), upd_ne (by decide), upd_ne (by decide), upd_ne (by decide)]; exact xt) (by rw [upd_ne (by decide), upd_ne (by decide), upd_same]; rfl) D0
  have fx : ∀ k, (k ≤ 1 ∨ 10 ≤ k ∧ k ≤ 26) → F1 k = U.1 k := fun k hk => by
    rw [x1 k (by omega), upd_ne (by omega), upd_ne (by omega), upd_ne (by omega), upd_ne (by omega), upd_ne (by omega), upd_ne (by omega), upd_ne (by omega), upd_ne (by omega), upd_ne (by omega)]
  -- the reference
  obtain ⟨F2, r1, r2, r3⟩ := m_next ht (T := V.2.2) (Nat.zero_le _) (F := upd (upd (upd (upd (upd V.1 1 0) 5 (-9)) 6 0) 7 0) 8 10) (A := zst (zst (zst (zst (zst V.2.1 2 1 0) 4 1 0) 8 1 0) 13 1 8) 14 1 15) (by
    rw [upd_ne (by decide), upd_ne (by decide), upd_ne (by decide), upd_ne (by decide), upd_ne (by decide), zst_ne (by decide), zst_ne (by decide), zst_ne (by decide), zst_ne (by decide), zst_ne (by decide)]; exact mt) (by rw [upd_ne (by decide), upd_ne (by decide), upd_ne (by decide), upd_ne (by decide), upd_same]; rfl)
  have lh0 : LH V.2.1 (zst (zst (zst (zst (zst V.2.1 2 1 0) 4 1 0) 8 1 0) 13 1 8) 14 1 15) := ((((LH.z V.2.1 0 (by omega)).trans (LH.z _ 0 (by omega))).trans (LH.z _ 0 (by omega))).trans (LH.z _ 8 (by omega))).trans (LH.z _ 15 (by omega))
  have E0 : DM st0 F2 (zst (zst (zst (zst (zst V.2.1 2 1 0) 4 1 0) 8 1 0) 13 1 8) 14 1 15) := by
    refine ⟨⟨⟨?_, ?_, ?_, ?_, ?_⟩, ?_, ?_, ?_, ?_⟩, ?_, ?_, ?_⟩
    · rw [zst_ne (by decide), zst_ne (by decide), zst_ne (by decide), zst_ne (by decide), zst_same, upd_same]; rfl
    · rw [zst_ne (by decide), zst_ne (by decide), zst_ne (by decide), zst_same, upd_same]; rfl
    · rw [zst_ne (by decide), zst_ne (by decide), zst_same, upd_same]; rfl
    · rw [zst_ne (by decide), zst_same, upd_same]; rfl
    · rw [zst_same, upd_same]; rfl
    · exact fun s h => absurd h (Nat.not_lt_zero s)
    · exact fun s h => absurd h (Nat.not_lt_zero s)
    · exact fun s h => absurd h (Nat.not_lt_zero s)
    · exact fun s h => absurd h (Nat.not_lt_zero s)
    · rw [r2 8 (by decide) (by decide) (by decide) (by decide), upd_same]; rfl
    · rw [r2 6 (by decide) (by decide) (by decide) (by decide), upd_ne (by decide), upd_ne (by decide), upd_same]; rfl
    · rw [r2 7 (by decide) (by decide) (by decide) (by decide), upd_ne (by decide), upd_same]; rfl
  obtain ⟨F3, A3, m1, m2, m3, m4⟩ := m_run ht (T := V.2.2) (a.2.2.2.2.1.length + 1) 0 st0 0 1000 F2 (zst (zst (zst (zst (zst V.2.1 2 1 0) 4 1 0) 8 1 0) 13 1 8) 14 1 15) [] (by omega) (by omega) (by omega) st0_ok (by
    rw [r2 0 (by decide) (by decide) (by decide) (by decide), upd_ne (by decide), upd_ne (by decide), upd_ne (by decide), upd_ne (by decide), upd_ne (by decide), zst_ne (by decide), zst_ne (by decide), zst_ne (by decide), zst_ne (by decide), zst_ne (by decide)]; exact mt) ⟨by rw [r2 5 (by decide) (by decide) (by decide) (by decide), upd_ne (by decide), upd_ne (by decide), upd_ne (by decide), upd_same], r3, Nat.zero_le _⟩ E0
  have fm' : ∀ k, (k = 0 ∨ k = 10) → F3 k = V.1 k := fun k hk => by
    rw [m2 k (by omega), r2 k (by omega) (by omega) (by omega) (by omega), upd_ne (by omega), upd_ne (by omega), upd_ne (by omega), upd_ne (by omega), upd_ne (by omega)]
  have lh3 := lh0.trans m1
  unfold f_X10_court f_X11_court f_X7_readInto f_X1_beginAnew_11
  rw [cl1, r1, Option.bind_some, Option.bind_some]
  dsimp only
  cases hr : run a.2.2.2.2.1 (a.2.2.2.2.1.length + 1) 0 st0 0 with
  | inl q =>
    obtain ⟨y1, y2⟩ := x3 q hr
    have y3 := m3 q hr
    have y1 : f_X7_readInto_21 1000 (0 : Int32) (upd (upd (upd (upd (upd (upd (upd (upd (upd U.1 28 0) 29 0) 30 0) 31 8) 32 15) 33 10) 2 0) 6 0) 7 0) U.2.1 U.2.2 = _ := y1
    have y3 : f_X11_court_70 1000 (0 : Int32) F2 (zst (zst (zst (zst (zst V.2.1 2 1 0) 4 1 0) 8 1 0) 13 1 8) 14 1 15) V.2.2 = _ := y3
    rw [y1, y3, Option.bind_some, if_neg (neg_q y2)]
    refine ⟨_, _, rfl, rfl, rfl, a, hok, hx.sc fx (fun k hk => x2 k (by omega)), ?_⟩
    obtain ⟨h1, h2, ⟨h3, h4⟩, h5, h6, h7⟩ := hm
    refine ⟨lh3.tm hok.1 h1, ?_, ⟨?_, ?_⟩, ?_, ?_, h7⟩
    · dsimp only; rw [lh3.1 15 (by omega)]; exact h2
    · dsimp only; rw [lh3.1 15 (by omega), lh3.1 16 (by omega)]; exact h3
    · dsimp only; rw [lh3.1 15 (by omega), lh3.1 16 (by omega)]; exact h4
    · dsimp only; rw [fm' 10 (by omega), lh3.1 19 (by omega), lh3.1 20 (by omega)]; exact h5
    · dsimp only; rw [fm' 0 (by omega), lh3.1 1 (by omega)]; exact h6
  | inr t =>
    obtain ⟨i', st'⟩ := t
    obtain ⟨y1, y2, y4, y5⟩ := x4 i' st' hr
    obtain ⟨w1, w2, w3, w4⟩ := m4 i' st' hr
    have y1 : f_X7_readInto_21 1000 (0 : Int32) (upd (upd (upd (upd (upd (upd (upd (upd (upd U.1 28 0) 29 0) 30 0) 31 8) 32 15) 33 10) 2 0) 6 0) 7 0) U.2.1 U.2.2 = _ := y1
    have w1 : f_X11_court_70 1000 (0 : Int32) F2 (zst (zst (zst (zst (zst V.2.1 2 1 0) 4 1 0) 8 1 0) 13 1 8) 14 1 15) V.2.2 = _ := w1
    obtain ⟨F4, A4, n1, n2⟩ := m_new w4 (x1 := nI i') (T := V.2.2) w2 w3
    have c0 : (0 : Int32) ≤ nI i' := nI_pos' (by omega)
    rw [y1, w1, n1, Option.bind_some, if_pos c0]
    unfold f_X6_beginAnew
    rw [Option.bind_some]
    dsimp only
    rw [x_65]
    refine ⟨_, _, rfl, rfl, rfl, newQ st' V.2.2, newQ_ok w4 _, ?_, n2⟩
    have := x_new (T := U.2.2) y2
    rw [eT] at this ⊢
    exact this
