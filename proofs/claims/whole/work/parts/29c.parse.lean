/-! what a text tells -/
abbrev RS : Type := Nat ⊕ (List Nat × Nat)
abbrev PS : Type := ZD × (Bool × Bool) × Nat
def lo (c : Nat) (vs : List Nat) : Nat := if c = 102 ∧ vs.length = 0 then 1 else if c = 97 ∧ vs.length = 3 then vs.getD 2 0 else if c = 116 ∧ vs.length = 1 then vs.getD 0 0 else 0
def hi (c n i : Nat) : Nat := if c = 97 then (if i = 0 then n else if i = 1 then 4 else 24) else if c = 102 then (if i = 0 then 10 else if i = 1 then 11 else 19) else if c = 115 then 21 else if c = 116 then 24 else 61
def okv (c n : Nat) (vs : List Nat) (v : Nat) : Bool := decide (lo c vs ≤ v) && decide (v < hi c n vs.length)
def stp (tx : List Nat) (c n : Nat) : RS → RS
  | .inl q => .inl q
  | .inr (vs, p) => if (tk tx p).1.1 = 2 ∧ okv c n vs (tk tx p).1.2 = true then .inr (vs ++ [(tk tx p).1.2], (tk tx p).2.2) else .inl (tk tx p).2.1
def fnl (tx : List Nat) : RS → RS
  | .inl q => .inl q
  | .inr (vs, p) => if (tk tx p).1.1 = 3 then .inr (vs, (tk tx p).2.2) else .inl (tk tx p).2.1
def itr (tx : List Nat) (c n : Nat) : Nat → RS → RS
  | 0, s => s
  | m + 1, s => itr tx c n m (stp tx c n s)
theorem itr_inl (tx : List Nat) (c n q : Nat) : ∀ m, itr tx c n m (.inl q) = .inl q
  | 0 => rfl
  | m + 1 => itr_inl tx c n q m
def due (c n : Nat) : Nat := if c = 97 then 4 else if c = 102 then 2 + n else if c = 116 then 2 else 1
def may (c : Nat) (st : PS) : Bool := if c = 97 then decide (nA st.1 < 8) else if c = 100 then !st.2.1.2 else if c = 102 then decide (nF st.1 < 8) else if c = 115 then decide (nS st.1 < 6) else if c = 116 then !st.2.1.1 else false
def upn (f : Nat → Nat) (k v : Nat) : Nat → Nat := fun j => if j = k then v else f j
theorem upn_same (f : Nat → Nat) (k v : Nat) : upn f k v k = v := if_pos rfl
theorem upn_ne {f : Nat → Nat} {k j : Nat} (h : j ≠ k) (v : Nat) : upn f k v j = f j := if_neg h
def adS (d : ZD) (v : Nat) : ZD := ((nS d + 1, nF d, nA d, dF d, dT d), upn (gr d) (nS d) v, co d, tr d, mv d, wh d, pl d, fm d, tt d)
def mvN (d : ZD) (vs : List Nat) (s : Nat) : Int := if s < nS d then ((vs.getD (2 + s) 0 : Nat) : Int) - 9 else 0
def adF (d : ZD) (vs : List Nat) : ZD := ((nS d, nF d + 1, nA d, dF d, dT d), gr d, upn (co d) (nF d) (vs.getD 0 0), upn (tr d) (nF d) (vs.getD 1 0), (fun f s => if f = nF d then mvN d vs s else mv d f s), wh d, pl d, fm d, tt d)
def adA (d : ZD) (vs : List Nat) : ZD := ((nS d, nF d, nA d + 1, dF d, dT d), gr d, co d, tr d, mv d, upn (wh d) (nA d) (vs.getD 0 0), upn (pl d) (nA d) (vs.getD 1 0), upn (fm d) (nA d) (vs.getD 2 0), upn (tt d) (nA d) (vs.getD 3 0))
def adT (d : ZD) (vs : List Nat) : ZD := ((nS d, nF d, nA d, vs.getD 0 0, vs.getD 1 0), gr d, co d, tr d, mv d, wh d, pl d, fm d, tt d)
def add (c : Nat) (st : PS) (vs : List Nat) : PS := if c = 97 then (adA st.1 vs, st.2) else if c = 102 then (adF st.1 vs, st.2) else if c = 115 then (adS st.1 (vs.getD 0 0), st.2) else if c = 116 then (adT st.1 vs, (true, st.2.1.2), st.2.2) else (st.1, (st.2.1.1, true), vs.getD 0 0)
def itm (tx : List Nat) (st : PS) (p : Nat) : Nat ⊕ (PS × Nat) := if (tk tx p).1.1 = 1 ∧ may (tk tx p).1.2 st = true then (match fnl tx (itr tx (tk tx p).1.2 (nS st.1) (due (tk tx p).1.2 (nS st.1)) (.inr ([], (tk tx p).2.2))) with
    | .inl q => .inl q
    | .inr (vs, p2) => .inr (add (tk tx p).1.2 st vs, p2)) else .inl (tk tx p).2.1
def run (tx : List Nat) : Nat → Nat → PS → Nat → Nat ⊕ (Nat × PS)
  | 0, _, _, _ => .inl 0
  | m + 1, i, st, p => if (tk tx p).1.1 = 0 then .inr (i, st) else match itm tx st p with
    | .inl q => .inl q
    | .inr (st2, p2) => run tx m (i + 1) st2 p2
/-! values are as asked -/
def vOK (c n : Nat) (vs : List Nat) : Prop := ∀ i, i < vs.length → okv c n (vs.take i) (vs.getD i 0) = true
theorem getD_app {vs : List Nat} {v i : Nat} (h : i < vs.length) : (vs ++ [v]).getD i 0 = vs.getD i 0 := by
  rw [List.getD_eq_getElem?_getD, List.getD_eq_getElem?_getD, List.getElem?_append_left h]
theorem getD_last (vs : List Nat) (v : Nat) : (vs ++ [v]).getD vs.length 0 = v := by
  rw [List.getD_eq_getElem?_getD]; simp
theorem vOK_app {c n : Nat} {vs : List Nat} {v : Nat} (h : vOK c n vs) (hv : okv c n vs v = true) : vOK c n (vs ++ [v]) := by
  intro i hi
  rw [List.length_append, List.length_singleton] at hi
  by_cases q : i < vs.length
  · rw [getD_app q, List.take_append_of_le_length (by omega)]; exact h i q
  · have e : i = vs.length := by omega
    subst e
    rw [getD_last, List.take_left']
    · exact hv
    · rfl
theorem itr_ok {tx : List Nat} {c n : Nat} : ∀ (m : Nat) (vs : List Nat) (p : Nat) (vs' : List Nat) (p' : Nat), itr tx c n m (.inr (vs, p)) = .inr (vs', p') → p ≤ tx.length → vOK c n vs → vOK c n vs' ∧ vs'.length = vs.length + m ∧ p ≤ p' ∧ p' ≤ tx.length := by
  intro m
  induction m with
  | zero => intro vs p vs' p' e hp hv; cases e; exact ⟨hv, rfl, Nat.le_refl _, hp⟩
  | succ m ih =>
    intro vs p vs' p' e hp hv
    have e : itr tx c n m (stp tx c n (.inr (vs, p))) = .inr (vs', p') := e
    obtain ⟨t1, t2, t3, t4, t5, t6⟩ := tk_next hp
    by_cases q : (tk tx p).1.1 = 2 ∧ okv c n vs (tk tx p).1.2 = true
    · have e2 : stp tx c n (.inr (vs, p)) = .inr (vs ++ [(tk tx p).1.2], (tk tx p).2.2) := if_pos q
      rw [e2] at e
      obtain ⟨r1, r2, r3, r4⟩ := ih _ _ _ _ e t3 (vOK_app hv q.2)
      refine ⟨r1, by rw [r2, List.length_append, List.length_singleton]; omega, by omega, r4⟩
    · have e2 : stp tx c n (.inr (vs, p)) = .inl (tk tx p).2.1 := if_neg q
      rw [e2, itr_inl] at e
      cases e
theorem fnl_ok {tx : List Nat} {s : RS} {vs : List Nat} {p : Nat} (h : fnl tx s = .inr (vs, p)) : ∃ p0, s = .inr (vs, p0) ∧ (tk tx p0).1.1 = 3 ∧ p = (tk tx p0).2.2 := by
  cases s with
  | inl q => cases h
  | inr t =>
    obtain ⟨vs0, p0⟩ := t
    have h : (if (tk tx p0).1.1 = 3 then (.inr (vs0, (tk tx p0).2.2) : RS) else .inl (tk tx p0).2.1) = .inr (vs, p) := h
    by_cases q : (tk tx p0).1.1 = 3
    · rw [if_pos q] at h; cases h; exact ⟨p0, rfl, q, rfl⟩
    · rw [if_neg q] at h; cases h
def rowR (tx : List Nat) (st : PS) (p : Nat) : RS := fnl tx (itr tx (tk tx p).1.2 (nS st.1) (due (tk tx p).1.2 (nS st.1)) (.inr ([], (tk tx p).2.2)))
theorem row_ok {tx : List Nat} {st : PS} {p : Nat} (hp : p ≤ tx.length) {vs : List Nat} {p2 : Nat} (h1 : (tk tx p).1.1 = 1) (h : rowR tx st p = .inr (vs, p2)) : vOK (tk tx p).1.2 (nS st.1) vs ∧ vs.length = due (tk tx p).1.2 (nS st.1) ∧ p < p2 ∧ p2 ≤ tx.length := by
  obtain ⟨p0, e1, e2, e3⟩ := fnl_ok h
  obtain ⟨t1, t2, t3, t4, t5, t6⟩ := tk_next hp
  have hv0 : vOK (tk tx p).1.2 (nS st.1) [] := fun i hi => absurd hi (Nat.not_lt_zero i)
  obtain ⟨r1, r2, r3, r4⟩ := itr_ok _ _ _ _ _ e1 t3 hv0
  obtain ⟨u1, u2, u3, u4, u5, u6⟩ := tk_next r4
  have := t4 (Or.inl h1)
  refine ⟨r1, by rw [r2]; simp, by omega, by omega⟩
theorem itm_eq {tx : List Nat} {st : PS} {p : Nat} (h1 : (tk tx p).1.1 = 1) (h2 : may (tk tx p).1.2 st = true) : itm tx st p = match rowR tx st p with
    | .inl q => .inl q
    | .inr (vs, p2) => .inr (add (tk tx p).1.2 st vs, p2) := if_pos ⟨h1, h2⟩
/-! what was told stays in bounds -/
def sOK (st : PS) : Prop := dOK st.1 ∧ st.2.2 ≤ 60
def isC (c : Nat) : Prop := c = 97 ∨ c = 100 ∨ c = 102 ∨ c = 115 ∨ c = 116
theorem may_c {c : Nat} {st : PS} (h : may c st = true) : isC c := by
  unfold may at h
  unfold isC
  by_cases c1 : c = 97
  · exact Or.inl c1
  · rw [if_neg c1] at h
    by_cases c2 : c = 100
    · exact Or.inr (Or.inl c2)
    · rw [if_neg c2] at h
      by_cases c3 : c = 102
      · exact Or.inr (Or.inr (Or.inl c3))
      · rw [if_neg c3] at h
        by_cases c4 : c = 115
        · exact Or.inr (Or.inr (Or.inr (Or.inl c4)))
        · rw [if_neg c4] at h
          by_cases c5 : c = 116
          · exact Or.inr (Or.inr (Or.inr (Or.inr c5)))
          · rw [if_neg c5] at h; cases h
theorem okv_iff {c n : Nat} {vs : List Nat} {v : Nat} : okv c n vs v = true ↔ lo c vs ≤ v ∧ v < hi c n vs.length := by unfold okv; simp
theorem vOK_at {c n : Nat} {vs : List Nat} (h : vOK c n vs) {i : Nat} (hi' : i < vs.length) : lo c (vs.take i) ≤ vs.getD i 0 ∧ vs.getD i 0 < hi c n i := by
  have := okv_iff.mp (h i hi')
  rw [List.length_take, Nat.min_eq_left (by omega)] at this
  exact this
theorem take_getD {vs : List Nat} {i j : Nat} (h : j < i) : (vs.take i).getD j 0 = vs.getD j 0 := by
  rw [List.getD_eq_getElem?_getD, List.getD_eq_getElem?_getD, List.getElem?_take, if_pos h]
theorem add_ok {c : Nat} {st : PS} (h : sOK st) (hm : may c st = true) {vs : List Nat} (hv : vOK c (nS st.1) vs) (hl : vs.length = due c (nS st.1)) : sOK (add c st vs) := by
  obtain ⟨⟨⟨d1, d2, d3, d4, d5⟩, dg, df, dm, da⟩, hd⟩ := h
  rcases may_c hm with rfl | rfl | rfl | rfl | rfl
  · have m1 : nA st.1 < 8 := by simpa [may] using hm
    have l4 : vs.length = 4 := hl
    have v0 : vs.getD 0 0 < nS st.1 := (vOK_at hv (show 0 < vs.length by omega)).2
    have v1 : vs.getD 1 0 < 4 := (vOK_at hv (show 1 < vs.length by omega)).2
    have v2 : vs.getD 2 0 < 24 := (vOK_at hv (show 2 < vs.length by omega)).2
    have v3 : vs.getD 3 0 < 24 := (vOK_at hv (show 3 < vs.length by omega)).2
    have w3 : vs.getD 2 0 ≤ vs.getD 3 0 := by
      have := (vOK_at hv (show 3 < vs.length by omega)).1
      unfold lo at this
      rw [if_neg (by simp), if_pos ⟨rfl, by rw [List.length_take]; omega⟩, take_getD (by omega)] at this
      exact this
    refine ⟨⟨⟨d1, d2, (show nA st.1 + 1 ≤ 8 by omega), d4, d5⟩, dg, df, dm, fun a ha => ?_⟩, hd⟩
    have ha : a < nA st.1 + 1 := ha
    show upn (wh st.1) (nA st.1) (vs.getD 0 0) a < nS st.1 ∧ upn (pl st.1) (nA st.1) (vs.getD 1 0) a ≤ 3 ∧ upn (fm st.1) (nA st.1) (vs.getD 2 0) a ≤ upn (tt st.1) (nA st.1) (vs.getD 3 0) a ∧ upn (tt st.1) (nA st.1) (vs.getD 3 0) a ≤ 23
    by_cases q : a = nA st.1
    · subst q; rw [upn_same, upn_same, upn_same, upn_same]; omega
    · rw [upn_ne q, upn_ne q, upn_ne q, upn_ne q]; exact da a (by omega)
  · have l1 : vs.length = 1 := hl
    have v0 : vs.getD 0 0 < 61 := (vOK_at hv (show 0 < vs.length by omega)).2
    exact ⟨⟨⟨d1, d2, d3, d4, d5⟩, dg, df, dm, da⟩, (show vs.getD 0 0 ≤ 60 by omega)⟩
  · have m1 : nF st.1 < 8 := by simpa [may] using hm
    have l4 : vs.length = 2 + nS st.1 := hl
    have v0 : vs.getD 0 0 < 10 := (vOK_at hv (show 0 < vs.length by omega)).2
    have w0 : 1 ≤ vs.getD 0 0 := by
      have := (vOK_at hv (show 0 < vs.length by omega)).1
      exact this
    have v1 : vs.getD 1 0 < 11 := (vOK_at hv (show 1 < vs.length by omega)).2
    have vk : ∀ s, s < nS st.1 → vs.getD (2 + s) 0 < 19 := fun s hs => by
      have := (vOK_at hv (show 2 + s < vs.length by omega)).2
      unfold hi at this
      rw [if_neg (by decide), if_pos rfl, if_neg (by omega), if_neg (by omega)] at this
      exact this
    refine ⟨⟨⟨d1, (show nF st.1 + 1 ≤ 8 by omega), d3, d4, d5⟩, dg, fun f hf => ?_, fun f hf s hs => ?_, da⟩, hd⟩
    · have hf : f < nF st.1 + 1 := hf
      show (1 ≤ upn (co st.1) (nF st.1) (vs.getD 0 0) f ∧ upn (co st.1) (nF st.1) (vs.getD 0 0) f ≤ 9) ∧ upn (tr st.1) (nF st.1) (vs.getD 1 0) f ≤ 10
      by_cases q : f = nF st.1
      · subst q; rw [upn_same, upn_same]; omega
      · rw [upn_ne q, upn_ne q]; exact df f (by omega)
    · have hf : f < nF st.1 + 1 := hf
      show -9 ≤ (if f = nF st.1 then mvN st.1 vs s else mv st.1 f s) ∧ (if f = nF st.1 then mvN st.1 vs s else mv st.1 f s) ≤ 9
      by_cases q : f = nF st.1
      · rw [if_pos q]
        unfold mvN
        by_cases w : s < nS st.1
        · rw [if_pos w]
          have := vk s w
          omega
        · rw [if_neg w]; decide
      · rw [if_neg q]; exact dm f (by omega) s hs
  · have m1 : nS st.1 < 6 := by simpa [may] using hm
    have l1 : vs.length = 1 := hl
    have v0 : vs.getD 0 0 < 21 := (vOK_at hv (show 0 < vs.length by omega)).2
    refine ⟨⟨⟨(show nS st.1 + 1 ≤ 6 by omega), d2, d3, d4, d5⟩, fun s hs => ?_, df, dm, fun a ha => ?_⟩, hd⟩
    · have hs : s < nS st.1 + 1 := hs
      show upn (gr st.1) (nS st.1) (vs.getD 0 0) s ≤ 20
      by_cases q : s = nS st.1
      · subst q; rw [upn_same]; omega
      · rw [upn_ne q]; exact dg s (by omega)
    · have := da a ha
      exact ⟨(show wh st.1 a < nS st.1 + 1 by omega), this.2⟩
  · have l2 : vs.length = 2 := hl
    have v1 : vs.getD 1 0 < 24 := (vOK_at hv (show 1 < vs.length by omega)).2
    have w1 : vs.getD 0 0 ≤ vs.getD 1 0 := by
      have := (vOK_at hv (show 1 < vs.length by omega)).1
      unfold lo at this
      rw [if_neg (by simp), if_neg (by simp), if_pos ⟨rfl, by rw [List.length_take]; omega⟩, take_getD (by omega)] at this
      exact this
    exact ⟨⟨⟨d1, d2, d3, w1, (show vs.getD 1 0 ≤ 23 by omega)⟩, dg, df, dm, da⟩, hd⟩
/-! bounds as ints -/
theorem wi_ok {v l h : Nat} (hv : v < 256) (hl : l < 256) (hh : h < 256) : f_X10_within (nI v) (nI l) (nI h - 1) = if (decide (l ≤ v) && decide (v < h)) = true then 1 else 0 := by
  rw [wi_eq]
  have e : (nI h - 1).toInt = (h : Int) - 1 := pk_sub_toInt (a := h) (b := 1) (by omega) (by decide)
  have e2 : nI v ≤ nI h - 1 ↔ v < h := by rw [fa_le, e, nI_toInt (by omega)]; omega
  by_cases q : l ≤ v ∧ v < h
  · rw [if_pos ⟨nI_le q.1 (by omega), e2.mpr q.2⟩, if_pos (by simp [q])]
  · rw [if_neg, if_neg (by simpa using q)]
    rintro ⟨a, b⟩
    exact q ⟨(nI_leI (by omega) (by omega)).mp a, e2.mp b⟩
