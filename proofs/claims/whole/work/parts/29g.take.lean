/-! the reference takes what was told -/
theorem m_t174 {F : ZF} {T : Int64} : ∀ (m k w : Nat) (A : ZA), k + m = 8 → m < w → ∃ A', f_X11_take_174 w (nI k) F A T = some (F, A', T) ∧ (∀ j, ¬ (9 ≤ j ∧ j ≤ 12) → A' j = A j) ∧ ∀ x, 9 ≤ x ∧ x ≤ 12 → ∀ i, A' x i = if k ≤ i ∧ i < 8 then A x (8 + i) else A x i := by
  intro m
  induction m with
  | zero =>
    intro k w A hk hw
    obtain ⟨w, rfl⟩ : ∃ w', w = w' + 1 := ⟨w - 1, by omega⟩
    have e : k = 8 := by omega
    subst e
    rw [f_X11_take_174_s, if_pos (show (8 : Int32) ≤ nI 8 by decide)]
    exact ⟨A, rfl, fun j _ => rfl, fun x _ i => by rw [if_neg (by omega)]⟩
  | succ m ih =>
    intro k w A hk hw
    obtain ⟨w, rfl⟩ : ∃ w', w = w' + 1 := ⟨w - 1, by omega⟩
    have c : ¬ (8 : Int32) ≤ nI k := nI_ge (b := 8) (by omega) (by decide)
    have i8 : (8 : Int32) + nI k = nI (8 + k) := by rw [show (8 : Int32) = nI 8 from rfl, nI_add]
    have g1 : gok (nI (8 + k)) 16 = true := gok_nI (by omega) (by decide)
    have g2 : gok (nI k) 16 = true := gok_nI (by omega) (by decide)
    rw [f_X11_take_174_s, if_neg c, i8, if_pos g1, if_pos g2, if_pos g1, if_pos g2, if_pos g1, if_pos g2, if_pos g1, if_pos g2, nI_clamp (by omega), nI_clamp (by omega), nI_1]
    obtain ⟨A', r1, r2, r3⟩ := ih (k + 1) w (zst (zst (zst (zst A 9 k (A 9 (8 + k))) 10 k ((zst A 9 k (A 9 (8 + k))) 10 (8 + k))) 11 k ((zst (zst A 9 k (A 9 (8 + k))) 10 k ((zst A 9 k (A 9 (8 + k))) 10 (8 + k))) 11 (8 + k))) 12 k ((zst (zst (zst A 9 k (A 9 (8 + k))) 10 k ((zst A 9 k (A 9 (8 + k))) 10 (8 + k))) 11 k ((zst (zst A 9 k (A 9 (8 + k))) 10 k ((zst A 9 k (A 9 (8 + k))) 10 (8 + k))) 11 (8 + k))) 12 (8 + k))) (by omega) (by omega)
    refine ⟨A', r1, fun j hj => by rw [r2 j hj, zst_ne (by omega), zst_ne (by omega), zst_ne (by omega), zst_ne (by omega)], fun x hx i => ?_⟩
    rw [r3 x hx i]
    have key : ∀ i, zst (zst (zst (zst A 9 k (A 9 (8 + k))) 10 k ((zst A 9 k (A 9 (8 + k))) 10 (8 + k))) 11 k ((zst (zst A 9 k (A 9 (8 + k))) 10 k ((zst A 9 k (A 9 (8 + k))) 10 (8 + k))) 11 (8 + k))) 12 k ((zst (zst (zst A 9 k (A 9 (8 + k))) 10 k ((zst A 9 k (A 9 (8 + k))) 10 (8 + k))) 11 k ((zst (zst A 9 k (A 9 (8 + k))) 10 k ((zst A 9 k (A 9 (8 + k))) 10 (8 + k))) 11 (8 + k))) 12 (8 + k)) x i = if i = k then A x (8 + k) else A x i := by
      intro i
      rcases (show x = 9 ∨ x = 10 ∨ x = 11 ∨ x = 12 by omega) with rfl | rfl | rfl | rfl
      · rw [zst_ne (by decide), zst_ne (by decide), zst_ne (by decide), zst_same]
        by_cases q : i = k
        · subst q; rw [upd_same, if_pos rfl]
        · rw [upd_ne q, if_neg q]
      · rw [zst_ne (by decide), zst_ne (by decide), zst_same, zst_ne (by decide)]
        by_cases q : i = k
        · subst q; rw [upd_same, if_pos rfl]
        · rw [upd_ne q, if_neg q]
      · rw [zst_ne (by decide), zst_same, zst_ne (by decide), zst_ne (by decide)]
        by_cases q : i = k
        · subst q; rw [upd_same, if_pos rfl]
        · rw [upd_ne q, if_neg q]
      · rw [zst_same, zst_ne (by decide), zst_ne (by decide), zst_ne (by decide)]
        by_cases q : i = k
        · subst q; rw [upd_same, if_pos rfl]
        · rw [upd_ne q, if_neg q]
    rw [key, key]
    by_cases q : i = k
    · subst q; rw [if_neg (by omega), if_pos rfl, if_pos ⟨Nat.le_refl _, by omega⟩]
    · rw [if_neg q]
      by_cases q2 : k + 1 ≤ i ∧ i < 8
      · rw [if_pos q2, if_neg (by omega), if_pos ⟨by omega, q2.2⟩]
      · rw [if_neg q2, if_neg (by omega)]
theorem m_t129 {F : ZF} {T : Int64} (K : Int32 → ZF → ZA → Int64 → Option ZS) {k : Nat} (hk : k < 8) : ∀ (m s w : Nat) (A : ZA), s + m = 6 → m < w → ∃ A', f_X11_take_129 K w (nI k) (nI s) F A T = K (nI (k + 1)) F A' T ∧ (∀ j, j ≠ 7 → A' j = A j) ∧ ∀ i, A' 7 i = if 6 * k + s ≤ i ∧ i < 6 * k + 6 then A 7 (48 + i) else A 7 i := by
  intro m
  induction m with
  | zero =>
    intro s w A hs hw
    obtain ⟨w, rfl⟩ : ∃ w', w = w' + 1 := ⟨w - 1, by omega⟩
    have e : s = 6 := by omega
    subst e
    rw [f_X11_take_129_s, if_pos (show (6 : Int32) ≤ nI 6 by decide), nI_1]
    exact ⟨A, rfl, fun j _ => rfl, fun i => by rw [if_neg (by omega)]⟩
  | succ m ih =>
    intro s w A hs hw
    obtain ⟨w, rfl⟩ : ∃ w', w = w' + 1 := ⟨w - 1, by omega⟩
    have c : ¬ (6 : Int32) ≤ nI s := nI_ge (b := 6) (by omega) (by decide)
    have i1 : (6 : Int32) * ((8 : Int32) + nI k) + nI s = nI (48 + (6 * k + s)) := by
      rw [show (6 : Int32) = nI 6 from rfl, show (8 : Int32) = nI 8 from rfl, nI_add, pk_mul, nI_add]; congr 1; omega
    have i2 : (6 : Int32) * nI k + nI s = nI (6 * k + s) := by
      rw [show (6 : Int32) = nI 6 from rfl, pk_mul, nI_add]
    rw [f_X11_take_129_s, if_neg c, i1, i2, if_pos (gok_nI (by omega) (by decide)), if_pos (gok_nI (by omega) (by decide)), nI_clamp (by omega), nI_clamp (by omega), nI_1]
    obtain ⟨A', r1, r2, r3⟩ := ih (s + 1) w (zst A 7 (6 * k + s) (A 7 (48 + (6 * k + s)))) (by omega) (by omega)
    refine ⟨A', r1, fun j hj => by rw [r2 j hj, zst_ne hj], fun i => ?_⟩
    rw [r3 i, zst_same]
    by_cases q : i = 6 * k + s
    · subst q; rw [if_neg (by omega), upd_same, if_pos (by omega)]
    · by_cases q2 : 6 * k + (s + 1) ≤ i ∧ i < 6 * k + 6
      · rw [if_pos q2, upd_ne (by omega), if_pos (by omega)]
      · rw [if_neg q2, upd_ne q, if_neg (by omega)]
theorem m_t91 {F : ZF} {T : Int64} : ∀ (m k w : Nat) (A : ZA), k + m = 8 → m < w → ∃ A', f_X11_take_91 w (nI k) F A T = f_X11_take_174 1000 0 F A' T ∧ (∀ j, j ≠ 5 → j ≠ 6 → j ≠ 7 → A' j = A j) ∧ (∀ x, x = 5 ∨ x = 6 → ∀ i, A' x i = if k ≤ i ∧ i < 8 then A x (8 + i) else A x i) ∧ ∀ i, A' 7 i = if 6 * k ≤ i ∧ i < 48 then A 7 (48 + i) else A 7 i := by
  intro m
  induction m with
  | zero =>
    intro k w A hk hw
    obtain ⟨w, rfl⟩ : ∃ w', w = w' + 1 := ⟨w - 1, by omega⟩
    have e : k = 8 := by omega
    subst e
    rw [f_X11_take_91_s, if_pos (show (8 : Int32) ≤ nI 8 by decide)]
    exact ⟨A, rfl, fun j _ _ _ => rfl, fun x _ i => by rw [if_neg (by omega)], fun i => by rw [if_neg (by omega)]⟩
  | succ m ih =>
    intro k w A hk hw
    obtain ⟨w, rfl⟩ : ∃ w', w = w' + 1 := ⟨w - 1, by omega⟩
    have c : ¬ (8 : Int32) ≤ nI k := nI_ge (b := 8) (by omega) (by decide)
    have i8 : (8 : Int32) + nI k = nI (8 + k) := by rw [show (8 : Int32) = nI 8 from rfl, nI_add]
    have g1 : gok (nI (8 + k)) 16 = true := gok_nI (by omega) (by decide)
    have g2 : gok (nI k) 16 = true := gok_nI (by omega) (by decide)
    rw [f_X11_take_91_s, if_neg c, i8, if_pos g1, if_pos g2, if_pos g1, if_pos g2, nI_clamp (by omega), nI_clamp (by omega), zst_ne (show (6 : Nat) ≠ 5 by decide)]
    obtain ⟨A1, q1, q2, q3⟩ := m_t129 (F := F) (T := T) (f_X11_take_91 w) (show k < 8 by omega) 6 0 1000 (zst (zst A 5 k (A 5 (8 + k))) 6 k (A 6 (8 + k))) (by omega) (by omega)
    have q1 : f_X11_take_129 (f_X11_take_91 w) 1000 (nI k) (0 : Int32) F (zst (zst A 5 k (A 5 (8 + k))) 6 k (A 6 (8 + k))) T = _ := q1
    rw [q1]
    obtain ⟨A', r1, r2, r3, r4⟩ := ih (k + 1) w A1 (by omega) (by omega)
    have k5 : ∀ x, x = 5 ∨ x = 6 → ∀ i, A1 x i = if i = k then A x (8 + k) else A x i := by
      intro x hx i
      rw [q2 x (by omega)]
      rcases hx with rfl | rfl
      · rw [zst_ne (by decide), zst_same]
        by_cases q : i = k
        · subst q; rw [upd_same, if_pos rfl]
        · rw [upd_ne q, if_neg q]
      · rw [zst_same, zst_ne (by decide)]
        by_cases q : i = k
        · subst q; rw [upd_same, if_pos rfl]
        · rw [upd_ne q, if_neg q]
    have k7 : ∀ i, A1 7 i = if 6 * k ≤ i ∧ i < 6 * k + 6 then A 7 (48 + i) else A 7 i := by
      intro i
      rw [q3 i, zst_ne (by decide), zst_ne (by decide)]; rfl
    refine ⟨A', r1, fun j a b c => by rw [r2 j a b c, q2 j c, zst_ne b, zst_ne a], fun x hx i => ?_, fun i => ?_⟩
    · rw [r3 x hx i, k5 x hx, k5 x hx]
      by_cases q : i = k
      · subst q; rw [if_neg (by omega), if_pos rfl, if_pos (by omega)]
      · by_cases q2 : k + 1 ≤ i ∧ i < 8
        · rw [if_pos q2, if_neg (by omega), if_pos (by omega)]
        · rw [if_neg q2, if_neg q, if_neg (by omega)]
    · rw [r4 i, k7, k7]
      by_cases q2 : 6 * (k + 1) ≤ i ∧ i < 48
      · rw [if_pos q2, if_neg (by omega), if_pos (by omega)]
      · rw [if_neg q2]
        by_cases q : 6 * k ≤ i ∧ i < 6 * k + 6
        · rw [if_pos q, if_pos (by omega)]
        · rw [if_neg q, if_neg (by omega)]
theorem m_t62 {F : ZF} {T : Int64} : ∀ (m k w : Nat) (A : ZA), k + m = 6 → m < w → ∃ A', f_X11_take_62 w (nI k) F A T = f_X11_take_91 1000 0 F A' T ∧ (∀ j, j ≠ 3 → A' j = A j) ∧ ∀ i, A' 3 i = if k ≤ i ∧ i < 6 then A 3 (6 + i) else A 3 i := by
  intro m
  induction m with
  | zero =>
    intro k w A hk hw
    obtain ⟨w, rfl⟩ : ∃ w', w = w' + 1 := ⟨w - 1, by omega⟩
    have e : k = 6 := by omega
    subst e
    rw [f_X11_take_62_s, if_pos (show (6 : Int32) ≤ nI 6 by decide)]
    exact ⟨A, rfl, fun j _ => rfl, fun i => by rw [if_neg (by omega)]⟩
  | succ m ih =>
    intro k w A hk hw
    obtain ⟨w, rfl⟩ : ∃ w', w = w' + 1 := ⟨w - 1, by omega⟩
    have c : ¬ (6 : Int32) ≤ nI k := nI_ge (b := 6) (by omega) (by decide)
    have i6 : (6 : Int32) + nI k = nI (6 + k) := by rw [show (6 : Int32) = nI 6 from rfl, nI_add]
    rw [f_X11_take_62_s, if_neg c, i6, if_pos (gok_nI (by omega) (by decide)), if_pos (gok_nI (by omega) (by decide)), nI_clamp (by omega), nI_clamp (by omega), nI_1]
    obtain ⟨A', r1, r2, r3⟩ := ih (k + 1) w (zst A 3 k (A 3 (6 + k))) (by omega) (by omega)
    refine ⟨A', r1, fun j hj => by rw [r2 j hj, zst_ne hj], fun i => ?_⟩
    rw [r3 i, zst_same]
    by_cases q : i = k
    · subst q; rw [if_neg (by omega), upd_same, if_pos (by omega)]
    · by_cases q2 : k + 1 ≤ i ∧ i < 6
      · rw [if_pos q2, upd_ne (by omega), if_pos (by omega)]
      · rw [if_neg q2, upd_ne q, if_neg (by omega)]
theorem m_take (F : ZF) (A : ZA) (T : Int64) : ∃ A', f_X11_take F A T = some (F, A', T) ∧ (∀ k, (k = 1 ∨ 15 ≤ k) → A' k = A k) ∧ (A' 2 0 = A 2 1 ∧ A' 4 0 = A 4 1 ∧ A' 8 0 = A 8 1 ∧ A' 13 0 = A 13 1 ∧ A' 14 0 = A 14 1) ∧ (∀ i, i < 6 → A' 3 i = A 3 (6 + i)) ∧ (∀ k, (k = 5 ∨ k = 6 ∨ k = 9 ∨ k = 10 ∨ k = 11 ∨ k = 12) → ∀ i, i < 8 → A' k i = A k (8 + i)) ∧ ∀ i, i < 48 → A' 7 i = A 7 (48 + i) := by
  unfold f_X11_take
  rw [cl0, cl1, zst_ne (show (4 : Nat) ≠ 2 by decide), zst_ne (show (8 : Nat) ≠ 4 by decide), zst_ne (show (8 : Nat) ≠ 2 by decide), zst_ne (show (13 : Nat) ≠ 8 by decide), zst_ne (show (13 : Nat) ≠ 4 by decide), zst_ne (show (13 : Nat) ≠ 2 by decide), zst_ne (show (14 : Nat) ≠ 13 by decide), zst_ne (show (14 : Nat) ≠ 8 by decide), zst_ne (show (14 : Nat) ≠ 4 by decide), zst_ne (show (14 : Nat) ≠ 2 by decide)]
  have z : ∀ B : ZA, B = zst (zst (zst (zst (zst A 2 0 (A 2 1)) 4 0 (A 4 1)) 8 0 (A 8 1)) 13 0 (A 13 1)) 14 0 (A 14 1) → (∀ k, k ≠ 2 → k ≠ 4 → k ≠ 8 → k ≠ 13 → k ≠ 14 → B k = A k) ∧ (B 2 0 = A 2 1 ∧ B 4 0 = A 4 1 ∧ B 8 0 = A 8 1 ∧ B 13 0 = A 13 1 ∧ B 14 0 = A 14 1) := by
    intro B hB
    subst hB
    refine ⟨fun k a b c d e => by rw [zst_ne e, zst_ne d, zst_ne c, zst_ne b, zst_ne a], ?_, ?_, ?_, ?_, ?_⟩
    · rw [zst_ne (by decide), zst_ne (by decide), zst_ne (by decide), zst_ne (by decide), zst_same, upd_same]
    · rw [zst_ne (by decide), zst_ne (by decide), zst_ne (by decide), zst_same, upd_same]
    · rw [zst_ne (by decide), zst_ne (by decide), zst_same, upd_same]
    · rw [zst_ne (by decide), zst_same, upd_same]
    · rw [zst_same, upd_same]
  obtain ⟨zk, z2, z4, z8, z13, z14⟩ := z _ rfl
  generalize zst (zst (zst (zst (zst A 2 0 (A 2 1)) 4 0 (A 4 1)) 8 0 (A 8 1)) 13 0 (A 13 1)) 14 0 (A 14 1) = B at zk z2 z4 z8 z13 z14 ⊢
  obtain ⟨A1, a1, a2, a3⟩ := m_t62 (F := F) (T := T) 6 0 1000 B (by omega) (by omega)
  obtain ⟨A2, b1, b2, b3, b4⟩ := m_t91 (F := F) (T := T) 8 0 1000 A1 (by omega) (by omega)
  obtain ⟨A3, c1, c2, c3⟩ := m_t174 (F := F) (T := T) 8 0 1000 A2 (by omega) (by omega)
  have a1 : f_X11_take_62 1000 (0 : Int32) F B T = _ := a1
  have b1 : f_X11_take_91 1000 (0 : Int32) F A1 T = _ := b1
  have c1 : f_X11_take_174 1000 (0 : Int32) F A2 T = _ := c1
  rw [a1, b1, c1]
  have kk : ∀ k, k ≠ 3 → k ≠ 5 → k ≠ 6 → k ≠ 7 → ¬ (9 ≤ k ∧ k ≤ 12) → A3 k = B k := fun k h3 h5 h6 h7 h9 => by rw [c2 k h9, b2 k h5 h6 h7, a2 k h3]
  refine ⟨A3, rfl, fun k hk => ?_, ⟨?_, ?_, ?_, ?_, ?_⟩, fun i hi => ?_, fun k hk i hi => ?_, fun i hi => ?_⟩
  · rw [kk k (by omega) (by omega) (by omega) (by omega) (by omega), zk k (by omega) (by omega) (by omega) (by omega) (by omega)]
  · rw [kk 2 (by omega) (by omega) (by omega) (by omega) (by omega)]; exact z2
  · rw [kk 4 (by omega) (by omega) (by omega) (by omega) (by omega)]; exact z4
  · rw [kk 8 (by omega) (by omega) (by omega) (by omega) (by omega)]; exact z8
  · rw [kk 13 (by omega) (by omega) (by omega) (by omega) (by omega)]; exact z13
  · rw [kk 14 (by omega) (by omega) (by omega) (by omega) (by omega)]; exact z14
  · rw [c2 3 (by omega), b2 3 (by decide) (by decide) (by decide), a3 i, if_pos (by omega), zk 3 (by decide) (by decide) (by decide) (by decide) (by decide)]
  · by_cases q : k = 5 ∨ k = 6
    · rw [c2 k (by omega), b3 k q, if_pos (by omega), a2 k (by omega), zk k (by omega) (by omega) (by omega) (by omega) (by omega)]
    · rw [c3 k (by omega), if_pos (by omega), b2 k (by omega) (by omega) (by omega), a2 k (by omega), zk k (by omega) (by omega) (by omega) (by omega) (by omega)]
  · rw [c2 7 (by omega), b4 i, if_pos (by omega), a2 7 (by decide), zk 7 (by decide) (by decide) (by decide) (by decide) (by decide)]
theorem m_tmT {d : ZD} (hd0 : dOK d) {A A' : ZA} (h : TM2 d A) (t : (A' 2 0 = A 2 1 ∧ A' 4 0 = A 4 1 ∧ A' 8 0 = A 8 1 ∧ A' 13 0 = A 13 1 ∧ A' 14 0 = A 14 1) ∧ (∀ i, i < 6 → A' 3 i = A 3 (6 + i)) ∧ (∀ k, (k = 5 ∨ k = 6 ∨ k = 9 ∨ k = 10 ∨ k = 11 ∨ k = 12) → ∀ i, i < 8 → A' k i = A k (8 + i)) ∧ ∀ i, i < 48 → A' 7 i = A 7 (48 + i)) : TM d A' := by
  obtain ⟨⟨m1, m2, m3, m4, m5⟩, mg, mf, mm, ma⟩ := h
  obtain ⟨⟨e1, e2, e3, e4, e5⟩, eg, ek, e7⟩ := t
  have d1 := hd0.1.1
  have d2 := hd0.1.2.1
  have d3 := hd0.1.2.2.1
  refine ⟨⟨by rw [e1]; exact m1, by rw [e2]; exact m2, by rw [e3]; exact m3, by rw [e4]; exact m4, by rw [e5]; exact m5⟩, fun s hs => ?_, fun f hf => ?_, fun f hf s hs => ?_, fun a ha => ?_⟩
  · rw [eg s (by omega)]; exact mg s hs
  · rw [ek 5 (by omega) f (by omega), ek 6 (by omega) f (by omega)]; exact mf f hf
  · rw [e7 _ (by omega), ← Nat.add_assoc]; exact mm f hf s hs
  · rw [ek 9 (by omega) a (by omega), ek 10 (by omega) a (by omega), ek 11 (by omega) a (by omega), ek 12 (by omega) a (by omega)]; exact ma a ha
