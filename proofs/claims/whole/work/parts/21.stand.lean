/-! where the court stands: known, undone, kept, brought back -/
def pushH (l : List (Nat × Nat × Nat)) (t : Nat × Nat × Nat) : List (Nat × Nat × Nat) := (if l.length = 10 then l.drop 1 else l) ++ [t]
theorem pushH_len {l : List (Nat × Nat × Nat)} (h : l.length ≤ 10) (t : Nat × Nat × Nat) : (pushH l t).length ≤ 10 ∧ (pushH l t).length = (if l.length = 10 then 9 else l.length) + 1 := by
  unfold pushH
  by_cases c : l.length = 10
  · simp [c]
  · simp [c]; omega
theorem pushH_ok {d : ZD} {g : ZG} (h : gOK d g) : gOK d (g.1, pushH g.2 g.1) := by
  refine ⟨h.1, (pushH_len h.2.1 _).1, fun t ht => ?_⟩
  unfold pushH at ht
  rcases List.mem_append.mp ht with q | q
  · by_cases c : g.2.length = 10
    · rw [if_pos c] at q; exact h.2.2 t (List.mem_of_mem_drop q)
    · rw [if_neg c] at q; exact h.2.2 t q
  · rw [List.mem_singleton.mp q]; exact h.1
theorem pushH_at {l : List (Nat × Nat × Nat)} {t u : Nat × Nat × Nat} {i : Nat} (h : (pushH l t)[i]? = some u) : (i = (if l.length = 10 then 9 else l.length) ∧ u = t) ∨ (i < (if l.length = 10 then 9 else l.length) ∧ l[if l.length = 10 then i + 1 else i]? = some u) := by
  unfold pushH at h
  by_cases c : l.length = 10
  · rw [if_pos c] at h ⊢
    rw [if_pos c]
    rcases l_app h with q | ⟨q, rfl⟩
    · right
      have := l_lt q
      simp at this
      refine ⟨by omega, ?_⟩
      rw [List.getElem?_drop] at q
      rw [Nat.add_comm]; exact q
    · left; simp at q; exact ⟨by omega, rfl⟩
  · rw [if_neg c] at h ⊢
    rw [if_neg c]
    rcases l_app h with q | ⟨q, rfl⟩
    · right; exact ⟨l_lt q, q⟩
    · left; exact ⟨q, rfl⟩
theorem pk3_eq {t : Nat × Nat × Nat} (h1 : t.1 < 256) (h2 : t.2.1 < 256) (h3 : t.2.2 ≤ 60) : ((nI t.2.2 <<< ((16 : Int32) &&& 31)) ||| (nI t.2.1 <<< ((8 : Int32) &&& 31))) ||| nI t.1 = nI (pk3 t) := by
  rw [pk_shlN (n := t.2.2) ((16 : Int32) &&& 31) 16 (by decide) (by omega), pk_shlN (n := t.2.1) ((8 : Int32) &&& 31) 8 (by decide) (by omega), fa_or, fa_or]
  congr 1
  unfold pk3
  have e1 : t.2.2 * 2 ^ 16 ||| t.2.1 * 2 ^ 8 = 2 ^ 8 * (t.2.2 * 256 + t.2.1) := by
    have := Nat.two_pow_add_eq_or_of_lt (i := 16) (b := t.2.1 * 2 ^ 8) (by omega) t.2.2
    rw [Nat.mul_comm t.2.2, ← this]
    omega
  rw [e1, ← Nat.two_pow_add_eq_or_of_lt (i := 8) (b := t.1) (by omega)]
  omega
theorem pk3_un {t : Nat × Nat × Nat} (h1 : t.1 < 256) (h2 : t.2.1 < 256) (h3 : t.2.2 ≤ 60) : nI (pk3 t) &&& (255 : Int32) = nI t.1 ∧ (nI (pk3 t) >>> ((8 : Int32) &&& 31)) &&& (255 : Int32) = nI t.2.1 ∧ nI (pk3 t) >>> ((16 : Int32) &&& 31) = nI t.2.2 := by
  have hb : pk3 t < 2 ^ 31 := by unfold pk3; omega
  rw [pk_shrN hb ((8 : Int32) &&& 31) 8 (by decide), pk_shrN hb ((16 : Int32) &&& 31) 16 (by decide), show (255 : Int32) = nI (2 ^ 8 - 1) from rfl, fa_mask, fa_mask]
  unfold pk3
  refine ⟨?_, ?_, ?_⟩ <;> (congr 1; omega)
theorem t256 {d : ZD} (hd0 : dOK d) {t : Nat × Nat × Nat} (h : tOK d t) : t.1 < 256 ∧ t.2.1 < 256 ∧ t.2.2 ≤ 60 := ⟨p2_le h.1 hd0.1.2.1, p2_le h.2.1 hd0.1.2.2.1, h.2.2⟩
theorem x_rem {d : ZD} (hd0 : dOK d) {g : ZG} (hg : gOK d g) {F : ZF} {A : ZA} {T : Int64} (hx : GX g (F 10) (F 11) (F 12) (F 13) (A 18)) : ∃ F' A', f_X6_remember F A T = some (F', A', T) ∧ (∀ k, k ≠ 13 → F' k = F k) ∧ (∀ k, k ≠ 18 → A' k = A k) ∧ F' 13 = nI (pushH g.2 g.1).length ∧ ∀ i t, (pushH g.2 g.1)[i]? = some t → A' 18 i = nI (pk3 t) := by
  obtain ⟨h0, h1, h2, h3, h4⟩ := hx
  have hl := hg.2.1
  obtain ⟨b1, b2, b3⟩ := t256 hd0 hg.1
  have ep := pk3_eq b1 b2 b3
  have el := (pushH_len hl g.1).2
  unfold f_X6_remember
  by_cases c : g.2.length = 10
  · have c1 : ¬ F 13 < (10 : Int32) := by rw [h3, c]; decide
    rw [if_neg c1]
    unfold f_X6_remember_30
    have g9 : gok (upd F 13 (9 : Int32) 13) 10 = true := by rw [upd_same]; decide
    rw [if_pos g9, upd_same, upd_ne (show (12 : Nat) ≠ 13 by decide), upd_ne (show (11 : Nat) ≠ 13 by decide), upd_ne (show (10 : Nat) ≠ 13 by decide), h0, h1, h2, ep]
    refine ⟨_, _, rfl, fun k hk => by rw [upd_ne hk, upd_ne hk], fun k hk => by rw [zst_ne hk, zrw_ne hk], ?_, fun i t ht => ?_⟩
    · rw [upd_same, el, if_pos c]; rfl
    · rw [zst_same, zrw_same, show ((9 : Int32)).toNatClampNeg = 9 from by decide, cl0, cl1]
      rcases pushH_at ht with ⟨q1, q2⟩ | ⟨q1, q2⟩
      · rw [if_pos c] at q1
        rw [q1, upd_same, q2]
      · rw [if_pos c] at q1 q2
        rw [upd_ne (by omega), pk_cpy_in (Nat.zero_le _) (by omega), Nat.sub_zero, Nat.add_comm 1 i]
        exact h4 _ _ q2
  · have c1 : F 13 < (10 : Int32) := by rw [h3]; exact nI_lt (b := 10) (by omega) (by omega)
    rw [if_pos c1]
    unfold f_X6_remember_30
    have g9 : gok (F 13) 10 = true := by rw [h3]; exact gok_nI (by omega) (by decide)
    rw [if_pos g9, h0, h1, h2, ep, h3]
    refine ⟨_, _, rfl, fun k hk => upd_ne hk _, fun k hk => zst_ne hk _ _, ?_, fun i t ht => ?_⟩
    · rw [upd_same, el, if_neg c, nI_1]
    · rw [zst_same, nI_clamp (by omega)]
      rcases pushH_at ht with ⟨q1, q2⟩ | ⟨q1, q2⟩
      · rw [if_neg c] at q1
        rw [q1, upd_same, q2]
      · rw [if_neg c] at q1 q2
        rw [upd_ne (by omega)]
        exact h4 _ _ q2
/-- the reference's three numbers go to their place -/
theorem m_k54 {F : ZF} {A : ZA} {T : Int64} {k : Nat} (hk : k < 10) (h3 : A 15 3 = nI k) : ∃ A', f_X11_know_54 1000 0 F A T = some (F, A', T) ∧ (∀ j, j ≠ 15 → A' j = A j) ∧ ∀ j, A' 15 j = if j = 3 then nI (k + 1) else if j = 4 + 3 * k then A 15 0 else if j = 5 + 3 * k then A 15 1 else if j = 6 + 3 * k then A 15 2 else A 15 j := by
  have ix : ∀ i : Nat, (4 : Int32) + (3 : Int32) * nI k + nI i = nI (4 + 3 * k + i) := fun i => by
    rw [show (3 : Int32) = nI 3 from rfl, show (4 : Int32) = nI 4 from rfl, pk_mul, nI_add, nI_add]
  have gx : ∀ i : Nat, i < 3 → gok (nI (4 + 3 * k + i)) 102 = true := fun i hi => gok_nI (by omega) (by decide)
  have step : ∀ (n i : Nat) (B : ZA), i < 3 → B 15 3 = nI k → f_X11_know_54 (n + 1) (nI i) F B T = f_X11_know_54 n (nI (i + 1)) F (zst B 15 (4 + 3 * k + i) (B 15 i)) T := by
    intro n i B hi hB
    have c : ¬ (3 : Int32) ≤ nI i := nI_ge (a := i) (b := 3) (by omega) (by omega)
    rw [f_X11_know_54_s, if_neg c, if_pos (gok_nI (by omega) (by decide)), cl3, hB, ix i, if_pos (gx i hi), nI_1, nI_clamp (by omega), nI_clamp (by omega)]
  have s0 := step 999 0 A (by omega) h3
  have s1 := step 998 1 (zst A 15 (4 + 3 * k + 0) (A 15 0)) (by omega) (by rw [zst_same, upd_ne (by omega)]; exact h3)
  have s2 := step 997 2 (zst (zst A 15 (4 + 3 * k + 0) (A 15 0)) 15 (4 + 3 * k + 1) (zst A 15 (4 + 3 * k + 0) (A 15 0) 15 1)) (by omega) (by rw [zst_same, upd_ne (by omega), zst_same, upd_ne (by omega)]; exact h3)
  rw [nI_0] at s0
  rw [show (1000 : Nat) = 999 + 1 from rfl, s0, show (999 : Nat) = 998 + 1 from rfl, s1, show (998 : Nat) = 997 + 1 from rfl, s2, show (997 : Nat) = 996 + 1 from rfl, f_X11_know_54_s, if_pos (show (3 : Int32) ≤ nI (2 + 1) by decide)]
  refine ⟨_, rfl, fun j hj => by rw [zst_ne hj, zst_ne hj, zst_ne hj, zst_ne hj], fun j => ?_⟩
  simp only [zst_same, cl3]
  by_cases q3 : j = 3
  · subst q3
    rw [upd_same, if_pos rfl, upd_ne (by omega), upd_ne (by omega), upd_ne (by omega), h3, nI_1]
  · rw [upd_ne q3, if_neg q3]
    by_cases q4 : j = 4 + 3 * k
    · subst q4
      rw [if_pos rfl, upd_ne (by omega), upd_ne (by omega), Nat.add_zero, upd_same]
    · rw [if_neg q4]
      by_cases q5 : j = 5 + 3 * k
      · rw [if_pos q5, upd_ne (by omega), show j = 4 + 3 * k + 1 by omega, upd_same, upd_ne (by omega)]
      · rw [if_neg q5]
        by_cases q6 : j = 6 + 3 * k
        · rw [if_pos q6, show j = 4 + 3 * k + 2 by omega, upd_same, upd_ne (by omega), upd_ne (by omega)]
        · rw [if_neg q6, upd_ne (by omega), upd_ne (by omega), upd_ne (by omega)]
theorem m_k13 {F : ZF} {T : Int64} : ∀ (m k n : Nat) (A : ZA), k + m = 27 → m < n → f_X11_know_13 n (nI k) F A T = f_X11_know_54 1000 0 F (zst (zrw A 15 (fun j => if 4 + k ≤ j ∧ j < 31 then A 15 (j + 3) else A 15 j)) 15 3 (zrw A 15 (fun j => if 4 + k ≤ j ∧ j < 31 then A 15 (j + 3) else A 15 j) 15 3 - 1)) T := by
  intro m
  induction m with
  | zero =>
    intro k n A hk hn
    obtain ⟨n, rfl⟩ : ∃ n', n = n' + 1 := ⟨n - 1, by omega⟩
    have e : k = 27 := by omega
    subst e
    rw [f_X11_know_13_s, if_pos (show (27 : Int32) ≤ nI 27 by decide), cl3]
    have e2 : zrw A 15 (fun j => if 4 + 27 ≤ j ∧ j < 31 then A 15 (j + 3) else A 15 j) = A := by
      funext x
      by_cases q : x = 15
      · subst q
        rw [zrw_same]
        funext j
        rw [if_neg (by omega)]
      · rw [zrw_ne q]
    rw [e2]
  | succ m ih =>
    intro k n A hk hn
    obtain ⟨n, rfl⟩ : ∃ n', n = n' + 1 := ⟨n - 1, by omega⟩
    have i7 : (7 : Int32) + nI k = nI (7 + k) := by rw [show (7 : Int32) = nI 7 from rfl, nI_add]
    have i4 : (4 : Int32) + nI k = nI (4 + k) := by rw [show (4 : Int32) = nI 4 from rfl, nI_add]
    have c : ¬ (27 : Int32) ≤ nI k := nI_ge (a := k) (b := 27) (by omega) (by omega)
    rw [f_X11_know_13_s, if_neg c, i7, i4, if_pos (gok_nI (by omega) (by decide)), if_pos (gok_nI (by omega) (by decide)), nI_1, nI_clamp (by omega), nI_clamp (by omega), ih (k + 1) n _ (by omega) (by omega)]
    have e2 : zrw (zst A 15 (4 + k) (A 15 (7 + k))) 15 (fun j => if 4 + (k + 1) ≤ j ∧ j < 31 then zst A 15 (4 + k) (A 15 (7 + k)) 15 (j + 3) else zst A 15 (4 + k) (A 15 (7 + k)) 15 j) = zrw A 15 (fun j => if 4 + k ≤ j ∧ j < 31 then A 15 (j + 3) else A 15 j) := by
      funext x
      by_cases q : x = 15
      · subst q
        rw [zrw_same, zrw_same, zst_same]
        funext j
        by_cases c : 4 + (k + 1) ≤ j ∧ j < 31
        · rw [if_pos c, if_pos (by omega), upd_ne (by omega)]
        · rw [if_neg c]
          by_cases c2 : j = 4 + k
          · subst c2
            rw [upd_same, if_pos (by omega)]
            congr 1; omega
          · rw [upd_ne c2, if_neg (by omega)]
      · rw [zrw_ne q, zrw_ne q, zst_ne q]
    rw [e2]
theorem m_know {d : ZD} {g : ZG} (hg : gOK d g) {F : ZF} {A : ZA} {T : Int64} (hm : GM g (A 15) 0) : ∃ A', f_X11_know F A T = some (F, A', T) ∧ (∀ k, k ≠ 15 → A' k = A k) ∧ (∀ j, 34 ≤ j → A' 15 j = A 15 j) ∧ GM (g.1, pushH g.2 g.1) (A' 15) 0 := by
  obtain ⟨h0, h1, h2, h3, h4⟩ := hm
  simp only [Nat.zero_add] at h0 h1 h2 h3 h4
  have hl := hg.2.1
  have el := (pushH_len hl g.1).2
  unfold f_X11_know
  rw [cl3, h3]
  by_cases c : g.2.length = 10
  · rw [c, if_pos (show nI 10 = (10 : Int32) from rfl)]
    have k13 := m_k13 (F := F) (T := T) 27 0 1000 A (by omega) (by omega)
    rw [nI_0] at k13
    rw [k13]
    have b3 : zst (zrw A 15 (fun j => if 4 + 0 ≤ j ∧ j < 31 then A 15 (j + 3) else A 15 j)) 15 3 (zrw A 15 (fun j => if 4 + 0 ≤ j ∧ j < 31 then A 15 (j + 3) else A 15 j) 15 3 - 1) 15 3 = nI 9 := by
      rw [zst_same, upd_same, zrw_same, if_neg (by omega), h3, c]; rfl
    obtain ⟨A', e1, e2, e3⟩ := m_k54 (F := F) (T := T) (show 9 < 10 by decide) b3
    refine ⟨A', e1, fun k hk => by rw [e2 k hk, zst_ne hk, zrw_ne hk], fun j hj => ?_, ?_, ?_, ?_, ?_, fun i t ht => ?_⟩
    · rw [e3, if_neg (by omega), if_neg (by omega), if_neg (by omega), if_neg (by omega), zst_same, upd_ne (by omega), zrw_same, if_neg (by omega)]
    · rw [e3, if_neg (by omega), if_neg (by omega), if_neg (by omega), if_neg (by omega), zst_same, upd_ne (by omega), zrw_same, if_neg (by omega)]; exact h0
    · rw [e3, if_neg (by omega), if_neg (by omega), if_neg (by omega), if_neg (by omega), zst_same, upd_ne (by omega), zrw_same, if_neg (by omega)]; exact h1
    · rw [e3, if_neg (by omega), if_neg (by omega), if_neg (by omega), if_neg (by omega), zst_same, upd_ne (by omega), zrw_same, if_neg (by omega)]; exact h2
    · rw [e3, if_pos (by omega)]
      show nI (9 + 1) = nI (pushH g.2 g.1).length
      rw [el, if_pos c]
    · have zz : ∀ j, j ≠ 3 → zst (zrw A 15 (fun j => if 4 + 0 ≤ j ∧ j < 31 then A 15 (j + 3) else A 15 j)) 15 3 (zrw A 15 (fun j => if 4 + 0 ≤ j ∧ j < 31 then A 15 (j + 3) else A 15 j) 15 3 - 1) 15 j = if 4 + 0 ≤ j ∧ j < 31 then A 15 (j + 3) else A 15 j := fun j hj => by rw [zst_same, upd_ne hj, zrw_same]
      rcases pushH_at ht with ⟨q1, q2⟩ | ⟨q1, q2⟩
      · rw [if_pos c] at q1
        subst q1
        subst q2
        refine ⟨?_, ?_, ?_⟩
        · rw [e3, if_neg (by omega), if_pos (by omega), zz 0 (by omega), if_neg (by omega)]; exact h0
        · rw [e3, if_neg (by omega), if_neg (by omega), if_pos (by omega), zz 1 (by omega), if_neg (by omega)]; exact h1
        · rw [e3, if_neg (by omega), if_neg (by omega), if_neg (by omega), if_pos (by omega), zz 2 (by omega), if_neg (by omega)]; exact h2
      · rw [if_pos c] at q1 q2
        obtain ⟨u1, u2, u3⟩ := h4 _ _ q2
        refine ⟨?_, ?_, ?_⟩
        · rw [e3, if_neg (by omega), if_neg (by omega), if_neg (by omega), if_neg (by omega), zz _ (by omega), if_pos (by omega), ← u1]; congr 1
        · rw [e3, if_neg (by omega), if_neg (by omega), if_neg (by omega), if_neg (by omega), zz _ (by omega), if_pos (by omega), ← u2]; congr 1
        · rw [e3, if_neg (by omega), if_neg (by omega), if_neg (by omega), if_neg (by omega), zz _ (by omega), if_pos (by omega), ← u3]; congr 1
  · have c2 : ¬ nI g.2.length = (10 : Int32) := fun q => c ((nI_eq (b := 10) (by omega) (by decide)).mp q)
    rw [if_neg c2]
    obtain ⟨A', e1, e2, e3⟩ := m_k54 (F := F) (T := T) (show g.2.length < 10 by omega) h3
    refine ⟨A', e1, e2, fun j hj => ?_, ?_, ?_, ?_, ?_, fun i t ht => ?_⟩
    · rw [e3, if_neg (by omega), if_neg (by omega), if_neg (by omega), if_neg (by omega)]
    · rw [e3, if_neg (by omega), if_neg (by omega), if_neg (by omega), if_neg (by omega)]; exact h0
    · rw [e3, if_neg (by omega), if_neg (by omega), if_neg (by omega), if_neg (by omega)]; exact h1
    · rw [e3, if_neg (by omega), if_neg (by omega), if_neg (by omega), if_neg (by omega)]; exact h2
    · rw [e3, if_pos (by omega)]
      show nI (g.2.length + 1) = nI (pushH g.2 g.1).length
      rw [el, if_neg c]
    · rcases pushH_at ht with ⟨q1, q2⟩ | ⟨q1, q2⟩
      · rw [if_neg c] at q1
        subst q1
        subst q2
        refine ⟨?_, ?_, ?_⟩
        · rw [e3, if_neg (by omega), if_pos (by omega)]; exact h0
        · rw [e3, if_neg (by omega), if_neg (by omega), if_pos (by omega)]; exact h1
        · rw [e3, if_neg (by omega), if_neg (by omega), if_neg (by omega), if_pos (by omega)]; exact h2
      · rw [if_neg c] at q1 q2
        obtain ⟨u1, u2, u3⟩ := h4 _ _ q2
        refine ⟨?_, ?_, ?_⟩
        · rw [e3, if_neg (by omega), if_neg (by omega), if_neg (by omega), if_neg (by omega), ← u1]
        · rw [e3, if_neg (by omega), if_neg (by omega), if_neg (by omega), if_neg (by omega), ← u2]
        · rw [e3, if_neg (by omega), if_neg (by omega), if_neg (by omega), if_neg (by omega), ← u3]
