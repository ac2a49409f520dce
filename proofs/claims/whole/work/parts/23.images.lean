/-! undone, kept, brought back -/
theorem x_b19_3 (F : ZF) (A : ZA) (T : Int64) : ∃ F' A', f_X6_become_19_3 F A T = some (F', A', T) ∧ (F' 14 = F 10 ∧ F' 15 = F 11 ∧ F' 16 = F 12 ∧ F' 17 = F 13) ∧ (∀ k, k ≠ 14 → k ≠ 15 → k ≠ 16 → k ≠ 17 → F' k = F k) ∧ A' 21 = va_cpy (A 18) (A 21) 0 0 10 ∧ ∀ k, k ≠ 21 → A' k = A k := by
  refine ⟨_, _, rfl, ⟨?_, ?_, ?_, ?_⟩, fun k h1 h2 h3 h4 => ?_, ?_, fun k hk => zrw_ne hk _⟩
  · rw [upd_ne (by decide), upd_ne (by decide), upd_ne (by decide), upd_same]
  · rw [upd_ne (by decide), upd_ne (by decide), upd_same, upd_ne (by decide)]
  · rw [upd_ne (by decide), upd_same, upd_ne (by decide), upd_ne (by decide)]
  · rw [upd_same, upd_ne (by decide), upd_ne (by decide), upd_ne (by decide)]
  · rw [upd_ne h4, upd_ne h3, upd_ne h2, upd_ne h1]
  · rw [zrw_same]; rfl
theorem x_b20_3 (F : ZF) (A : ZA) (T : Int64) : ∃ F' A', f_X6_become_20_3 F A T = some (F', A', T) ∧ (F' 18 = F 10 ∧ F' 19 = F 11 ∧ F' 20 = F 12 ∧ F' 21 = F 13) ∧ (∀ k, k ≠ 18 → k ≠ 19 → k ≠ 20 → k ≠ 21 → F' k = F k) ∧ A' 22 = va_cpy (A 18) (A 22) 0 0 10 ∧ ∀ k, k ≠ 22 → A' k = A k := by
  refine ⟨_, _, rfl, ⟨?_, ?_, ?_, ?_⟩, fun k h1 h2 h3 h4 => ?_, ?_, fun k hk => zrw_ne hk _⟩
  · rw [upd_ne (by decide), upd_ne (by decide), upd_ne (by decide), upd_same]
  · rw [upd_ne (by decide), upd_ne (by decide), upd_same, upd_ne (by decide)]
  · rw [upd_ne (by decide), upd_same, upd_ne (by decide), upd_ne (by decide)]
  · rw [upd_same, upd_ne (by decide), upd_ne (by decide), upd_ne (by decide)]
  · rw [upd_ne h4, upd_ne h3, upd_ne h2, upd_ne h1]
  · rw [zrw_same]; rfl
theorem x_b3_19 (F : ZF) (A : ZA) (T : Int64) : ∃ F' A', f_X6_become_3_19 F A T = some (F', A', T) ∧ (F' 10 = F 14 ∧ F' 11 = F 15 ∧ F' 12 = F 16 ∧ F' 13 = F 17) ∧ (∀ k, k ≠ 10 → k ≠ 11 → k ≠ 12 → k ≠ 13 → F' k = F k) ∧ A' 18 = va_cpy (A 21) (A 18) 0 0 10 ∧ ∀ k, k ≠ 18 → A' k = A k := by
  refine ⟨_, _, rfl, ⟨?_, ?_, ?_, ?_⟩, fun k h1 h2 h3 h4 => ?_, ?_, fun k hk => zrw_ne hk _⟩
  · rw [upd_ne (by decide), upd_ne (by decide), upd_ne (by decide), upd_same]
  · rw [upd_ne (by decide), upd_ne (by decide), upd_same, upd_ne (by decide)]
  · rw [upd_ne (by decide), upd_same, upd_ne (by decide), upd_ne (by decide)]
  · rw [upd_same, upd_ne (by decide), upd_ne (by decide), upd_ne (by decide)]
  · rw [upd_ne h4, upd_ne h3, upd_ne h2, upd_ne h1]
  · rw [zrw_same]; rfl
theorem x_b3_20 (F : ZF) (A : ZA) (T : Int64) : ∃ F' A', f_X6_become_3_20 F A T = some (F', A', T) ∧ (F' 10 = F 18 ∧ F' 11 = F 19 ∧ F' 12 = F 20 ∧ F' 13 = F 21) ∧ (∀ k, k ≠ 10 → k ≠ 11 → k ≠ 12 → k ≠ 13 → F' k = F k) ∧ A' 18 = va_cpy (A 22) (A 18) 0 0 10 ∧ ∀ k, k ≠ 18 → A' k = A k := by
  refine ⟨_, _, rfl, ⟨?_, ?_, ?_, ?_⟩, fun k h1 h2 h3 h4 => ?_, ?_, fun k hk => zrw_ne hk _⟩
  · rw [upd_ne (by decide), upd_ne (by decide), upd_ne (by decide), upd_same]
  · rw [upd_ne (by decide), upd_ne (by decide), upd_same, upd_ne (by decide)]
  · rw [upd_ne (by decide), upd_same, upd_ne (by decide), upd_ne (by decide)]
  · rw [upd_same, upd_ne (by decide), upd_ne (by decide), upd_ne (by decide)]
  · rw [upd_ne h4, upd_ne h3, upd_ne h2, upd_ne h1]
  · rw [zrw_same]; rfl
theorem zst_zrw (A : ZA) (k i : Nat) (f : Nat → Int32) (x : Int32) : zst (zrw A k f) k i x = zrw A k (upd f i x) := by
  funext j
  by_cases q : j = k
  · subst q; rw [zst_same, zrw_same, zrw_same]
  · rw [zst_ne q, zrw_ne q, zrw_ne q]
theorem cpy_succ (f g : Nat → Int32) (s t k : Nat) : upd (va_cpy f g s t k) (t + k) (f (s + k)) = va_cpy f g s t (k + 1) := by
  funext j
  by_cases q : j = t + k
  · subst q; rw [upd_same, pk_cpy_in (by omega) (by omega), show t + k - t = k by omega]
  · rw [upd_ne q]
    by_cases c : t ≤ j ∧ j < t + k
    · rw [pk_cpy_in c.1 c.2, pk_cpy_in c.1 (by omega)]
    · rw [pk_cpy_out (by omega), pk_cpy_out (by omega)]
theorem cpy_0 (f g : Nat → Int32) (s t : Nat) : va_cpy f g s t 0 = g := by
  funext j; rw [pk_cpy_out (by omega)]
theorem zrw_self (A : ZA) (k : Nat) : zrw A k (A k) = A := by
  funext j
  by_cases q : j = k
  · subst q; rw [zrw_same]
  · rw [zrw_ne q]
theorem m_cp {F : ZF} {T : Int64} {s t : Nat} (hs : s ≤ 68) (ht : t ≤ 68) (hd : s + 34 ≤ t ∨ t + 34 ≤ s) (A : ZA) : ∀ (m k n : Nat), k + m = 34 → m < n → f_X11_copy_2 n (nI s) (nI t) (nI k) F (zrw A 15 (va_cpy (A 15) (A 15) s t k)) T = some (F, zrw A 15 (va_cpy (A 15) (A 15) s t 34), T) := by
  intro m
  induction m with
  | zero =>
    intro k n hk hn
    obtain ⟨n, rfl⟩ : ∃ n', n = n' + 1 := ⟨n - 1, by omega⟩
    have e : k = 34 := by omega
    subst e
    rw [f_X11_copy_2_s, if_pos (show (34 : Int32) ≤ nI 34 by decide)]
  | succ m ih =>
    intro k n hk hn
    obtain ⟨n, rfl⟩ : ∃ n', n = n' + 1 := ⟨n - 1, by omega⟩
    have c : ¬ (34 : Int32) ≤ nI k := nI_ge (a := k) (b := 34) (by omega) (by omega)
    rw [f_X11_copy_2_s, if_neg c, nI_add, nI_add, if_pos (gok_nI (by omega) (by decide)), if_pos (gok_nI (by omega) (by decide)), nI_1, nI_clamp (by omega), nI_clamp (by omega), zrw_same, pk_cpy_out (by omega), zst_zrw, cpy_succ]
    exact ih (k + 1) n (by omega) (by omega)
theorem m_copy {F : ZF} {T : Int64} {s t : Nat} (hs : s ≤ 68) (ht : t ≤ 68) (hd : s + 34 ≤ t ∨ t + 34 ≤ s) (A : ZA) : f_X11_copy (nI s) (nI t) F A T = some (F, zrw A 15 (va_cpy (A 15) (A 15) s t 34), T) := by
  have := m_cp (F := F) (T := T) hs ht hd A 34 0 1000 (by omega) (by omega)
  rw [cpy_0, zrw_self] at this
  exact this
theorem GM.cp {g : ZG} {n : Nat → Int32} {s t : Nat} (h : GM g n s) (hl : g.2.length ≤ 10) : GM g (va_cpy n n s t 34) t := by
  obtain ⟨h0, h1, h2, h3, h4⟩ := h
  refine ⟨?_, ?_, ?_, ?_, fun i u hu => ?_⟩
  · rw [pk_cpy_in (by omega) (by omega), show s + (t - t) = s by omega]; exact h0
  · rw [pk_cpy_in (by omega) (by omega), show s + (t + 1 - t) = s + 1 by omega]; exact h1
  · rw [pk_cpy_in (by omega) (by omega), show s + (t + 2 - t) = s + 2 by omega]; exact h2
  · rw [pk_cpy_in (by omega) (by omega), show s + (t + 3 - t) = s + 3 by omega]; exact h3
  · have := l_lt hu
    obtain ⟨u1, u2, u3⟩ := h4 i u hu
    refine ⟨?_, ?_, ?_⟩
    · rw [pk_cpy_in (by omega) (by omega), show s + (t + 4 + 3 * i - t) = s + 4 + 3 * i by omega]; exact u1
    · rw [pk_cpy_in (by omega) (by omega), show s + (t + 5 + 3 * i - t) = s + 5 + 3 * i by omega]; exact u2
    · rw [pk_cpy_in (by omega) (by omega), show s + (t + 6 + 3 * i - t) = s + 6 + 3 * i by omega]; exact u3
theorem GM.cpo {g : ZG} {n : Nat → Int32} {s t o : Nat} (h : GM g n o) (hl : g.2.length ≤ 10) (ho : o + 34 ≤ t ∨ t + 34 ≤ o) : GM g (va_cpy n n s t 34) o := by
  obtain ⟨h0, h1, h2, h3, h4⟩ := h
  refine ⟨?_, ?_, ?_, ?_, fun i u hu => ?_⟩
  · rw [pk_cpy_out (by omega)]; exact h0
  · rw [pk_cpy_out (by omega)]; exact h1
  · rw [pk_cpy_out (by omega)]; exact h2
  · rw [pk_cpy_out (by omega)]; exact h3
  · have := l_lt hu
    obtain ⟨u1, u2, u3⟩ := h4 i u hu
    refine ⟨?_, ?_, ?_⟩
    · rw [pk_cpy_out (by omega)]; exact u1
    · rw [pk_cpy_out (by omega)]; exact u2
    · rw [pk_cpy_out (by omega)]; exact u3
theorem JM.cpo {d : ZD} {j : Option ZG} {k : Int32} {n : Nat → Int32} {s t o : Nat} (h : JM j k n o) (hj : jOK d j) (ho : o + 34 ≤ t ∨ t + 34 ≤ o) : JM j k (va_cpy n n s t 34) o := by
  cases j with
  | none => exact h
  | some g => exact ⟨h.1, h.2.cpo (hj g rfl).2.1 ho⟩
theorem GX.cp {g : ZG} {x0 x1 x2 x3 : Int32} {b b' : Nat → Int32} (h : GX g x0 x1 x2 x3 b) (hl : g.2.length ≤ 10) : GX g x0 x1 x2 x3 (va_cpy b b' 0 0 10) := by
  obtain ⟨h0, h1, h2, h3, h4⟩ := h
  refine ⟨h0, h1, h2, h3, fun i u hu => ?_⟩
  have := l_lt hu
  rw [pk_cpy_in (by omega) (by omega), show 0 + (i - 0) = i by omega]; exact h4 i u hu
theorem nar1 : vp_nar .boolean (1 : Int32) = 1 := by decide
theorem p_keep : st_keep Rel := by
  rintro a0 U V ⟨a, hok, hx, hm⟩
  unfold f_X10_keep f_X11_keep
  rw [in_wi]
  have n1 : ¬ (1 : Int32) = 0 := by decide
  rcases two_of a0 (n := 1) (by decide) with ⟨e, -⟩ | ⟨e, c, hc, rfl⟩
  · have e : f_X10_within a0 (0 : Int32) (1 : Int32) = 0 := e
    rw [e, if_pos rfl, if_pos rfl]
    exact ⟨_, _, rfl, rfl, rfl, a, hok, hx, hm⟩
  · have e : f_X10_within (nI c) (0 : Int32) (1 : Int32) = 1 := e
    rw [e, if_neg n1, if_neg n1, nar1]
    have gl := hok.2.1.2.1
    obtain ⟨hx1, hx2, ⟨hx3, hx4⟩, hx5, hx6, hx7⟩ := hx
    obtain ⟨hm1, hm2, ⟨hm3, hm4⟩, hm5, hm6, hm7⟩ := hm
    rcases (show c = 0 ∨ c = 1 by omega) with rfl | rfl
    · have ok2 : aOK (a.1, a.2.1, (some a.2.1, a.2.2.1.2), a.2.2.2) := ⟨hok.1, hok.2.1, ⟨fun g hg => by cases hg; exact hok.2.1, hok.2.2.1.2⟩, hok.2.2.2⟩
      rw [if_pos (show nI 0 = (0 : Int32) from rfl), nI_clamp (by decide)]
      obtain ⟨F1, A1, x1, ⟨y0, y1, y2, y3⟩, y4, y5, y6⟩ := x_b19_3 U.1 U.2.1 U.2.2
      have cp := m_copy (F := V.1) (T := V.2.2) (s := 0) (t := 34) (by omega) (by omega) (by omega) V.2.1
      have cp : f_X11_copy (0 : Int32) ((34 : Int32) * ((1 : Int32) + nI 0)) V.1 V.2.1 V.2.2 = _ := cp
      rw [x1, cp, Option.bind_some, Option.bind_some, if_pos (show gok (nI 0) 2 = true from by decide), if_pos (show gok (nI 0) 2 = true from by decide)]
      dsimp only
      have ix : IX (a.1, a.2.1, (some a.2.1, a.2.2.1.2), a.2.2.2) (F1, zst A1 5 0 1, U.2.2) := by
        refine ⟨hx1.fr (fun k _ _ => y4 k (by omega) (by omega) (by omega) (by omega)) (fun k _ _ => by dsimp only; rw [zst_ne (by omega), y6 k (by omega)]), ?_, ⟨⟨?_, ?_⟩, ?_⟩, ?_, ?_, hx7⟩
        · show GX a.2.1 (F1 10) (F1 11) (F1 12) (F1 13) (zst A1 5 0 1 18)
          rw [zst_ne (by decide), y4 _ (by decide) (by decide) (by decide) (by decide), y4 _ (by decide) (by decide) (by decide) (by decide), y4 _ (by decide) (by decide) (by decide) (by decide), y4 _ (by decide) (by decide) (by decide) (by decide), y6 _ (by decide)]
          exact hx2
        · show zst A1 5 0 1 5 0 = 1
          rw [zst_same, upd_same]
        · show GX a.2.1 (F1 14) (F1 15) (F1 16) (F1 17) (zst A1 5 0 1 21)
          rw [zst_ne (by decide), y0, y1, y2, y3, y5]
          exact hx2.cp gl
        · show JX a.2.2.1.2 (zst A1 5 0 1 5 1) (F1 18) (F1 19) (F1 20) (F1 21) (zst A1 5 0 1 22)
          rw [zst_same, upd_ne (by decide), zst_ne (by decide), y4 _ (by decide) (by decide) (by decide) (by decide), y4 _ (by decide) (by decide) (by decide) (by decide), y4 _ (by decide) (by decide) (by decide) (by decide), y4 _ (by decide) (by decide) (by decide) (by decide), y6 _ (by decide), y6 _ (by decide)]
          exact hx4
        · show LX a.2.2.2.1 (F1 0) (zst A1 5 0 1 8) (zst A1 5 0 1 9)
          rw [zst_ne (by decide), zst_ne (by decide), y4 _ (by decide) (by decide) (by decide) (by decide), y6 _ (by decide), y6 _ (by decide)]
          exact hx5
        · show TXX a.2.2.2.2.1 (F1 1) (zst A1 5 0 1 12)
          rw [zst_ne (by decide), y4 _ (by decide) (by decide) (by decide) (by decide), y6 _ (by decide)]
          exact hx6
      have im : IM (a.1, a.2.1, (some a.2.1, a.2.2.1.2), a.2.2.2) (V.1, zst (zrw V.2.1 15 (va_cpy (V.2.1 15) (V.2.1 15) 0 34 34)) 16 0 1, V.2.2) := by
        refine ⟨hm1.fr (fun k _ _ => by dsimp only; rw [zst_ne (by omega), zrw_ne (by omega)]), ?_, ⟨⟨?_, ?_⟩, ?_⟩, ?_, ?_, hm7⟩
        · dsimp only; rw [zst_ne (by decide), zrw_same]; exact hm2.cpo gl (by omega)
        · dsimp only; rw [zst_same, upd_same]
        · dsimp only; rw [zst_ne (by decide), zrw_same]; exact hm2.cp gl
        · dsimp only; rw [zst_same, upd_ne (by decide), zrw_ne (by decide), zst_ne (by decide), zrw_same]; exact hm4.cpo hok.2.2.1.2 (by omega)
        · dsimp only; rw [zst_ne (by decide), zrw_ne (by decide), zst_ne (by decide), zrw_ne (by decide)]; exact hm5
        · dsimp only; rw [zst_ne (by decide), zrw_ne (by decide)]; exact hm6
      obtain ⟨F3, A3, x3, x4⟩ := cX ok2 ix
      obtain ⟨F4, A4, m3, m4⟩ := cM ok2 im
      dsimp only at x3 m3
      rw [x3, m3, Option.bind_some, Option.bind_some]
      exact ⟨_, _, rfl, rfl, rfl, _, ok2, x4, m4⟩
    · have ok2 : aOK (a.1, a.2.1, (a.2.2.1.1, some a.2.1), a.2.2.2) := ⟨hok.1, hok.2.1, ⟨hok.2.2.1.1, fun g hg => by cases hg; exact hok.2.1⟩, hok.2.2.2⟩
      rw [if_neg (show ¬ nI 1 = (0 : Int32) by decide), if_pos (show nI 1 = (1 : Int32) from rfl), nI_clamp (by decide)]
      obtain ⟨F1, A1, x1, ⟨y0, y1, y2, y3⟩, y4, y5, y6⟩ := x_b20_3 U.1 U.2.1 U.2.2
      have cp := m_copy (F := V.1) (T := V.2.2) (s := 0) (t := 68) (by omega) (by omega) (by omega) V.2.1
      have cp : f_X11_copy (0 : Int32) ((34 : Int32) * ((1 : Int32) + nI 1)) V.1 V.2.1 V.2.2 = _ := cp
      rw [x1, cp, Option.bind_some, Option.bind_some, if_pos (show gok (nI 1) 2 = true from by decide), if_pos (show gok (nI 1) 2 = true from by decide)]
      dsimp only
      have ix : IX (a.1, a.2.1, (a.2.2.1.1, some a.2.1), a.2.2.2) (F1, zst A1 5 1 1, U.2.2) := by
        refine ⟨hx1.fr (fun k _ _ => y4 k (by omega) (by omega) (by omega) (by omega)) (fun k _ _ => by dsimp only; rw [zst_ne (by omega), y6 k (by omega)]), ?_, ⟨?_, ⟨?_, ?_⟩⟩, ?_, ?_, hx7⟩
        · show GX a.2.1 (F1 10) (F1 11) (F1 12) (F1 13) (zst A1 5 1 1 18)
          rw [zst_ne (by decide), y4 _ (by decide) (by decide) (by decide) (by decide), y4 _ (by decide) (by decide) (by decide) (by decide), y4 _ (by decide) (by decide) (by decide) (by decide), y4 _ (by decide) (by decide) (by decide) (by decide), y6 _ (by decide)]
          exact hx2
        · show JX a.2.2.1.1 (zst A1 5 1 1 5 0) (F1 14) (F1 15) (F1 16) (F1 17) (zst A1 5 1 1 21)
          rw [zst_same, upd_ne (by decide), zst_ne (by decide), y4 _ (by decide) (by decide) (by decide) (by decide), y4 _ (by decide) (by decide) (by decide) (by decide), y4 _ (by decide) (by decide) (by decide) (by decide), y4 _ (by decide) (by decide) (by decide) (by decide), y6 _ (by decide), y6 _ (by decide)]
          exact hx3
        · show zst A1 5 1 1 5 1 = 1
          rw [zst_same, upd_same]
        · show GX a.2.1 (F1 18) (F1 19) (F1 20) (F1 21) (zst A1 5 1 1 22)
          rw [zst_ne (by decide), y0, y1, y2, y3, y5]
          exact hx2.cp gl
        · show LX a.2.2.2.1 (F1 0) (zst A1 5 1 1 8) (zst A1 5 1 1 9)
          rw [zst_ne (by decide), zst_ne (by decide), y4 _ (by decide) (by decide) (by decide) (by decide), y6 _ (by decide), y6 _ (by decide)]
          exact hx5
        · show TXX a.2.2.2.2.1 (F1 1) (zst A1 5 1 1 12)
          rw [zst_ne (by decide), y4 _ (by decide) (by decide) (by decide) (by decide), y6 _ (by decide)]
          exact hx6
      have im : IM (a.1, a.2.1, (a.2.2.1.1, some a.2.1), a.2.2.2) (V.1, zst (zrw V.2.1 15 (va_cpy (V.2.1 15) (V.2.1 15) 0 68 34)) 16 1 1, V.2.2) := by
        refine ⟨hm1.fr (fun k _ _ => by dsimp only; rw [zst_ne (by omega), zrw_ne (by omega)]), ?_, ⟨?_, ⟨?_, ?_⟩⟩, ?_, ?_, hm7⟩
        · dsimp only; rw [zst_ne (by decide), zrw_same]; exact hm2.cpo gl (by omega)
        · dsimp only; rw [zst_same, upd_ne (by decide), zrw_ne (by decide), zst_ne (by decide), zrw_same]; exact hm3.cpo hok.2.2.1.1 (by omega)
        · dsimp only; rw [zst_same, upd_same]
        · dsimp only; rw [zst_ne (by decide), zrw_same]; exact hm2.cp gl
        · dsimp only; rw [zst_ne (by decide), zrw_ne (by decide), zst_ne (by decide), zrw_ne (by decide)]; exact hm5
        · dsimp only; rw [zst_ne (by decide), zrw_ne (by decide)]; exact hm6
      obtain ⟨F3, A3, x3, x4⟩ := cX ok2 ix
      obtain ⟨F4, A4, m3, m4⟩ := cM ok2 im
      dsimp only at x3 m3
      rw [x3, m3, Option.bind_some, Option.bind_some]
      exact ⟨_, _, rfl, rfl, rfl, _, ok2, x4, m4⟩
theorem p_back : st_back Rel := by
  rintro a0 U V ⟨a, hok, hx, hm⟩
  unfold f_X10_back f_X11_back
  rw [in_wi]
  have n1 : ¬ (1 : Int32) = 0 := by decide
  rcases two_of a0 (n := 1) (by decide) with ⟨e, -⟩ | ⟨e, c, hc, rfl⟩
  · have e : f_X10_within a0 (0 : Int32) (1 : Int32) = 0 := e
    rw [e, if_pos rfl, if_pos rfl]
    exact ⟨_, _, rfl, rfl, rfl, a, hok, hx, hm⟩
  · have e : f_X10_within (nI c) (0 : Int32) (1 : Int32) = 1 := e
    rw [e, if_neg n1, if_neg n1]
    have hx3 := hx.2.2.1.1
    have hx4 := hx.2.2.1.2
    have hm3 := hm.2.2.1.1
    have hm4 := hm.2.2.1.2
    rcases (show c = 0 ∨ c = 1 by omega) with rfl | rfl
    · rw [if_pos (show gok (nI 0) 2 = true from by decide), if_pos (show gok (nI 0) 2 = true from by decide), nI_clamp (by decide)]
      cases hj : a.2.2.1.1 with
      | none =>
        rw [hj] at hx3 hm3
        rw [if_pos (show U.2.1 5 0 = 0 from hx3), if_pos (show V.2.1 16 0 = 0 from hm3)]
        exact ⟨_, _, rfl, rfl, rfl, a, hok, hx, hm⟩
      | some g =>
        rw [hj] at hx3 hm3
        have gk := hok.2.2.1.1 g hj
        rw [if_neg (show ¬ U.2.1 5 0 = 0 by rw [hx3.1]; decide), if_neg (show ¬ V.2.1 16 0 = 0 by rw [hm3.1]; decide), if_pos (show nI 0 = (0 : Int32) from rfl)]
        obtain ⟨F1, A1, x1, ⟨y0, y1, y2, y3⟩, y4, y5, y6⟩ := x_b3_19 U.1 U.2.1 U.2.2
        have cp := m_copy (F := V.1) (T := V.2.2) (s := 34) (t := 0) (by omega) (by omega) (by omega) V.2.1
        have cp : f_X11_copy ((34 : Int32) * ((1 : Int32) + nI 0)) (0 : Int32) V.1 V.2.1 V.2.2 = _ := cp
        rw [x1, cp, Option.bind_some, Option.bind_some]
        dsimp only
        have ix : IX (setG a g) (F1, A1, U.2.2) := hx.g (fun k hk => y4 k (by omega) (by omega) (by omega) (by omega)) (fun k hk => y6 k (by omega)) (by rw [y0, y1, y2, y3, y5]; exact hx3.2.cp gk.2.1)
        have im : IM (setG a g) (V.1, zrw V.2.1 15 (va_cpy (V.2.1 15) (V.2.1 15) 34 0 34), V.2.2) := hm.g (fun k hk => rfl) (fun k hk => zrw_ne (by omega) _) (fun j hj => by rw [zrw_same, pk_cpy_out (by omega)]) (by rw [zrw_same]; exact hm3.2.cp gk.2.1)
        obtain ⟨F3, A3, x3, x4⟩ := cX (hok.g gk) ix
        obtain ⟨F4, A4, m3, m4⟩ := cM (hok.g gk) im
        dsimp only at x3 m3
        rw [x3, m3, Option.bind_some, Option.bind_some]
        exact ⟨_, _, rfl, rfl, rfl, _, hok.g gk, x4, m4⟩
    · rw [if_pos (show gok (nI 1) 2 = true from by decide), if_pos (show gok (nI 1) 2 = true from by decide), nI_clamp (by decide)]
      cases hj : a.2.2.1.2 with
      | none =>
        rw [hj] at hx4 hm4
        rw [if_pos (show U.2.1 5 1 = 0 from hx4), if_pos (show V.2.1 16 1 = 0 from hm4)]
        exact ⟨_, _, rfl, rfl, rfl, a, hok, hx, hm⟩
      | some g =>
        rw [hj] at hx4 hm4
        have gk := hok.2.2.1.2 g hj
        rw [if_neg (show ¬ U.2.1 5 1 = 0 by rw [hx4.1]; decide), if_neg (show ¬ V.2.1 16 1 = 0 by rw [hm4.1]; decide), if_neg (show ¬ nI 1 = (0 : Int32) by decide), if_pos (show nI 1 = (1 : Int32) from rfl)]
        obtain ⟨F1, A1, x1, ⟨y0, y1, y2, y3⟩, y4, y5, y6⟩ := x_b3_20 U.1 U.2.1 U.2.2
        have cp := m_copy (F := V.1) (T := V.2.2) (s := 68) (t := 0) (by omega) (by omega) (by omega) V.2.1
        have cp : f_X11_copy ((34 : Int32) * ((1 : Int32) + nI 1)) (0 : Int32) V.1 V.2.1 V.2.2 = _ := cp
        rw [x1, cp, Option.bind_some, Option.bind_some]
        dsimp only
        have ix : IX (setG a g) (F1, A1, U.2.2) := hx.g (fun k hk => y4 k (by omega) (by omega) (by omega) (by omega)) (fun k hk => y6 k (by omega)) (by rw [y0, y1, y2, y3, y5]; exact hx4.2.cp gk.2.1)
        have im : IM (setG a g) (V.1, zrw V.2.1 15 (va_cpy (V.2.1 15) (V.2.1 15) 68 0 34), V.2.2) := hm.g (fun k hk => rfl) (fun k hk => zrw_ne (by omega) _) (fun j hj => by rw [zrw_same, pk_cpy_out (by omega)]) (by rw [zrw_same]; exact hm4.2.cp gk.2.1)
        obtain ⟨F3, A3, x3, x4⟩ := cX (hok.g gk) ix
        obtain ⟨F4, A4, m3, m4⟩ := cM (hok.g gk) im
        dsimp only at x3 m3
        rw [x3, m3, Option.bind_some, Option.bind_some]
        exact ⟨_, _, rfl, rfl, rfl, _, hok.g gk, x4, m4⟩
theorem nI_m1 (k : Nat) : nI (k + 1) - 1 = nI k := by rw [← nI_1 k, Int32.add_sub_cancel]
theorem x_back {d : ZD} (hd0 : dOK d) {t g0 : Nat × Nat × Nat} {l : List (Nat × Nat × Nat)} (hg : gOK d (g0, l ++ [t])) {F : ZF} {A : ZA} {T : Int64} (hx : GX (g0, l ++ [t]) (F 10) (F 11) (F 12) (F 13) (A 18)) : ∃ F', f_X6_stepBack F A T = some (F', A, T) ∧ (∀ k, k ≠ 10 → k ≠ 11 → k ≠ 12 → k ≠ 13 → F' k = F k) ∧ GX (t, l) (F' 10) (F' 11) (F' 12) (F' 13) (A 18) := by
  obtain ⟨h0, h1, h2, h3, h4⟩ := hx
  have hl : (l ++ [t]).length ≤ 10 := hg.2.1
  have el : (l ++ [t]).length = l.length + 1 := by simp
  have tk := hg.2.2 t (by simp)
  obtain ⟨b1, b2, b3⟩ := t256 hd0 tk
  obtain ⟨u1, u2, u3⟩ := pk3_un b1 b2 b3
  have e18 : A 18 l.length = nI (pk3 t) := h4 l.length t (by simp)
  have e13 : F 13 - 1 = nI l.length := by
    rw [h3]
    show nI (l ++ [t]).length - 1 = _
    rw [el]
    exact nI_m1 l.length
  have g13 : gok (nI l.length) 10 = true := gok_nI (by omega) (by decide)
  unfold f_X6_stepBack
  rw [e13]
  have k1 : ∀ x y z w : Int32, upd (upd (upd F 13 x) 10 y) 11 z 13 = x := fun x y z w => by rw [upd_ne (by decide), upd_ne (by decide), upd_same]
  have k2 : ∀ x y : Int32, upd (upd F 13 x) 10 y 13 = x := fun x y => by rw [upd_ne (by decide), upd_same]
  simp only [upd_same, k2, upd_ne (show (13 : Nat) ≠ 11 by decide), upd_ne (show (13 : Nat) ≠ 10 by decide), g13, if_true, nI_clamp (show l.length < 2 ^ 31 by omega), e18, u1, u2, u3]
  refine ⟨_, rfl, fun k q1 q2 q3 q4 => by rw [upd_ne q3, upd_ne q2, upd_ne q1, upd_ne q4], ?_, ?_, ?_, ?_, fun i u hu => ?_⟩
  · rw [upd_ne (by decide), upd_ne (by decide), upd_same]
  · rw [upd_ne (by decide), upd_same]
  · rw [upd_same]
  · rw [upd_ne (by decide), upd_ne (by decide), upd_ne (by decide), upd_same]
  · have hi : i < l.length := l_lt hu
    exact h4 i u (by rw [List.getElem?_append_left hi]; exact hu)
theorem m_u24 {F : ZF} {A : ZA} {T : Int64} {k : Nat} (hk : k < 10) (h3 : A 15 3 = nI k) : ∃ A', f_X11_undo_24 1000 0 F A T = some (nI k, F, A', T) ∧ (∀ j, j ≠ 15 → A' j = A j) ∧ ∀ j, A' 15 j = if j = 0 then A 15 (4 + 3 * k) else if j = 1 then A 15 (5 + 3 * k) else if j = 2 then A 15 (6 + 3 * k) else A 15 j := by
  have ix : ∀ i : Nat, (4 : Int32) + (3 : Int32) * nI k + nI i = nI (4 + 3 * k + i) := fun i => by
    rw [show (3 : Int32) = nI 3 from rfl, show (4 : Int32) = nI 4 from rfl, pk_mul, nI_add, nI_add]
  have gx : ∀ i : Nat, i < 3 → gok (nI (4 + 3 * k + i)) 102 = true := fun i hi => gok_nI (by omega) (by decide)
  have step : ∀ (n i : Nat) (B : ZA), i < 3 → B 15 3 = nI k → f_X11_undo_24 (n + 1) (nI i) F B T = f_X11_undo_24 n (nI (i + 1)) F (zst B 15 i (B 15 (4 + 3 * k + i))) T := by
    intro n i B hi hB
    have c : ¬ (3 : Int32) ≤ nI i := nI_ge (a := i) (b := 3) (by omega) (by omega)
    rw [f_X11_undo_24_s, if_neg c, cl3, hB, ix i, if_pos (gx i hi), if_pos (gok_nI (by omega) (by decide)), nI_1, nI_clamp (by omega), nI_clamp (by omega)]
  have s0 := step 999 0 A (by omega) h3
  have s1 := step 998 1 (zst A 15 0 (A 15 (4 + 3 * k + 0))) (by omega) (by rw [zst_same, upd_ne (by omega)]; exact h3)
  have s2 := step 997 2 (zst (zst A 15 0 (A 15 (4 + 3 * k + 0))) 15 1 (zst A 15 0 (A 15 (4 + 3 * k + 0)) 15 (4 + 3 * k + 1))) (by omega) (by rw [zst_same, upd_ne (by omega), zst_same, upd_ne (by omega)]; exact h3)
  rw [nI_0] at s0
  rw [show (1000 : Nat) = 999 + 1 from rfl, s0, show (999 : Nat) = 998 + 1 from rfl, s1, show (998 : Nat) = 997 + 1 from rfl, s2, show (997 : Nat) = 996 + 1 from rfl, f_X11_undo_24_s, if_pos (show (3 : Int32) ≤ nI (2 + 1) by decide), cl3]
  refine ⟨_, by rw [zst_same, upd_ne (by omega), zst_same, upd_ne (by omega), zst_same, upd_ne (by omega), h3], fun j hj => by rw [zst_ne hj, zst_ne hj, zst_ne hj], fun j => ?_⟩
  simp only [zst_same]
  by_cases q0 : j = 0
  · subst q0
    rw [if_pos rfl, upd_ne (by omega), upd_ne (by omega), upd_same, Nat.add_zero]
  · rw [if_neg q0]
    by_cases q1 : j = 1
    · subst q1
      rw [if_pos rfl, upd_ne (by omega), upd_same, upd_ne (by omega)]
      congr 1; omega
    · rw [if_neg q1]
      by_cases q2 : j = 2
      · subst q2
        rw [if_pos rfl, upd_same, upd_ne (by omega), upd_ne (by omega)]
        congr 1; omega
      · rw [if_neg q2, upd_ne (by omega), upd_ne (by omega), upd_ne (by omega)]
theorem p_undo : st_undo Rel := by
  rintro U V ⟨a, hok, hx, hm⟩
  obtain ⟨d, ⟨g0, hl⟩, b⟩ := a
  unfold f_X10_undo f_X11_undo
  rw [cl3]
  have h13 : U.1 13 = nI hl.length := hx.2.1.2.2.2.1
  have m13 : V.2.1 15 3 = nI hl.length := hm.2.1.2.2.2.1
  rcases List.eq_nil_or_concat hl with rfl | ⟨l, t, rfl⟩
  · rw [if_pos (show U.1 13 = 0 from h13), if_pos (show V.2.1 15 3 = 0 from m13)]
    exact ⟨_, _, rfl, rfl, rfl, _, hok, hx, hm⟩
  · rw [List.concat_eq_append] at *
    have el : (l ++ [t]).length = l.length + 1 := by simp
    have hle : (l ++ [t]).length ≤ 10 := hok.2.1.2.1
    have z : ¬ nI (l ++ [t]).length = (0 : Int32) := by
      rw [el]
      intro q
      have := (nI_eq (a := l.length + 1) (b := 0) (by omega) (by decide)).mp q
      omega
    rw [if_neg (show ¬ U.1 13 = 0 by rw [h13]; exact z), if_neg (show ¬ V.2.1 15 3 = 0 by rw [m13]; exact z)]
    obtain ⟨F1, x1, x2, x3⟩ := x_back hok.1 hok.2.1 (T := U.2.2) hx.2.1
    have b3 : zst V.2.1 15 3 (V.2.1 15 3 - 1) 15 3 = nI l.length := by
      rw [zst_same, upd_same, m13, el]; exact nI_m1 l.length
    obtain ⟨A2, m1, m2, m3⟩ := m_u24 (F := V.1) (T := V.2.2) (show l.length < 10 by omega) b3
    rw [x1, m1, Option.bind_some]
    dsimp only
    have gk : gOK d (t, l) := ⟨hok.2.1.2.2 t (by simp), by show l.length ≤ 10; omega, fun u hu => hok.2.1.2.2 u (by simp [hu])⟩
    have ix : IX (setG (d, (g0, l ++ [t]), b) (t, l)) (F1, U.2.1, U.2.2) := hx.g (fun k hk => x2 k (by omega) (by omega) (by omega) (by omega)) (fun k hk => rfl) x3
    have im : IM (setG (d, (g0, l ++ [t]), b) (t, l)) (V.1, A2, V.2.2) := by
      have zz : ∀ j, j ≠ 3 → zst V.2.1 15 3 (V.2.1 15 3 - 1) 15 j = V.2.1 15 j := fun j hj => by rw [zst_same, upd_ne hj]
      have hm4 := hm.2.1.2.2.2.2
      simp only [Nat.zero_add] at hm4
      have ht : (l ++ [t])[l.length]? = some t := by simp
      obtain ⟨v1, v2, v3⟩ := hm4 l.length t ht
      refine hm.g (fun k hk => rfl) (fun k hk => by rw [m2 k (by omega), zst_ne (by omega)]) (fun j hj => by rw [m3, if_neg (by omega), if_neg (by omega), if_neg (by omega), zz _ (by omega)]) ?_
      refine ⟨?_, ?_, ?_, ?_, fun i u hu => ?_⟩
      · rw [m3, if_pos rfl, zz _ (by omega)]; exact v1
      · rw [m3, if_neg (by omega), if_pos rfl, zz _ (by omega)]; exact v2
      · rw [m3, if_neg (by omega), if_neg (by omega), if_pos rfl, zz _ (by omega)]; exact v3
      · rw [m3, if_neg (by omega), if_neg (by omega), if_neg (by omega)]; exact b3
      · have hi : i < l.length := l_lt hu
        obtain ⟨w1, w2, w3⟩ := hm4 i u (by show (l ++ [t])[i]? = some u; rw [List.getElem?_append_left hi]; exact hu)
        refine ⟨?_, ?_, ?_⟩
        · rw [m3, if_neg (by omega), if_neg (by omega), if_neg (by omega), zz _ (by omega), show 0 + 4 + 3 * i = 4 + 3 * i by omega]; exact w1
        · rw [m3, if_neg (by omega), if_neg (by omega), if_neg (by omega), zz _ (by omega), show 0 + 5 + 3 * i = 5 + 3 * i by omega]; exact w2
        · rw [m3, if_neg (by omega), if_neg (by omega), if_neg (by omega), zz _ (by omega), show 0 + 6 + 3 * i = 6 + 3 * i by omega]; exact w3
    refine ⟨_, _, rfl, rfl, ?_, _, hok.g gk, ix, im⟩
    exact x3.2.2.2.1
