/-! the standing changes -/
def setG (a : ZQ) (g : ZG) : ZQ := (a.1, g, a.2.2)
theorem aOK.g {a : ZQ} (h : aOK a) {g : ZG} (hg : gOK a.1 g) : aOK (setG a g) := ⟨h.1, hg, h.2.2⟩
theorem GM.fr {g : ZG} {n n' : Nat → Int32} {o : Nat} (h : GM g n o) (e : ∀ j, o ≤ j → n' j = n j) : GM g n' o := by
  obtain ⟨h0, h1, h2, h3, h4⟩ := h
  refine ⟨?_, ?_, ?_, ?_, fun i t ht => ?_⟩
  · rw [e _ (by omega)]; exact h0
  · rw [e _ (by omega)]; exact h1
  · rw [e _ (by omega)]; exact h2
  · rw [e _ (by omega)]; exact h3
  · obtain ⟨u1, u2, u3⟩ := h4 i t ht
    refine ⟨?_, ?_, ?_⟩
    · rw [e _ (by omega)]; exact u1
    · rw [e _ (by omega)]; exact u2
    · rw [e _ (by omega)]; exact u3
theorem JM.fr {o : Option ZG} {k : Int32} {n n' : Nat → Int32} {j : Nat} (h : JM o k n j) (e : ∀ i, j ≤ i → n' i = n i) : JM o k n' j := by
  cases o with
  | none => exact h
  | some g => exact ⟨h.1, h.2.fr e⟩
theorem IX.g {a : ZQ} {U : ZS} (h : IX a U) {F' : ZF} {A' : ZA} {g : ZG} (hF : ∀ k, (k ≤ 1 ∨ 14 ≤ k ∧ k ≤ 26) → F' k = U.1 k) (hA : ∀ k, (k = 5 ∨ k = 8 ∨ k = 9 ∨ k = 12 ∨ k = 21 ∨ k = 22 ∨ 29 ≤ k ∧ k ≤ 37) → A' k = U.2.1 k) (hg : GX g (F' 10) (F' 11) (F' 12) (F' 13) (A' 18)) : IX (setG a g) (F', A', U.2.2) := by
  obtain ⟨h1, h2, ⟨h3, h4⟩, h5, h6, h7⟩ := h
  refine ⟨h1.fr (fun k _ _ => hF k (by omega)) (fun k _ _ => hA k (by omega)), hg, ⟨?_, ?_⟩, ?_, ?_, h7⟩
  · show JX a.2.2.1.1 (A' 5 0) (F' 14) (F' 15) (F' 16) (F' 17) (A' 21)
    rw [hF 14 (by omega), hF 15 (by omega), hF 16 (by omega), hF 17 (by omega), hA 5 (by omega), hA 21 (by omega)]; exact h3
  · show JX a.2.2.1.2 (A' 5 1) (F' 18) (F' 19) (F' 20) (F' 21) (A' 22)
    rw [hF 18 (by omega), hF 19 (by omega), hF 20 (by omega), hF 21 (by omega), hA 5 (by omega), hA 22 (by omega)]; exact h4
  · show LX a.2.2.2.1 (F' 0) (A' 8) (A' 9)
    rw [hF 0 (by omega), hA 8 (by omega), hA 9 (by omega)]; exact h5
  · show TXX a.2.2.2.2.1 (F' 1) (A' 12)
    rw [hF 1 (by omega), hA 12 (by omega)]; exact h6
theorem IM.g {a : ZQ} {V : ZS} (h : IM a V) {F' : ZF} {A' : ZA} {g : ZG} (hF : ∀ k, (k = 0 ∨ k = 10) → F' k = V.1 k) (hA : ∀ k, (1 ≤ k ∧ k ≤ 14 ∨ k = 16 ∨ k = 19 ∨ k = 20) → A' k = V.2.1 k) (h15 : ∀ j, 34 ≤ j → A' 15 j = V.2.1 15 j) (hg : GM g (A' 15) 0) : IM (setG a g) (F', A', V.2.2) := by
  obtain ⟨h1, h2, ⟨h3, h4⟩, h5, h6, h7⟩ := h
  refine ⟨h1.fr (fun k _ _ => hA k (by omega)), hg, ⟨?_, ?_⟩, ?_, ?_, h7⟩
  · show JM a.2.2.1.1 (A' 16 0) (A' 15) 34
    rw [hA 16 (by omega)]; exact h3.fr (fun i hi => h15 i hi)
  · show JM a.2.2.1.2 (A' 16 1) (A' 15) 68
    rw [hA 16 (by omega)]; exact h4.fr (fun i hi => h15 i (by omega))
  · show LX a.2.2.2.1 (F' 10) (A' 19) (A' 20)
    rw [hF 10 (by omega), hA 19 (by omega), hA 20 (by omega)]; exact h5
  · show TXM a.2.2.2.2.1 (F' 0) (A' 1)
    rw [hF 0 (by omega), hA 1 (by omega)]; exact h6
def knw (a : ZQ) (t : Nat × Nat × Nat) : ZQ := setG a (t, pushH a.2.1.2 a.2.1.1)
theorem knw_ok {a : ZQ} (h : aOK a) {t : Nat × Nat × Nat} (ht : tOK a.1 t) : aOK (knw a t) := by
  have := pushH_ok h.2.1
  exact h.g ⟨ht, this.2⟩
theorem kX {a : ZQ} {U : ZS} (hok : aOK a) (hx : IX a U) : ∃ F' A', f_X6_remember U.1 U.2.1 U.2.2 = some (F', A', U.2.2) ∧ IX (knw a a.2.1.1) (F', A', U.2.2) := by
  obtain ⟨F', A', e1, e2, e3, e4, e5⟩ := x_rem hok.1 hok.2.1 (T := U.2.2) hx.2.1
  refine ⟨F', A', e1, hx.g (fun k hk => e2 k (by omega)) (fun k hk => e3 k (by omega)) ?_⟩
  have hg := hx.2.1
  refine ⟨?_, ?_, ?_, e4, e5⟩
  · rw [e2 _ (by decide)]; exact hg.1
  · rw [e2 _ (by decide)]; exact hg.2.1
  · rw [e2 _ (by decide)]; exact hg.2.2.1
theorem kM {a : ZQ} {V : ZS} (hok : aOK a) (hm : IM a V) : ∃ A', f_X11_know V.1 V.2.1 V.2.2 = some (V.1, A', V.2.2) ∧ IM (knw a a.2.1.1) (V.1, A', V.2.2) := by
  obtain ⟨A', e1, e2, e3, e4⟩ := m_know hok.2.1 (F := V.1) (T := V.2.2) hm.2.1
  exact ⟨A', e1, hm.g (fun k hk => rfl) (fun k hk => e2 k (by omega)) e3 e4⟩
theorem p_days : st_days Rel := by
  rintro a0 U V ⟨a, hok, hx, hm⟩
  unfold f_X10_days f_X11_days
  rw [in_wi, cl2]
  rcases two_of a0 (n := 60) (by decide) with ⟨e, -⟩ | ⟨e, c, hc, rfl⟩
  · have e : f_X10_within a0 (0 : Int32) (60 : Int32) = 0 := e
    rw [e, if_pos rfl, if_pos rfl]
    exact ⟨_, _, rfl, rfl, rfl, a, hok, hx, hm⟩
  · have e : f_X10_within (nI c) (0 : Int32) (60 : Int32) = 1 := e
    have x12 : U.1 12 = nI (ds a) := hx.2.1.2.2.1
    have m12 : V.2.1 15 2 = nI (ds a) := hm.2.1.2.2.1
    have n1 : ¬ (1 : Int32) = 0 := by decide
    rw [e, if_neg n1, if_neg n1, x12, m12]
    by_cases q : nI (ds a) = nI c
    · rw [if_pos q, if_pos q]
      exact ⟨_, _, rfl, rfl, rfl, a, hok, hx, hm⟩
    · rw [if_neg q, if_neg q]
      obtain ⟨F1, A1, x1, x2⟩ := kX hok hx
      obtain ⟨A2, m1, m2⟩ := kM hok hm
      rw [x1, m1, Option.bind_some, Option.bind_some]
      dsimp only
      refine ⟨_, _, rfl, rfl, ?_, knw a (fs a, hs a, c), knw_ok hok ⟨hok.2.1.1.1, hok.2.1.1.2.1, hc⟩, ?_, ?_⟩
      · exact (show A2 15 2 = nI (ds a) from m2.2.1.2.2.1).symm
      · refine (x2.g (F' := upd F1 12 (nI c)) (A' := A1) (g := ((fs a, hs a, c), pushH a.2.1.2 a.2.1.1)) (fun k hk => upd_ne (by omega) _) (fun k hk => rfl) ?_ : IX _ _)
        obtain ⟨g0, g1, g2, g3, g4⟩ := x2.2.1
        exact ⟨g0, g1, upd_same _ _ _, g3, g4⟩
      · refine (m2.g (F' := V.1) (A' := zst A2 15 2 (nI c)) (g := ((fs a, hs a, c), pushH a.2.1.2 a.2.1.1)) (fun k hk => rfl) (fun k hk => zst_ne (by omega) _ _) (fun j hj => ?_) ?_ : IM _ _)
        · rw [zst_same, upd_ne (by omega)]
        · obtain ⟨g0, g1, g2, g3, g4⟩ := m2.2.1
          rw [zst_same]
          refine ⟨?_, ?_, ?_, ?_, fun i t ht => ⟨?_, ?_, ?_⟩⟩
          · rw [upd_ne (by omega)]; exact g0
          · rw [upd_ne (by omega)]; exact g1
          · exact upd_same _ _ _
          · rw [upd_ne (by omega)]; exact g3
          · rw [upd_ne (by omega)]; exact (g4 i t ht).1
          · rw [upd_ne (by omega)]; exact (g4 i t ht).2.1
          · rw [upd_ne (by omega)]; exact (g4 i t ht).2.2
theorem p_find : st_find Rel := by
  rintro a0 a1 U V ⟨a, hok, hx, hm⟩
  have hN := hok.1.1.2.1
  unfold f_X10_find f_X11_find f_X10_isFact f_X11_isFact
  rw [in_wi, in_wi, cl0, hx.1.1.2.1, hm.1.1.2.1]
  have n1 : ¬ (1 : Int32) = 0 := by decide
  rcases one_of a0 (n := nF a.1) (by omega) with ⟨e, -⟩ | ⟨e, f, hf, rfl⟩
  · rw [e, if_pos rfl, if_pos rfl]
    exact ⟨_, _, rfl, rfl, rfl, a, hok, hx, hm⟩
  · rw [e, if_neg n1, if_neg n1]
    rcases two_of a1 (n := 1) (by decide) with ⟨e, -⟩ | ⟨e, c, hc, rfl⟩
    · have e : f_X10_within a1 (0 : Int32) (1 : Int32) = 0 := e
      rw [e, if_pos rfl, if_pos rfl]
      exact ⟨_, _, rfl, rfl, rfl, a, hok, hx, hm⟩
    · have e : f_X10_within (nI c) (0 : Int32) (1 : Int32) = 1 := e
      have x10 : U.1 10 = nI (fs a) := hx.2.1.1
      have m10 : V.2.1 15 0 = nI (fs a) := hm.2.1.1
      have hfs := fs_lt hok
      rw [e, if_neg n1, if_neg n1, x10, m10, bitX (by omega) (by omega), bit_nI (by omega) (by omega)]
      by_cases q : (if (fs a).testBit f = true then (1 : Int32) else 0) = nI c
      · rw [if_pos q, if_pos q]
        exact ⟨_, _, rfl, rfl, rfl, a, hok, hx, hm⟩
      · rw [if_neg q, if_neg q]
        obtain ⟨F1, A1, x1, x2⟩ := kX hok hx
        obtain ⟨A2, m1, m2⟩ := kM hok hm
        rw [x1, m1, Option.bind_some, Option.bind_some]
        dsimp only
        have y10 : F1 10 = nI (fs a) := x2.2.1.1
        have z10 : A2 15 0 = nI (fs a) := m2.2.1.1
        rw [y10, z10, shl1 (by omega), fb_xorI]
        have ok2 : aOK (knw a (fs a ^^^ 2 ^ f, hs a, ds a)) := knw_ok hok ⟨Nat.xor_lt_two_pow hok.2.1.1.1 (Nat.pow_lt_pow_right (by decide) hf), hok.2.1.1.2⟩
        have ix : IX (knw a (fs a ^^^ 2 ^ f, hs a, ds a)) (upd F1 10 (nI (fs a ^^^ 2 ^ f)), A1, U.2.2) := by
          refine x2.g (F' := upd F1 10 (nI (fs a ^^^ 2 ^ f))) (A' := A1) (g := ((fs a ^^^ 2 ^ f, hs a, ds a), pushH a.2.1.2 a.2.1.1)) (fun k hk => upd_ne (by omega) _) (fun k hk => rfl) ?_
          obtain ⟨g0, g1, g2, g3, g4⟩ := x2.2.1
          exact ⟨upd_same _ _ _, g1, g2, g3, g4⟩
        have im : IM (knw a (fs a ^^^ 2 ^ f, hs a, ds a)) (V.1, zst A2 15 0 (nI (fs a ^^^ 2 ^ f)), V.2.2) := by
          refine m2.g (F' := V.1) (A' := zst A2 15 0 (nI (fs a ^^^ 2 ^ f))) (g := ((fs a ^^^ 2 ^ f, hs a, ds a), pushH a.2.1.2 a.2.1.1)) (fun k hk => rfl) (fun k hk => zst_ne (by omega) _ _) (fun j hj => ?_) ?_
          · rw [zst_same, upd_ne (by omega)]
          · obtain ⟨g0, g1, g2, g3, g4⟩ := m2.2.1
            rw [zst_same]
            refine ⟨?_, ?_, ?_, ?_, fun i t ht => ⟨?_, ?_, ?_⟩⟩
            · exact upd_same _ _ _
            · rw [upd_ne (by omega)]; exact g1
            · rw [upd_ne (by omega)]; exact g2
            · rw [upd_ne (by omega)]; exact g3
            · rw [upd_ne (by omega)]; exact (g4 i t ht).1
            · rw [upd_ne (by omega)]; exact (g4 i t ht).2.1
            · rw [upd_ne (by omega)]; exact (g4 i t ht).2.2
        obtain ⟨F3, A3, x3, x4⟩ := cX ok2 ix
        obtain ⟨F4, A4, m3, m4⟩ := cM ok2 im
        have x3 : f_X10_caseNow (upd F1 10 (nI (fs a ^^^ 2 ^ f))) A1 U.2.2 = _ := x3
        have m3 : f_X11_theCase V.1 (zst A2 15 0 (nI (fs a ^^^ 2 ^ f))) V.2.2 = _ := m3
        rw [x3, m3, Option.bind_some, Option.bind_some]
        exact ⟨_, _, rfl, rfl, rfl, _, ok2, x4, m4⟩
theorem p_hear : st_hear Rel := by
  rintro a0 a1 U V ⟨a, hok, hx, hm⟩
  have hN := hok.1.1.2.2.1
  unfold f_X10_hear f_X11_hear f_X10_isAlibi f_X11_isAlibi
  rw [in_wi, in_wi, cl0, cl1, hx.1.1.2.2.1, hm.1.1.2.2.1]
  have n1 : ¬ (1 : Int32) = 0 := by decide
  rcases one_of a0 (n := nA a.1) (by omega) with ⟨e, -⟩ | ⟨e, f, hf, rfl⟩
  · rw [e, if_pos rfl, if_pos rfl]
    exact ⟨_, _, rfl, rfl, rfl, a, hok, hx, hm⟩
  · rw [e, if_neg n1, if_neg n1]
    rcases two_of a1 (n := 1) (by decide) with ⟨e, -⟩ | ⟨e, c, hc, rfl⟩
    · have e : f_X10_within a1 (0 : Int32) (1 : Int32) = 0 := e
      rw [e, if_pos rfl, if_pos rfl]
      exact ⟨_, _, rfl, rfl, rfl, a, hok, hx, hm⟩
    · have e : f_X10_within (nI c) (0 : Int32) (1 : Int32) = 1 := e
      have x11 : U.1 11 = nI (hs a) := hx.2.1.2.1
      have m11 : V.2.1 15 1 = nI (hs a) := hm.2.1.2.1
      have hhs := hs_lt hok
      rw [e, if_neg n1, if_neg n1, x11, m11, bitX (by omega) (by omega), bit_nI (by omega) (by omega)]
      by_cases q : (if (hs a).testBit f = true then (1 : Int32) else 0) = nI c
      · rw [if_pos q, if_pos q]
        exact ⟨_, _, rfl, rfl, rfl, a, hok, hx, hm⟩
      · rw [if_neg q, if_neg q]
        obtain ⟨F1, A1, x1, x2⟩ := kX hok hx
        obtain ⟨A2, m1, m2⟩ := kM hok hm
        rw [x1, m1, Option.bind_some, Option.bind_some]
        dsimp only
        have y11 : F1 11 = nI (hs a) := x2.2.1.2.1
        have z11 : A2 15 1 = nI (hs a) := m2.2.1.2.1
        rw [y11, z11, shl1 (by omega), fb_xorI]
        have ok2 : aOK (knw a (fs a, hs a ^^^ 2 ^ f, ds a)) := knw_ok hok ⟨hok.2.1.1.1, Nat.xor_lt_two_pow hok.2.1.1.2.1 (Nat.pow_lt_pow_right (by decide) hf), hok.2.1.1.2.2⟩
        have ix : IX (knw a (fs a, hs a ^^^ 2 ^ f, ds a)) (upd F1 11 (nI (hs a ^^^ 2 ^ f)), A1, U.2.2) := by
          refine x2.g (F' := upd F1 11 (nI (hs a ^^^ 2 ^ f))) (A' := A1) (g := ((fs a, hs a ^^^ 2 ^ f, ds a), pushH a.2.1.2 a.2.1.1)) (fun k hk => upd_ne (by omega) _) (fun k hk => rfl) ?_
          obtain ⟨g0, g1, g2, g3, g4⟩ := x2.2.1
          exact ⟨g0, upd_same _ _ _, g2, g3, g4⟩
        have im : IM (knw a (fs a, hs a ^^^ 2 ^ f, ds a)) (V.1, zst A2 15 1 (nI (hs a ^^^ 2 ^ f)), V.2.2) := by
          refine m2.g (F' := V.1) (A' := zst A2 15 1 (nI (hs a ^^^ 2 ^ f))) (g := ((fs a, hs a ^^^ 2 ^ f, ds a), pushH a.2.1.2 a.2.1.1)) (fun k hk => rfl) (fun k hk => zst_ne (by omega) _ _) (fun j hj => ?_) ?_
          · rw [zst_same, upd_ne (by omega)]
          · obtain ⟨g0, g1, g2, g3, g4⟩ := m2.2.1
            rw [zst_same]
            refine ⟨?_, ?_, ?_, ?_, fun i t ht => ⟨?_, ?_, ?_⟩⟩
            · rw [upd_ne (by omega)]; exact g0
            · exact upd_same _ _ _
            · rw [upd_ne (by omega)]; exact g2
            · rw [upd_ne (by omega)]; exact g3
            · rw [upd_ne (by omega)]; exact (g4 i t ht).1
            · rw [upd_ne (by omega)]; exact (g4 i t ht).2.1
            · rw [upd_ne (by omega)]; exact (g4 i t ht).2.2
        obtain ⟨F3, A3, x3, x4⟩ := cX ok2 ix
        obtain ⟨F4, A4, m3, m4⟩ := cM ok2 im
        have x3 : f_X10_caseNow (upd F1 11 (nI (hs a ^^^ 2 ^ f))) A1 U.2.2 = _ := x3
        have m3 : f_X11_theCase V.1 (zst A2 15 1 (nI (hs a ^^^ 2 ^ f))) V.2.2 = _ := m3
        rw [x3, m3, Option.bind_some, Option.bind_some]
        exact ⟨_, _, rfl, rfl, rfl, _, ok2, x4, m4⟩
