/-! the easy calls -/
theorem l_get {α : Type} {l : List α} {i : Nat} (h : i < l.length) : ∃ t, l[i]? = some t ∧ t ∈ l := ⟨l[i], List.getElem?_eq_getElem h, List.getElem_mem h⟩
theorem l_lt {α : Type} {l : List α} {i : Nat} {t : α} (h : l[i]? = some t) : i < l.length := (List.getElem?_eq_some_iff.mp h).1
theorem l_app {α : Type} {l : List α} {i : Nat} {t x : α} (h : (l ++ [x])[i]? = some t) : l[i]? = some t ∨ (i = l.length ∧ t = x) := by
  rcases Nat.lt_trichotomy i l.length with q | q | q
  · left
    rwa [List.getElem?_append_left q] at h
  · right
    subst q
    simp at h
    exact ⟨rfl, h.symm⟩
  · exfalso
    have := l_lt h
    simp at this
    omega
theorem one0 : ((1 : Int32) = 0) = False := by simp
theorem p_clear : st_clear Rel := by
  rintro U V ⟨a, hok, hx, hm⟩
  refine ⟨_, _, rfl, rfl, ?_, (a.1, a.2.1, a.2.2.1, a.2.2.2.1, [], a.2.2.2.2.2), ?_, ?_, ?_⟩
  · show U.1 1 = V.1 0
    rw [hx.2.2.2.2.1.1, hm.2.2.2.2.1.1]
  · exact ⟨hok.1, hok.2.1, hok.2.2.1, hok.2.2.2.1, by simp [xOK]⟩
  · exact ⟨hx.1, hx.2.1, hx.2.2.1, hx.2.2.2.1, ⟨rfl, by simp⟩, hx.2.2.2.2.2⟩
  · exact ⟨hm.1, hm.2.1, hm.2.2.1, hm.2.2.2.1, ⟨rfl, by simp⟩, hm.2.2.2.2.2⟩
theorem p_burn : st_burn Rel := by
  rintro U V ⟨a, hok, hx, hm⟩
  refine ⟨_, _, rfl, rfl, ?_, (a.1, a.2.1, a.2.2.1, [], a.2.2.2.2.1, a.2.2.2.2.2), ?_, ?_, ?_⟩
  · show U.1 0 = V.1 10
    rw [hx.2.2.2.1.1, hm.2.2.2.1.1]
  · exact ⟨hok.1, hok.2.1, hok.2.2.1, by simp [lOK], hok.2.2.2.2⟩
  · exact ⟨hx.1, hx.2.1, hx.2.2.1, ⟨rfl, by simp⟩, hx.2.2.2.2.1, hx.2.2.2.2.2⟩
  · exact ⟨hm.1, hm.2.1, hm.2.2.1, ⟨rfl, by simp⟩, hm.2.2.2.2.1, hm.2.2.2.2.2⟩
theorem p_trace : st_trace Rel := by
  rintro U V ⟨a, hok, hx, hm⟩
  refine ⟨(U.2.2, U), (V.2.2, V), ⟨rfl, rfl⟩, ⟨rfl, rfl⟩, ?_, a, hok, hx, hm⟩
  show U.2.2 = V.2.2
  rw [hx.2.2.2.2.2, hm.2.2.2.2.2]
theorem p_count : st_count Rel := by
  rintro a0 U V ⟨a, hok, hx, hm⟩
  refine ⟨(_, U), (_, V), ⟨rfl, rfl⟩, ⟨rfl, rfl⟩, ?_, a, hok, hx, hm⟩
  show f_X10_count a0 U.1 U.2.1 U.2.2 = f_X11_count a0 V.1 V.2.1 V.2.2
  unfold f_X10_count f_X11_count
  rw [cl0, cl3, hx.1.1.1, hx.1.1.2.1, hx.1.1.2.2.1, hx.2.2.2.1.1, hx.2.1.2.2.2.1, hx.2.2.2.2.1.1, hm.1.1.1, hm.1.1.2.1, hm.1.1.2.2.1, hm.2.2.2.1.1, hm.2.2.2.2.1.1]
  rw [show V.2.1 15 3 = nI a.2.1.2.length from hm.2.1.2.2.2.1]
theorem p_type : st_type Rel := by
  rintro a0 U V ⟨a, hok, hx, hm⟩
  have eX := hx.2.2.2.2.1.1
  have eM := hm.2.2.2.2.1.1
  have hl := hok.2.2.2.2.1
  unfold f_X10_type f_X11_type
  rw [in_wi]
  rcases two_of a0 (n := 255) (by decide) with ⟨e, -⟩ | ⟨e, c, hc, rfl⟩
  · rw [show (255 : Int32) = nI 255 from rfl, e, if_pos rfl, if_pos rfl]
    exact ⟨_, _, rfl, rfl, rfl, a, hok, hx, hm⟩
  · simp only [show (255 : Int32) = nI 255 from rfl, e, one0, if_false, eX, eM]
    by_cases h200 : a.2.2.2.2.1.length = 200
    · rw [h200, if_neg (by decide), if_pos (by decide)]
      exact ⟨_, _, rfl, rfl, rfl, a, hok, hx, hm⟩
    · have hlt : a.2.2.2.2.1.length < 200 := by omega
      have h1 : nI a.2.2.2.2.1.length < (200 : Int32) := nI_lt hlt (by decide)
      have h2 : ¬ nI a.2.2.2.2.1.length = (200 : Int32) := fun q => h200 ((nI_eq (by omega) (by decide)).mp q)
      have h3 : gok (nI a.2.2.2.2.1.length) 200 = true := gok_nI hlt (by decide)
      simp only [h1, h2, h3, if_true, if_false]
      refine ⟨_, _, rfl, rfl, ?_, (a.1, a.2.1, a.2.2.1, a.2.2.2.1, a.2.2.2.2.1 ++ [c], a.2.2.2.2.2), ?_, ?_, ?_⟩
      · rfl
      · refine ⟨hok.1, hok.2.1, hok.2.2.1, hok.2.2.2.1, ?_, ?_⟩
        · simp; omega
        · intro x hx
          rcases List.mem_append.mp hx with h | h
          · exact hok.2.2.2.2.2 x h
          · rw [List.mem_singleton.mp h]; omega
      · refine ⟨hx.1, hx.2.1, hx.2.2.1, hx.2.2.2.1, ⟨?_, ?_⟩, hx.2.2.2.2.2⟩
        · show upd U.1 1 (nI a.2.2.2.2.1.length + 1) 1 = _
          rw [upd_same, nI_1]; simp
        · intro i t h
          show zst U.2.1 12 (nI a.2.2.2.2.1.length).toNatClampNeg (nI c) 12 i = nI t
          rw [zst_same, nI_clamp (by omega)]
          rcases l_app h with h | ⟨rfl, rfl⟩
          · rw [upd_ne (Nat.ne_of_lt (l_lt h))]
            exact hx.2.2.2.2.1.2 i t h
          · rw [upd_same]
      · refine ⟨hm.1, hm.2.1, hm.2.2.1, hm.2.2.2.1, ⟨?_, ?_⟩, hm.2.2.2.2.2⟩
        · show upd V.1 0 (nI a.2.2.2.2.1.length + 1) 0 = _
          rw [upd_same, nI_1]; simp
        · intro i t h
          show zst V.2.1 1 (nI a.2.2.2.2.1.length).toNatClampNeg (vp_nar .byte ((nI c).toInt8.toInt32)) 1 i &&& 255 = nI t
          rw [zst_same, nI_clamp (by omega), pk_vb]
          rcases l_app h with h | ⟨rfl, rfl⟩
          · rw [upd_ne (Nat.ne_of_lt (l_lt h))]
            exact hm.2.2.2.2.1.2 i t h
          · rw [upd_same, bp_b]
            rw [show (255 : Int32) = nI (2 ^ 8 - 1) from rfl, fa_mask, Nat.mod_eq_of_lt (by omega)]
theorem p_book : st_book Rel := by
  rintro a0 a1 U V ⟨a, hok, hx, hm⟩
  have hS := hok.1.1.1
  have hl := hok.2.2.2.1.1
  have eX := hx.2.2.2.1.1
  have eM := hm.2.2.2.1.1
  unfold f_X10_book f_X11_book f_X10_isSuspect f_X11_isSuspect
  rw [in_wi, in_wi, cl0, hx.1.1.1, hm.1.1.1]
  rcases one_of a0 (n := nS a.1) (by omega) with ⟨e, -⟩ | ⟨e, s, hs, rfl⟩
  · rw [e, if_pos rfl, if_pos rfl]
    exact ⟨_, _, rfl, rfl, rfl, a, hok, hx, hm⟩
  · simp only [e, one0, if_false]
    rcases two_of a1 (n := 60) (by decide) with ⟨e2, -⟩ | ⟨e2, c, hc, rfl⟩
    · simp only [show (60 : Int32) = nI 60 from rfl, e2, if_true]
      exact ⟨_, _, rfl, rfl, rfl, a, hok, hx, hm⟩
    · simp only [show (60 : Int32) = nI 60 from rfl, e2, one0, if_false, eX, eM]
      by_cases h6 : a.2.2.2.1.length = 6
      · rw [h6, if_neg (by decide), if_pos (by decide)]
        exact ⟨_, _, rfl, rfl, rfl, a, hok, hx, hm⟩
      · have hlt : a.2.2.2.1.length < 6 := by omega
        have h1 : nI a.2.2.2.1.length < (6 : Int32) := nI_lt hlt (by decide)
        have h2 : ¬ nI a.2.2.2.1.length = (6 : Int32) := fun q => h6 ((nI_eq (by omega) (by decide)).mp q)
        have h3 : gok (nI a.2.2.2.1.length) 6 = true := gok_nI hlt (by decide)
        simp only [h1, h2, h3, if_true, if_false]
        refine ⟨_, _, rfl, rfl, rfl, (a.1, a.2.1, a.2.2.1, a.2.2.2.1 ++ [(s, c)], a.2.2.2.2.1, a.2.2.2.2.2), ?_, ?_, ?_⟩
        · refine ⟨hok.1, hok.2.1, hok.2.2.1, ⟨?_, ?_⟩, hok.2.2.2.2⟩
          · simp; omega
          · intro x hx
            rcases List.mem_append.mp hx with h | h
            · exact hok.2.2.2.1.2 x h
            · rw [List.mem_singleton.mp h]; exact ⟨hs, hc⟩
        · refine ⟨hx.1, hx.2.1, hx.2.2.1, ⟨?_, ?_⟩, hx.2.2.2.2.1, hx.2.2.2.2.2⟩
          · show upd U.1 0 (nI a.2.2.2.1.length + 1) 0 = _
            rw [upd_same, nI_1]; simp
          · intro i t h
            show zst (zst U.2.1 8 (nI a.2.2.2.1.length).toNatClampNeg (nI s)) 9 (nI a.2.2.2.1.length).toNatClampNeg (nI c) 8 i = nI t.1 ∧ zst (zst U.2.1 8 (nI a.2.2.2.1.length).toNatClampNeg (nI s)) 9 (nI a.2.2.2.1.length).toNatClampNeg (nI c) 9 i = nI t.2
            rw [zst_same, zst_ne (by decide), zst_same, zst_ne (by decide), nI_clamp (by omega)]
            rcases l_app h with h | ⟨rfl, rfl⟩
            · rw [upd_ne (Nat.ne_of_lt (l_lt h)), upd_ne (Nat.ne_of_lt (l_lt h))]
              exact hx.2.2.2.1.2 i t h
            · rw [upd_same, upd_same]; exact ⟨rfl, rfl⟩
        · refine ⟨hm.1, hm.2.1, hm.2.2.1, ⟨?_, ?_⟩, hm.2.2.2.2.1, hm.2.2.2.2.2⟩
          · show upd V.1 10 (nI a.2.2.2.1.length + 1) 10 = _
            rw [upd_same, nI_1]; simp
          · intro i t h
            show zst (zst V.2.1 19 (nI a.2.2.2.1.length).toNatClampNeg (nI s)) 20 (nI a.2.2.2.1.length).toNatClampNeg (nI c) 19 i = nI t.1 ∧ zst (zst V.2.1 19 (nI a.2.2.2.1.length).toNatClampNeg (nI s)) 20 (nI a.2.2.2.1.length).toNatClampNeg (nI c) 20 i = nI t.2
            rw [zst_same, zst_ne (by decide), zst_same, zst_ne (by decide), nI_clamp (by omega)]
            rcases l_app h with h | ⟨rfl, rfl⟩
            · rw [upd_ne (Nat.ne_of_lt (l_lt h)), upd_ne (Nat.ne_of_lt (l_lt h))]
              exact hm.2.2.2.1.2 i t h
            · rw [upd_same, upd_same]; exact ⟨rfl, rfl⟩
theorem p_fact : st_fact Rel := by
  rintro a0 a1 U V ⟨a, hok, hx, hm⟩
  have hF := hok.1.1.2.1
  have e3 : V.2.1 15 0 = nI a.2.1.1.1 := hm.2.1.1
  have e4 : U.1 10 = nI a.2.1.1.1 := hx.2.1.1
  suffices h : ∃ v, f_X10_fact a0 a1 U.1 U.2.1 U.2.2 = some v ∧ f_X11_fact a0 a1 V.1 V.2.1 V.2.2 = some v by
    obtain ⟨v, h1, h2⟩ := h
    exact ⟨(v, U), (v, V), ⟨h1, rfl⟩, ⟨h2, rfl⟩, rfl, a, hok, hx, hm⟩
  unfold f_X10_fact f_X11_fact f_X10_isFact f_X11_isFact f_X10_bit
  simp only [in_wi, cl0, hx.1.1.2.1, hm.1.1.2.1, e3, e4]
  rcases one_of a0 (n := nF a.1) (by omega) with ⟨e, -⟩ | ⟨e, f, hf, rfl⟩
  · simp only [e, if_true]
    exact ⟨_, rfl, rfl⟩
  · have g1 : gok (nI f) 8 = true := gok_nI (by omega) (by decide)
    have g2 : gok (nI f) 16 = true := gok_nI (by omega) (by decide)
    have t1 := hx.1.2.2.1 f hf
    have t2 := hm.1.2.2.1 f hf
    simp only [e, one0, if_false, g1, g2, if_true, nI_clamp (show f < 2 ^ 31 by omega), t1.1, t1.2, t2.1, t2.2]
    rcases two_of a1 (n := 2) (by decide) with ⟨e2, n2⟩ | ⟨e2, c, hc, rfl⟩
    · have k0 : ¬ a1 = 0 := fun q => n2 ⟨0, by omega, q⟩
      have k1 : ¬ a1 = 1 := fun q => n2 ⟨1, by omega, q⟩
      have k2 : ¬ a1 = 2 := fun q => n2 ⟨2, by omega, q⟩
      simp only [show (2 : Int32) = nI 2 from rfl, e2, if_true]
      simp only [show nI 2 = (2 : Int32) from rfl, k0, k1, k2, if_false]
      exact ⟨_, rfl, rfl⟩
    · simp only [show (2 : Int32) = nI 2 from rfl, e2, one0, if_false]
      rcases (show c = 0 ∨ c = 1 ∨ c = 2 by omega) with rfl | rfl | rfl
      · exact ⟨_, rfl, rfl⟩
      · exact ⟨_, rfl, rfl⟩
      · exact ⟨_, rfl, rfl⟩
theorem p_moves : st_moves Rel := by
  rintro a0 a1 U V ⟨a, hok, hx, hm⟩
  have hF := hok.1.1.2.1
  have hS := hok.1.1.1
  suffices h : ∃ v, f_X10_moves a0 a1 U.1 U.2.1 U.2.2 = some v ∧ f_X11_moves a0 a1 V.1 V.2.1 V.2.2 = some v by
    obtain ⟨v, h1, h2⟩ := h
    exact ⟨(v, U), (v, V), ⟨h1, rfl⟩, ⟨h2, rfl⟩, rfl, a, hok, hx, hm⟩
  unfold f_X10_moves f_X11_moves f_X10_isFact f_X11_isFact f_X10_isSuspect f_X11_isSuspect
  simp only [in_wi, cl0, hx.1.1.2.1, hm.1.1.2.1, hx.1.1.1, hm.1.1.1]
  rcases one_of a0 (n := nF a.1) (by omega) with ⟨e, -⟩ | ⟨e, f, hf, rfl⟩
  · simp only [e, if_true]
    exact ⟨_, rfl, rfl⟩
  · rcases one_of a1 (n := nS a.1) (by omega) with ⟨e2, -⟩ | ⟨e2, s, hs, rfl⟩
    · simp only [e, e2, one0, if_false, if_true]
      exact ⟨_, rfl, rfl⟩
    · have ix1 : nI f * (6 : Int32) + nI s = nI (6 * f + s) := by
        rw [show (6 : Int32) = nI 6 from rfl, pk_mul, nI_add, Nat.mul_comm]
      have ix2 : (6 : Int32) * nI f + nI s = nI (6 * f + s) := by
        rw [show (6 : Int32) = nI 6 from rfl, pk_mul, nI_add]
      have g1 : gok (nI (6 * f + s)) 48 = true := gok_nI (by omega) (by decide)
      have g2 : gok (nI (6 * f + s)) 96 = true := gok_nI (by omega) (by decide)
      have t1 := hx.1.2.2.2.1 f hf s (by omega)
      have t2 := hm.1.2.2.2.1 f hf s (by omega)
      simp only [e, e2, one0, if_false, ix1, ix2, g1, g2, if_true, nI_clamp (show 6 * f + s < 2 ^ 31 by omega), t1.1, t2]
      exact ⟨_, rfl, rfl⟩
theorem p_alibi : st_alibi Rel := by
  rintro a0 a1 U V ⟨a, hok, hx, hm⟩
  have hA := hok.1.1.2.2.1
  have e3 : V.2.1 15 1 = nI a.2.1.1.2.1 := hm.2.1.2.1
  have e4 : U.1 11 = nI a.2.1.1.2.1 := hx.2.1.2.1
  suffices h : ∃ v, f_X10_alibi a0 a1 U.1 U.2.1 U.2.2 = some v ∧ f_X11_alibi a0 a1 V.1 V.2.1 V.2.2 = some v by
    obtain ⟨v, h1, h2⟩ := h
    exact ⟨(v, U), (v, V), ⟨h1, rfl⟩, ⟨h2, rfl⟩, rfl, a, hok, hx, hm⟩
  unfold f_X10_alibi f_X11_alibi f_X10_isAlibi f_X11_isAlibi f_X10_bit
  simp only [in_wi, cl0, cl1, hx.1.1.2.2.1, hm.1.1.2.2.1, e3, e4]
  rcases one_of a0 (n := nA a.1) (by omega) with ⟨e, -⟩ | ⟨e, f, hf, rfl⟩
  · simp only [e, if_true]
    exact ⟨_, rfl, rfl⟩
  · have g1 : gok (nI f) 8 = true := gok_nI (by omega) (by decide)
    have g2 : gok (nI f) 16 = true := gok_nI (by omega) (by decide)
    have t1 := hx.1.2.2.2.2 f hf
    have t2 := hm.1.2.2.2.2 f hf
    simp only [e, one0, if_false, g1, g2, if_true, nI_clamp (show f < 2 ^ 31 by omega), t1.1, t1.2.1, t1.2.2.1, t1.2.2.2, t2.1, t2.2.1, t2.2.2.1, t2.2.2.2]
    rcases two_of a1 (n := 4) (by decide) with ⟨e2, n2⟩ | ⟨e2, c, hc, rfl⟩
    · have k0 : ¬ a1 = 0 := fun q => n2 ⟨0, by omega, q⟩
      have k1 : ¬ a1 = 1 := fun q => n2 ⟨1, by omega, q⟩
      have k2 : ¬ a1 = 2 := fun q => n2 ⟨2, by omega, q⟩
      have k3 : ¬ a1 = 3 := fun q => n2 ⟨3, by omega, q⟩
      have k4 : ¬ a1 = 4 := fun q => n2 ⟨4, by omega, q⟩
      simp only [show (4 : Int32) = nI 4 from rfl, e2, if_true]
      simp only [show nI 4 = (4 : Int32) from rfl, k0, k1, k2, k3, k4, if_false]
      exact ⟨_, rfl, rfl⟩
    · simp only [show (4 : Int32) = nI 4 from rfl, e2, one0, if_false]
      rcases (show c = 0 ∨ c = 1 ∨ c = 2 ∨ c = 3 ∨ c = 4 by omega) with rfl | rfl | rfl | rfl | rfl
      · exact ⟨_, rfl, rfl⟩
      · exact ⟨_, rfl, rfl⟩
      · exact ⟨_, rfl, rfl⟩
      · exact ⟨_, rfl, rfl⟩
      · exact ⟨_, rfl, rfl⟩
