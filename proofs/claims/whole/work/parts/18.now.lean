/-! calls that weigh and answer -/
abbrev fs (a : ZQ) : Nat := a.2.1.1.1
abbrev hs (a : ZQ) : Nat := a.2.1.1.2.1
abbrev ds (a : ZQ) : Nat := a.2.1.1.2.2
theorem p2_le {x n : Nat} (h : x < 2 ^ n) (hn : n ≤ 8) : x < 256 := Nat.lt_of_lt_of_le h (Nat.pow_le_pow_right (by decide) hn)
theorem fs_lt {a : ZQ} (h : aOK a) : fs a < 256 := p2_le h.2.1.1.1 h.1.1.2.1
theorem hs_lt {a : ZQ} (h : aOK a) : hs a < 256 := p2_le h.2.1.1.2.1 h.1.1.2.2.1
theorem ds_le {a : ZQ} (h : aOK a) : ds a ≤ 60 := h.2.1.1.2.2
theorem IX.sc {a : ZQ} {U : ZS} (h : IX a U) {F' : ZF} {A' : ZA} (hF : ∀ k, (k ≤ 1 ∨ 10 ≤ k ∧ k ≤ 26) → F' k = U.1 k) (hA : ∀ k, (k = 5 ∨ k = 8 ∨ k = 9 ∨ k = 12 ∨ k = 18 ∨ k = 21 ∨ k = 22 ∨ 29 ≤ k ∧ k ≤ 37) → A' k = U.2.1 k) : IX a (F', A', U.2.2) := by
  obtain ⟨h1, h2, ⟨h3, h4⟩, h5, h6, h7⟩ := h
  refine ⟨h1.fr (fun k _ _ => hF k (by omega)) (fun k _ _ => hA k (by omega)), ?_, ⟨?_, ?_⟩, ?_, ?_, h7⟩
  · show GX a.2.1 (F' 10) (F' 11) (F' 12) (F' 13) (A' 18)
    rw [hF 10 (by omega), hF 11 (by omega), hF 12 (by omega), hF 13 (by omega), hA 18 (by omega)]; exact h2
  · show JX a.2.2.1.1 (A' 5 0) (F' 14) (F' 15) (F' 16) (F' 17) (A' 21)
    rw [hF 14 (by omega), hF 15 (by omega), hF 16 (by omega), hF 17 (by omega), hA 5 (by omega), hA 21 (by omega)]; exact h3
  · show JX a.2.2.1.2 (A' 5 1) (F' 18) (F' 19) (F' 20) (F' 21) (A' 22)
    rw [hF 18 (by omega), hF 19 (by omega), hF 20 (by omega), hF 21 (by omega), hA 5 (by omega), hA 22 (by omega)]; exact h4
  · show LX a.2.2.2.1 (F' 0) (A' 8) (A' 9)
    rw [hF 0 (by omega), hA 8 (by omega), hA 9 (by omega)]; exact h5
  · show TXX a.2.2.2.2.1 (F' 1) (A' 12)
    rw [hF 1 (by omega), hA 12 (by omega)]; exact h6
theorem IM.sc {a : ZQ} {V : ZS} (h : IM a V) {F' : ZF} {A' : ZA} (hF : ∀ k, (k = 0 ∨ k = 10) → F' k = V.1 k) (hA : ∀ k, (1 ≤ k ∧ k ≤ 16 ∨ k = 19 ∨ k = 20) → A' k = V.2.1 k) : IM a (F', A', V.2.2) := by
  obtain ⟨h1, h2, ⟨h3, h4⟩, h5, h6, h7⟩ := h
  refine ⟨h1.fr (fun k _ _ => hA k (by omega)), ?_, ⟨?_, ?_⟩, ?_, ?_, h7⟩
  · show GM a.2.1 (A' 15) 0
    rw [hA 15 (by omega)]; exact h2
  · show JM a.2.2.1.1 (A' 16 0) (A' 15) 34
    rw [hA 15 (by omega), hA 16 (by omega)]; exact h3
  · show JM a.2.2.1.2 (A' 16 1) (A' 15) 68
    rw [hA 15 (by omega), hA 16 (by omega)]; exact h4
  · show LX a.2.2.2.1 (F' 10) (A' 19) (A' 20)
    rw [hF 10 (by omega), hA 19 (by omega), hA 20 (by omega)]; exact h5
  · show TXM a.2.2.2.2.1 (F' 0) (A' 1)
    rw [hF 0 (by omega), hA 1 (by omega)]; exact h6
theorem wX {a : ZQ} {U : ZS} (hok : aOK a) (hx : IX a U) : ∃ F' A', f_X10_weighNow U.1 U.2.1 U.2.2 = some (F', A', U.2.2) ∧ IX a (F', A', U.2.2) ∧ F' 8 = nI (cas a.1 (hs a) (fs a)) ∧ F' 9 = nI (nS a.1) ∧ (∀ j, j < nS a.1 → A' 14 j = nI (hld a.1 (hs a) (fs a) j)) ∧ (∀ j, j < nS a.1 → A' 15 j = nI (srv a.1 (hs a) (fs a) (ds a) j)) ∧ (∀ j, j < nS a.1 → A' 16 j = nI (hrs a.1 (hs a) j)) := by
  obtain ⟨F', A', e1, e2, e3, e4, e5, e6, e7, e8⟩ := x_weighNow hok.1 (T := U.2.2) (hs_lt hok) (fs_lt hok) (ds_le hok) hx.1 hx.2.1.1 hx.2.1.2.1 hx.2.1.2.2.1
  exact ⟨F', A', e1, hx.sc (fun k hk => e3 k (by omega) (by omega)) (fun k hk => e4 k (by omega) (by omega) (by omega) (by omega)), e2, e5, e6, e7, e8⟩
theorem cX {a : ZQ} {U : ZS} (hok : aOK a) (hx : IX a U) : ∃ F' A', f_X10_caseNow U.1 U.2.1 U.2.2 = some (nI (cas a.1 (hs a) (fs a)), F', A', U.2.2) ∧ IX a (F', A', U.2.2) := by
  obtain ⟨F', A', e1, e2, e3, -⟩ := wX hok hx
  unfold f_X10_caseNow
  rw [e1, Option.bind_some]
  exact ⟨F', A', by dsimp only; rw [e3], e2⟩
theorem hM {a : ZQ} {V : ZS} (hok : aOK a) (hm : IM a V) : ∃ F' A', f_X11_hold (V.2.1 15 0) V.1 V.2.1 V.2.2 = some (F', A', V.2.2) ∧ IM a (F', A', V.2.2) ∧ F' 9 = nI (cas a.1 (hs a) (fs a)) ∧ (∀ j, j < nS a.1 → A' 17 j = nI (hld a.1 (hs a) (fs a) j)) := by
  have e0 : V.2.1 15 0 = nI (fs a) := hm.2.1.1
  rw [e0]
  obtain ⟨F', A', e1, e2, e3, e4, e5⟩ := m_hold hok.1 (F := V.1) (T := V.2.2) (hs_lt hok) (fs_lt hok) hm.1 hm.2.1.2.1
  exact ⟨F', A', e1, hm.sc (fun k hk => e3 k (by omega)) (fun k hk => e4 k (by omega)), e2, e5⟩
theorem wM {a : ZQ} {V : ZS} (hok : aOK a) (hm : IM a V) : ∃ F' A', f_X11_asNow V.1 V.2.1 V.2.2 = some (F', A', V.2.2) ∧ IM a (F', A', V.2.2) ∧ F' 9 = nI (cas a.1 (hs a) (fs a)) ∧ (∀ j, j < nS a.1 → A' 17 j = nI (hld a.1 (hs a) (fs a) j)) ∧ (∀ j, j < nS a.1 → A' 18 j = nI (srv a.1 (hs a) (fs a) (ds a) j)) := by
  obtain ⟨F', A', e1, e2, e3, e4, e5, e6⟩ := m_asNow hok.1 (F := V.1) (T := V.2.2) (hs_lt hok) (fs_lt hok) (ds_le hok) hm.1 hm.2.1.1 hm.2.1.2.1 hm.2.1.2.2.1
  exact ⟨F', A', e1, hm.sc (fun k hk => e3 k (by omega)) (fun k hk => e4 k (by omega) (by omega)), e2, e5, e6⟩
theorem cM {a : ZQ} {V : ZS} (hok : aOK a) (hm : IM a V) : ∃ F' A', f_X11_theCase V.1 V.2.1 V.2.2 = some (nI (cas a.1 (hs a) (fs a)), F', A', V.2.2) ∧ IM a (F', A', V.2.2) := by
  obtain ⟨F', A', e1, e2, e3, -⟩ := hM hok hm
  unfold f_X11_theCase
  rw [cl0, e1, Option.bind_some]
  exact ⟨F', A', by dsimp only; rw [e3], e2⟩
theorem p_suspect : st_suspect Rel := by
  rintro a0 a1 U V ⟨a, hok, hx, hm⟩
  have hS := hok.1.1.1
  unfold f_X10_suspect f_X11_suspect f_X10_isSuspect f_X11_isSuspect
  simp only [in_wi, cl0, hx.1.1.1, hm.1.1.1]
  rcases one_of a0 (n := nS a.1) (by omega) with ⟨e, -⟩ | ⟨e, s, hs', rfl⟩
  · simp only [e, if_true]
    exact ⟨_, _, rfl, rfl, rfl, a, hok, hx, hm⟩
  · obtain ⟨F1, A1, x1, x2, x3, x4, x5, x6, x7⟩ := wX hok hx
    obtain ⟨F2, A2, m1, m2, m3, m4, m5⟩ := wM hok hm
    have g6 : gok (nI s) 6 = true := gok_nI (by omega) (by decide)
    have g12 : gok (nI s) 12 = true := gok_nI (by omega) (by decide)
    have t1 := x2.1.2.1 s hs'
    have t2 := m2.1.2.1 s hs'
    have hh : f_X11_hoursOf (nI s) F2 A2 V.2.2 = some (nI (hrs a.1 (hs a) s)) := m_hours hok.1 m2.1 (hs_lt hok) m2.2.1.2.1 (by omega)
    simp only [e, one0, if_false, x1, m1, Option.bind_some, g6, g12, if_true, nI_clamp (show s < 2 ^ 31 by omega), x5 s hs', x6 s hs', x7 s hs', m4 s hs', m5 s hs', hh]
    rcases two_of a1 (n := 3) (by decide) with ⟨e2, n2⟩ | ⟨e2, c, hc, rfl⟩
    · have k0 : ¬ a1 = 0 := fun q => n2 ⟨0, by omega, q⟩
      have k1 : ¬ a1 = 1 := fun q => n2 ⟨1, by omega, q⟩
      have k2 : ¬ a1 = 2 := fun q => n2 ⟨2, by omega, q⟩
      have k3 : ¬ a1 = 3 := fun q => n2 ⟨3, by omega, q⟩
      simp only [show (3 : Int32) = nI 3 from rfl, e2, if_true]
      simp only [show nI 3 = (3 : Int32) from rfl, k0, k1, k2, k3, if_false]
      exact ⟨_, _, rfl, rfl, rfl, a, hok, hx, m2⟩
    · simp only [show (3 : Int32) = nI 3 from rfl, e2, one0, if_false]
      rcases (show c = 0 ∨ c = 1 ∨ c = 2 ∨ c = 3 by omega) with rfl | rfl | rfl | rfl
      · refine ⟨_, _, rfl, rfl, ?_, a, hok, x2, m2⟩
        show A1 29 s = A2 3 s
        rw [show A1 29 s = nI (gr a.1 s) from t1, show A2 3 s = nI (gr a.1 s) from t2]
      · exact ⟨_, _, rfl, rfl, rfl, a, hok, x2, m2⟩
      · exact ⟨_, _, rfl, rfl, rfl, a, hok, x2, m2⟩
      · exact ⟨_, _, rfl, rfl, rfl, a, hok, x2, m2⟩
/-! sums of what is served -/
def sal (a : ZQ) : Nat := fb_sm (srv a.1 (hs a) (fs a) (ds a)) (nS a.1)
theorem sal_le {a : ZQ} (hok : aOK a) {k : Nat} (hk : k ≤ nS a.1) : fb_sm (srv a.1 (hs a) (fs a) (ds a)) k ≤ 396 := by
  have hS := hok.1.1.1
  have hd := ds_le hok
  have := fb_sm_bound (f := srv a.1 (hs a) (fs a) (ds a)) (c := 66) (n := k) (fun j hj => by
    have := srv_le hok.1 (hd := hs a) (set := fs a) (D := ds a) (show j < nS a.1 by omega)
    omega)
  omega
theorem x_all {a : ZQ} (hok : aOK a) {F : ZF} {A : ZA} {T : Int64} (h9 : F 9 = nI (nS a.1)) (h15 : ∀ j, j < nS a.1 → A 15 j = nI (srv a.1 (hs a) (fs a) (ds a) j)) : f_X5_allServe F A T = some (nI (sal a)) := by
  have hS := hok.1.1.1
  have key : ∀ (m k n : Nat), k + m = nS a.1 → m < n → f_X5_allServe_4 F A T n (nI (fb_sm (srv a.1 (hs a) (fs a) (ds a)) k)) (nI k) = some (nI (sal a)) := by
    intro m
    induction m with
    | zero =>
      intro k n hk hn
      obtain ⟨n, rfl⟩ : ∃ n', n = n' + 1 := ⟨n - 1, by omega⟩
      rw [f_X5_allServe_4_s]
      have c1 : F 9 ≤ nI k := by rw [h9]; exact nI_le (by omega) (by omega)
      have e : k = nS a.1 := by omega
      simp only [c1, if_true]
      rw [e]; rfl
    | succ m ih =>
      intro k n hk hn
      obtain ⟨n, rfl⟩ : ∃ n', n = n' + 1 := ⟨n - 1, by omega⟩
      rw [f_X5_allServe_4_s]
      have c1 : ¬ F 9 ≤ nI k := by rw [h9]; exact nI_ge (by omega) (by omega)
      have g : gok (nI k) 6 = true := gok_nI (by omega) (by decide)
      simp only [c1, if_false, g, if_true, nI_clamp (show k < 2 ^ 31 by omega), h15 k (by omega), nI_add, nI_1]
      exact ih (k + 1) n (by omega) (by omega)
  have := key (nS a.1) 0 1000 (by omega) (by omega)
  exact this
theorem m_all8 {a : ZQ} (hok : aOK a) {F : ZF} {A : ZA} {T : Int64} (hm : TM a.1 A) (h18 : ∀ j, j < nS a.1 → A 18 j = nI (srv a.1 (hs a) (fs a) (ds a) j)) : f_X11_allServe_8 1000 0 0 F A T = some (nI (sal a), F, A, T) := by
  have hS := hok.1.1.1
  have key : ∀ (m k n : Nat), k + m = nS a.1 → m < n → f_X11_allServe_8 n (nI (fb_sm (srv a.1 (hs a) (fs a) (ds a)) k)) (nI k) F A T = some (nI (sal a), F, A, T) := by
    intro m
    induction m with
    | zero =>
      intro k n hk hn
      obtain ⟨n, rfl⟩ : ∃ n', n = n' + 1 := ⟨n - 1, by omega⟩
      rw [f_X11_allServe_8_s]
      have c1 : A 2 0 ≤ nI k := by rw [hm.1.1]; exact nI_le (by omega) (by omega)
      have e : k = nS a.1 := by omega
      simp only [cl0, c1, if_true]
      rw [e]; rfl
    | succ m ih =>
      intro k n hk hn
      obtain ⟨n, rfl⟩ : ∃ n', n = n' + 1 := ⟨n - 1, by omega⟩
      rw [f_X11_allServe_8_s]
      have c1 : ¬ A 2 0 ≤ nI k := by rw [hm.1.1]; exact nI_ge (by omega) (by omega)
      have g : gok (nI k) 6 = true := gok_nI (by omega) (by decide)
      simp only [cl0, c1, if_false, g, if_true, nI_clamp (show k < 2 ^ 31 by omega), h18 k (by omega), nI_add, nI_1]
      exact ih (k + 1) n (by omega) (by omega)
  have := key (nS a.1) 0 1000 (by omega) (by omega)
  exact this
theorem aM {a : ZQ} {V : ZS} (hok : aOK a) (hm : IM a V) : ∃ F' A', f_X11_allServe V.1 V.2.1 V.2.2 = some (nI (sal a), F', A', V.2.2) ∧ IM a (F', A', V.2.2) ∧ (∀ j, j < nS a.1 → A' 18 j = nI (srv a.1 (hs a) (fs a) (ds a) j)) := by
  obtain ⟨F', A', e1, e2, e3, e4, e5⟩ := wM hok hm
  unfold f_X11_allServe
  rw [e1, Option.bind_some]
  exact ⟨F', A', m_all8 hok e2.1 e5, e2, e5⟩
theorem p_now : st_now Rel := by
  rintro a0 U V ⟨a, hok, hx, hm⟩
  unfold f_X10_now f_X11_now
  rw [cl0, cl1, cl2]
  by_cases h0 : a0 = 0
  · obtain ⟨F1, A1, x1, x2⟩ := cX hok hx
    obtain ⟨F2, A2, m1, m2⟩ := cM hok hm
    simp only [h0, if_true, x1, m1, Option.bind_some]
    exact ⟨_, _, rfl, rfl, rfl, a, hok, x2, m2⟩
  · by_cases h1 : a0 = 1
    · simp only [h0, if_false, h1, if_true, one0]
      exact ⟨_, _, rfl, rfl, (hx.2.1.1).trans (show V.2.1 15 0 = nI (fs a) from hm.2.1.1).symm, a, hok, hx, hm⟩
    · by_cases h2 : a0 = 2
      · simp only [h0, h1, if_false]
        rw [if_pos h2, if_pos h2]
        exact ⟨_, _, rfl, rfl, (hx.2.1.2.1).trans (show V.2.1 15 1 = nI (hs a) from hm.2.1.2.1).symm, a, hok, hx, hm⟩
      · by_cases h3 : a0 = 3
        · simp only [h0, h1, h2, if_false]
          rw [if_pos h3, if_pos h3]
          exact ⟨_, _, rfl, rfl, (hx.2.1.2.2.1).trans (show V.2.1 15 2 = nI (ds a) from hm.2.1.2.2.1).symm, a, hok, hx, hm⟩
        · by_cases h4 : a0 = 4
          · simp only [h0, h1, h2, h3, if_false]
            rw [if_pos h4, if_pos h4]
            obtain ⟨F1, A1, x1, x2, x3, x4, x5, x6, x7⟩ := wX hok hx
            obtain ⟨F2, A2, m1, m2, m3⟩ := aM hok hm
            simp only [x1, m1, Option.bind_some, x_all hok (T := U.2.2) x4 x6]
            exact ⟨_, _, rfl, rfl, rfl, a, hok, x2, m2⟩
          · simp only [h0, h1, h2, h3, h4, if_false]
            exact ⟨_, _, rfl, rfl, rfl, a, hok, hx, hm⟩
