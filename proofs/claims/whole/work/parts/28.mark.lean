/-! suspects by kinds -/
def setT (a : ZQ) (t : Int64) : ZQ := (a.1, a.2.1, a.2.2.1, a.2.2.2.1, a.2.2.2.2.1, t)
theorem aOK.t {a : ZQ} (h : aOK a) (t : Int64) : aOK (setT a t) := h
theorem IX.t {a : ZQ} {F : ZF} {A : ZA} {T : Int64} (h : IX a (F, A, T)) (t : Int64) : IX (setT a t) (F, A, t) := ⟨h.1, h.2.1, h.2.2.1, h.2.2.2.1, h.2.2.2.2.1, rfl⟩
theorem IM.t {a : ZQ} {F : ZF} {A : ZA} {T : Int64} (h : IM a (F, A, T)) (t : Int64) : IM (setT a t) (F, A, t) := ⟨h.1, h.2.1, h.2.2.1, h.2.2.2.1, h.2.2.2.2.1, rfl⟩
def own (d : ZD) (s k : Nat) : Nat := fb_ct (fun i => decide (wh d i = s)) k
theorem own_y {d : ZD} {s k : Nat} (h : wh d k = s) : own d s (k + 1) = own d s k + 1 := by unfold own; rw [fb_ct_succ, if_pos (by simp [h])]
theorem own_n {d : ZD} {s k : Nat} (h : ¬ wh d k = s) : own d s (k + 1) = own d s k := by unfold own; rw [fb_ct_succ, if_neg (by simp [h])]; rfl
theorem x_mk25 {d : ZD} (hd0 : dOK d) {s h : Nat} (hs : s < nS d) {F : ZF} {A : ZA} {T : Int64} (hx : TX d F A) (h14 : A 14 s = nI h) : ∀ (m k n : Nat), k + m = nA d → m < n → f_X9_markOf_25_0_17 n (nI s) (nI (own d s k)) (nI k) F A T = some (nI h - nI (own d s (nA d)), F, A, T + 1) := by
  have hN := hd0.1.2.2.1
  have hS := hd0.1.1
  intro m
  induction m with
  | zero =>
    intro k n hk hn
    obtain ⟨n, rfl⟩ : ∃ n', n = n' + 1 := ⟨n - 1, by omega⟩
    have e : k = nA d := by omega
    subst e
    rw [f_X9_markOf_25_0_17_s, hx.1.2.2.1, if_pos (nI_le (by omega) (by omega))]
    unfold f_X0_markOf_25_0
    rw [if_pos (gok_nI (by omega) (by decide)), nI_clamp (by omega), h14, Option.bind_some]
  | succ m ih =>
    intro k n hk hn
    obtain ⟨n, rfl⟩ : ∃ n', n = n' + 1 := ⟨n - 1, by omega⟩
    have i := ih (k + 1) n (by omega) (by omega)
    have hw := (hd0.2.2.2.2 k (by omega)).1
    rw [f_X9_markOf_25_0_17_s, hx.1.2.2.1, if_neg (nI_ge (by omega) (by omega)), if_pos (gok_nI (by omega) (by decide)), nI_clamp (by omega), (hx.2.2.2.2 k (by omega)).1, nI_1, nI_1]
    by_cases c : wh d k = s
    · rw [if_pos (by rw [c]), ← own_y c]; exact i
    · rw [if_neg (fun e => c ((nI_eq (by omega) (by omega)).mp e)), ← own_n c]; exact i

theorem x_mk27 {d : ZD} (hd0 : dOK d) {s h : Nat} (hs : s < nS d) {F : ZF} {A : ZA} {T : Int64} (hx : TX d F A) (h14 : A 14 s = nI h) : ∀ (m k n : Nat), k + m = nA d → m < n → f_X9_markOf_27_0_17 n (nI s) (nI (own d s k)) (nI k) F A T = some (nI h - nI (own d s (nA d)), F, A, T + 1) := by
  have hN := hd0.1.2.2.1
  have hS := hd0.1.1
  intro m
  induction m with
  | zero =>
    intro k n hk hn
    obtain ⟨n, rfl⟩ : ∃ n', n = n' + 1 := ⟨n - 1, by omega⟩
    have e : k = nA d := by omega
    subst e
    rw [f_X9_markOf_27_0_17_s, hx.1.2.2.1, if_pos (nI_le (by omega) (by omega))]
    unfold f_X0_markOf_27_0
    rw [if_pos (gok_nI (by omega) (by decide)), nI_clamp (by omega), h14, Option.bind_some]
  | succ m ih =>
    intro k n hk hn
    obtain ⟨n, rfl⟩ : ∃ n', n = n' + 1 := ⟨n - 1, by omega⟩
    have i := ih (k + 1) n (by omega) (by omega)
    have hw := (hd0.2.2.2.2 k (by omega)).1
    rw [f_X9_markOf_27_0_17_s, hx.1.2.2.1, if_neg (nI_ge (by omega) (by omega)), if_pos (gok_nI (by omega) (by decide)), nI_clamp (by omega), (hx.2.2.2.2 k (by omega)).1, nI_1, nI_1]
    by_cases c : wh d k = s
    · rw [if_pos (by rw [c]), ← own_y c]; exact i
    · rw [if_neg (fun e => c ((nI_eq (by omega) (by omega)).mp e)), ← own_n c]; exact i

theorem m_mk {d : ZD} (hd0 : dOK d) {s : Nat} (hs : s < nS d) {x1 x3 : Int32} {F : ZF} {A : ZA} {T : Int64} (hm : TM d A) : ∀ (m k n : Nat), k + m = nA d → m < n → f_X11_mark_38 n x1 (nI s) x3 (nI (own d s k)) (nI k) F A T = (if x1 = (0 : Int32) then (some (x3, F, A, (T + (1 : Int64)))) else (if x1 = (1 : Int32) then (some ((x3 + nI (gr d s)), F, A, (T + (11 : Int64)))) else (if x1 = (2 : Int32) then (some ((x3 - nI (own d s (nA d))), F, A, (T + (101 : Int64)))) else (if x1 = (3 : Int32) then (some (((2 : Int32) * (x3 + nI (gr d s))), F, A, (T + (1011 : Int64)))) else (if x1 = (4 : Int32) then (some (((x3 - nI (own d s (nA d))) + nI s), F, A, (T + (10101 : Int64)))) else (Option.bind (f_X11_manyOf (A 15 0)) fun q17 => (some ((x3 + q17), F, A, (T + (100001 : Int64)))))))))) := by
  have hN := hd0.1.2.2.1
  have hS := hd0.1.1
  intro m
  induction m with
  | zero =>
    intro k n hk hn
    obtain ⟨n, rfl⟩ : ∃ n', n = n' + 1 := ⟨n - 1, by omega⟩
    have e : k = nA d := by omega
    subst e
    have g : gok (nI s) 12 = true := gok_nI (by omega) (by decide)
    rw [f_X11_mark_38_s, cl0, hm.1.2.2.1, if_pos (nI_le (by omega) (by omega)), if_pos g, if_pos g, nI_clamp (by omega), hm.2.1 s hs]
  | succ m ih =>
    intro k n hk hn
    obtain ⟨n, rfl⟩ : ∃ n', n = n' + 1 := ⟨n - 1, by omega⟩
    have i := ih (k + 1) n (by omega) (by omega)
    have hw := (hd0.2.2.2.2 k (by omega)).1
    rw [f_X11_mark_38_s, cl0, hm.1.2.2.1, if_neg (nI_ge (by omega) (by omega)), if_pos (gok_nI (by omega) (by decide)), nI_clamp (by omega), (hm.2.2.2.2 k (by omega)).1]
    unfold f_X11_mark_67
    rw [nI_1, nI_1]
    by_cases c : wh d k = s
    · rw [if_pos (by rw [c]), ← own_y c]; exact i
    · rw [if_neg (fun e => c ((nI_eq (by omega) (by omega)).mp e)), show (0 : Int32) = nI 0 from rfl, nI_add, Nat.add_zero, ← own_n c]; exact i
theorem addT (T a b c : Int64) (h : a + b = c) : T + a + b = T + c := by rw [Int64.add_assoc, h]
theorem p_mark : st_mark Rel := by
  rintro a0 a1 U V ⟨a, hok, hx, hm⟩
  have hS := hok.1.1.1
  have hN := hok.1.1.2.2.1
  have n1 : ¬ (1 : Int32) = 0 := by decide
  unfold f_X10_mark f_X11_mark f_X10_isSuspect f_X11_isSuspect
  rw [in_wi, in_wi, cl0, hx.1.1.1, hm.1.1.1, show (6 : Int32) - 1 = 5 from by decide]
  rcases two_of a0 (n := 5) (by decide) with ⟨e, -⟩ | ⟨e, c, hc, rfl⟩
  · have e : f_X10_within a0 (0 : Int32) (5 : Int32) = 0 := e
    rw [e, if_pos rfl, if_pos rfl]
    exact ⟨_, _, rfl, rfl, rfl, a, hok, hx, hm⟩
  · have e : f_X10_within (nI c) (0 : Int32) (5 : Int32) = 1 := e
    rw [e, if_neg n1, if_neg n1]
    rcases one_of a1 (n := nS a.1) (by omega) with ⟨e, -⟩ | ⟨e, s, hs', rfl⟩
    · rw [e, if_pos rfl, if_pos rfl]
      exact ⟨_, _, rfl, rfl, rfl, a, hok, hx, hm⟩
    · obtain ⟨F1, A1, x1, x2, x3, x4, x5, x6, x7⟩ := wX hok hx
      have m0 : V.2.1 15 0 = nI (fs a) := hm.2.1.1
      have hb : f_X11_heldBy (nI s) (nI (fs a)) V.1 V.2.1 V.2.2 = some (nI (hld a.1 (hs a) (fs a) s)) := m_heldBy hok.1 hm.1 (hs_lt hok) hm.2.1.2.1 (fs_lt hok) hs'
      have mk := m_mk hok.1 hs' (x1 := nI c) (x3 := nI (hld a.1 (hs a) (fs a) s)) (F := V.1) (T := V.2.2) hm.1 (nA a.1) 0 1000 (by omega) (by omega)
      have mk : f_X11_mark_38 1000 (nI c) (nI s) (nI (hld a.1 (hs a) (fs a) s)) (0 : Int32) (0 : Int32) V.1 V.2.1 V.2.2 = _ := mk
      rw [m0, m_many (fs_lt hok), Option.bind_some] at mk
      rw [e, if_neg n1, if_neg n1, x1, Option.bind_some, m0, hb, Option.bind_some, mk]
      dsimp only
      have g6 : gok (nI s) 6 = true := gok_nI (by omega) (by decide)
      have cs : s < 2 ^ 31 := by omega
      have h14 := x5 s hs'
      have h29 : A1 29 s = nI (gr a.1 s) := x2.1.2.1 s hs'
      have h10 : F1 10 = nI (fs a) := x2.2.1.1
      have hT : U.2.2 = V.2.2 := by rw [hx.2.2.2.2.2, hm.2.2.2.2.2]
      have mm : IM a (V.1, V.2.1, V.2.2) := hm
      rcases (show c = 0 ∨ c = 1 ∨ c = 2 ∨ c = 3 ∨ c = 4 ∨ c = 5 by omega) with rfl | rfl | rfl | rfl | rfl | rfl
      · rw [if_pos (show nI 0 = (0 : Int32) from rfl), if_pos (show nI 0 = (0 : Int32) from rfl)]
        unfold f_X0_markOf_23_0
        rw [if_pos g6, nI_clamp cs, h14, Option.bind_some, hT]
        exact ⟨_, _, rfl, rfl, rfl, setT a (V.2.2 + 1), hok.t _, x2.t _, mm.t _⟩
      · rw [if_neg (show ¬ nI 1 = (0 : Int32) by decide), if_pos (show nI 1 = (1 : Int32) from rfl), if_neg (show ¬ nI 1 = (0 : Int32) by decide), if_pos (show nI 1 = (1 : Int32) from rfl)]
        unfold f_X8_markOf_24_0 f_X0_markOf_24_0
        rw [if_pos g6, nI_clamp cs, h14, Option.bind_some, if_pos g6]
        dsimp only
        rw [h29, Option.bind_some, addT _ 10 1 11 (by decide), hT]
        exact ⟨_, _, rfl, rfl, rfl, setT a (V.2.2 + 11), hok.t _, x2.t _, mm.t _⟩
      · rw [if_neg (show ¬ nI 2 = (0 : Int32) by decide), if_neg (show ¬ nI 2 = (1 : Int32) by decide), if_pos (show nI 2 = (2 : Int32) from rfl), if_neg (show ¬ nI 2 = (0 : Int32) by decide), if_neg (show ¬ nI 2 = (1 : Int32) by decide), if_pos (show nI 2 = (2 : Int32) from rfl)]
        have mx := x_mk25 hok.1 hs' (T := U.2.2 + 100) x2.1 h14 (nA a.1) 0 1000 (by omega) (by omega)
        have mx : f_X9_markOf_25_0 (nI s) F1 A1 U.2.2 = _ := mx
        rw [mx, Option.bind_some, addT _ 100 1 101 (by decide), hT]
        exact ⟨_, _, rfl, rfl, rfl, setT a (V.2.2 + 101), hok.t _, x2.t _, mm.t _⟩
      · rw [if_neg (show ¬ nI 3 = (0 : Int32) by decide), if_neg (show ¬ nI 3 = (1 : Int32) by decide), if_neg (show ¬ nI 3 = (2 : Int32) by decide), if_pos (show nI 3 = (3 : Int32) from rfl), if_neg (show ¬ nI 3 = (0 : Int32) by decide), if_neg (show ¬ nI 3 = (1 : Int32) by decide), if_neg (show ¬ nI 3 = (2 : Int32) by decide), if_pos (show nI 3 = (3 : Int32) from rfl)]
        unfold f_X2_markOf_26_0 f_X8_markOf_26_0 f_X0_markOf_26_0
        rw [if_pos g6, nI_clamp cs, h14, Option.bind_some, if_pos g6]
        dsimp only
        rw [h29, Option.bind_some]
        dsimp only
        rw [Option.bind_some, addT _ 1000 10 1010 (by decide), addT _ 1010 1 1011 (by decide), hT, Int32.mul_comm]
        exact ⟨_, _, rfl, rfl, rfl, setT a (V.2.2 + 1011), hok.t _, x2.t _, mm.t _⟩
      · rw [if_neg (show ¬ nI 4 = (0 : Int32) by decide), if_neg (show ¬ nI 4 = (1 : Int32) by decide), if_neg (show ¬ nI 4 = (2 : Int32) by decide), if_neg (show ¬ nI 4 = (3 : Int32) by decide), if_pos (show nI 4 = (4 : Int32) from rfl), if_neg (show ¬ nI 4 = (0 : Int32) by decide), if_neg (show ¬ nI 4 = (1 : Int32) by decide), if_neg (show ¬ nI 4 = (2 : Int32) by decide), if_neg (show ¬ nI 4 = (3 : Int32) by decide), if_pos (show nI 4 = (4 : Int32) from rfl)]
        have mx := x_mk27 hok.1 hs' (T := U.2.2 + 10000 + 100) x2.1 h14 (nA a.1) 0 1000 (by omega) (by omega)
        have mx : f_X9_markOf_27_0 (nI s) F1 A1 (U.2.2 + 10000) = _ := mx
        unfold f_X3_markOf_27_0
        rw [mx, Option.bind_some, Option.bind_some, addT _ 10000 100 10100 (by decide), addT _ 10100 1 10101 (by decide), hT]
        exact ⟨_, _, rfl, rfl, rfl, setT a (V.2.2 + 10101), hok.t _, x2.t _, mm.t _⟩
      · rw [if_neg (show ¬ nI 5 = (0 : Int32) by decide), if_neg (show ¬ nI 5 = (1 : Int32) by decide), if_neg (show ¬ nI 5 = (2 : Int32) by decide), if_neg (show ¬ nI 5 = (3 : Int32) by decide), if_neg (show ¬ nI 5 = (4 : Int32) by decide), if_pos (show nI 5 = (5 : Int32) from rfl), if_neg (show ¬ nI 5 = (0 : Int32) by decide), if_neg (show ¬ nI 5 = (1 : Int32) by decide), if_neg (show ¬ nI 5 = (2 : Int32) by decide), if_neg (show ¬ nI 5 = (3 : Int32) by decide), if_neg (show ¬ nI 5 = (4 : Int32) by decide)]
        unfold f_X4_markOf_28_0 f_X0_markOf_28_0
        rw [if_pos g6, nI_clamp cs, h14, Option.bind_some]
        dsimp only
        rw [h10, bc_pop (fs_lt hok), Option.bind_some, addT _ 100000 1 100001 (by decide), hT]
        exact ⟨_, _, rfl, rfl, rfl, setT a (V.2.2 + 100001), hok.t _, x2.t _, mm.t _⟩
