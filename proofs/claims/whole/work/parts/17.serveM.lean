/-! days by shares: the reference's side -/
theorem bst_succ (r : Nat → Int) (k : Nat) : bst r (k + 1) = if r (k + 1) ≤ r (bst r k) then bst r k else k + 1 := rfl
theorem rr_had {rs : Nat → Nat} {had j : Nat} (h : had.testBit j = true) : rr rs had j = -1 := by simp [rr, h]
theorem rr_free {rs : Nat → Nat} {had j : Nat} (h : ¬ had.testBit j = true) : rr rs had j = (rs j : Int) := by simp [rr, h]
def bInv (rs : Nat → Nat) (had k : Nat) (x3 : Int32) : Prop := (x3 = -9 ∧ ∀ j, j < k → had.testBit j = true) ∨ (0 < k ∧ x3 = nI (bst (rr rs had) (k - 1)) ∧ ¬ had.testBit (bst (rr rs had) (k - 1)) = true)
theorem bInv_had {rs : Nat → Nat} {had k : Nat} {x3 : Int32} (h : bInv rs had k x3) (hk : had.testBit k = true) : bInv rs had (k + 1) x3 := by
  rcases h with ⟨h1, h2⟩ | ⟨h1, h2, h3⟩
  · left
    refine ⟨h1, fun j hj => ?_⟩
    rcases Nat.lt_or_ge j k with q | q
    · exact h2 j q
    · have : j = k := by omega
      subst this; exact hk
  · right
    obtain ⟨k', rfl⟩ : ∃ k', k = k' + 1 := ⟨k - 1, by omega⟩
    have e : bst (rr rs had) (k' + 1) = bst (rr rs had) k' := by
      rw [bst_succ, if_pos]
      rw [rr_had hk]
      have h3' : ¬ had.testBit (bst (rr rs had) k') = true := h3
      rw [rr_free h3']
      omega
    refine ⟨by omega, ?_, ?_⟩
    · show x3 = nI (bst (rr rs had) (k' + 1))
      rw [e]; exact h2
    · show ¬ had.testBit (bst (rr rs had) (k' + 1)) = true
      rw [e]; exact h3
theorem bInv_first {rs : Nat → Nat} {had k : Nat} (h : ∀ j, j < k → had.testBit j = true) (hk : ¬ had.testBit k = true) : bInv rs had (k + 1) (nI k) := by
  right
  have e : bst (rr rs had) k = k := by
    cases k with
    | zero => rfl
    | succ k' =>
      rw [bst_succ, if_neg]
      have hb := bst_le (rr rs had) k'
      rw [rr_free hk, rr_had (h _ (by omega))]
      omega
  refine ⟨by omega, ?_, ?_⟩
  · show nI k = nI (bst (rr rs had) k)
    rw [e]
  · show ¬ had.testBit (bst (rr rs had) k) = true
    rw [e]; exact hk
theorem m_s92 {d : ZD} (hd0 : dOK d) {hd set D had : Nat} (hD : D ≤ 60) (hC : 0 < cas d hd set) (hhad : had < 64) {F : ZF} {A : ZA} {T : Int64} (hm : TM d A) (h9 : F 9 = nI (cas d hd set)) (h15 : A 15 2 = nI D) (h17 : ∀ j, j < nS d → A 17 j = nI (hld d hd set j)) (hfree : ∃ j, j < nS d ∧ ¬ had.testBit j = true) (K : Int32 → Int32 → ZF → ZA → Int64 → Option ZS) (x1 : Int32) :
    ∀ (m k n : Nat) (x3 : Int32), k + m = nS d → m < n → bInv (rsd d hd set D) had k x3 → f_X11_serve_92 K n x1 (nI had) x3 (nI k) F A T = K (x1 + (-1)) (nI (had ||| 2 ^ bst (rr (rsd d hd set D) had) (nS d - 1))) F (zst A 18 (bst (rr (rsd d hd set D) had) (nS d - 1)) (A 18 (bst (rr (rsd d hd set D) had) (nS d - 1)) + 1)) T := by
  have hS := hd0.1.1
  have hCl := cas_le hd0 hd set
  have c0 : ¬ nI (cas d hd set) = 0 := nI_ne0 hC (by omega)
  have er : ∀ j, j < nS d → nI (D * hld d hd set j) - nI (D * hld d hd set j) / nI (cas d hd set) * nI (cas d hd set) = nI (rsd d hd set D j) := fun j hj => by
    have hb := hld_le hd0 hd set hj
    exact pk_rem (Nat.lt_of_le_of_lt (Nat.mul_le_mul hD hb) (by decide)) hC (by omega)
  have rl : ∀ j, rsd d hd set D j < 600 := fun j => by
    have : rsd d hd set D j < cas d hd set := Nat.mod_lt _ hC
    omega
  intro m
  induction m with
  | zero =>
    intro k n x3 hk hn inv
    obtain ⟨n, rfl⟩ : ∃ n', n = n' + 1 := ⟨n - 1, by omega⟩
    have e : k = nS d := by omega
    subst e
    rw [f_X11_serve_92_s]
    have c1 : A 2 0 ≤ nI (nS d) := by rw [hm.1.1]; exact nI_le (by omega) (by omega)
    rcases inv with ⟨-, h2⟩ | ⟨h1, rfl, h3⟩
    · obtain ⟨j, hj, hf⟩ := hfree
      exact absurd (h2 j hj) hf
    · have hb := bst_le (rr (rsd d hd set D) had) (nS d - 1)
      have g : gok (nI (bst (rr (rsd d hd set D) had) (nS d - 1))) 6 = true := gok_nI (by omega) (by decide)
      simp only [cl0, c1, if_true, g, nI_clamp (show bst (rr (rsd d hd set D) had) (nS d - 1) < 2 ^ 31 by omega), shl1 (show bst (rr (rsd d hd set D) had) (nS d - 1) < 31 by omega), fa_or]
  | succ m ih =>
    intro k n x3 hk hn inv
    obtain ⟨n, rfl⟩ : ∃ n', n = n' + 1 := ⟨n - 1, by omega⟩
    rw [f_X11_serve_92_s]
    have c1 : ¬ A 2 0 ≤ nI k := by rw [hm.1.1]; exact nI_ge (by omega) (by omega)
    have g : gok (nI k) 6 = true := gok_nI (by omega) (by decide)
    simp only [cl0, c1, if_false, bit_nI (show had < 2 ^ 31 by omega) (show k < 32 by omega), ite00, f_X11_serve_117, one0, if_true, nI_1]
    by_cases b : had.testBit k = true
    · rw [if_neg (by rw [b]; decide)]
      exact ih (k + 1) n x3 (by omega) (by omega) (bInv_had inv b)
    · rw [if_pos (by simpa using b)]
      rcases inv with ⟨rfl, h2⟩ | ⟨h1, rfl, h3⟩
      · rw [if_pos rfl]
        exact ih (k + 1) n (nI k) (by omega) (by omega) (bInv_first h2 b)
      · obtain ⟨k', rfl⟩ : ∃ k', k = k' + 1 := ⟨k - 1, by omega⟩
        have hb := bst_le (rr (rsd d hd set D) had) k'
        have h3' : ¬ had.testBit (bst (rr (rsd d hd set D) had) k') = true := h3
        rw [show k' + 1 - 1 = k' from rfl]
        have g2 : gok (nI (bst (rr (rsd d hd set D) had) k')) 6 = true := gok_nI (by omega) (by decide)
        have n9 : ¬ nI (bst (rr (rsd d hd set D) had) k') = -9 := by
          intro q
          have := congrArg Int32.toInt q
          rw [nI_toInt (by omega)] at this
          have e9 : (-9 : Int32).toInt = -9 := by decide
          omega
        simp only [n9, if_false, g, g2, if_true, h9, c0, cl2, h15, nI_clamp (show k' + 1 < 2 ^ 31 by omega), nI_clamp (show bst (rr (rsd d hd set D) had) k' < 2 ^ 31 by omega), h17 _ (show k' + 1 < nS d by omega), h17 _ (show bst (rr (rsd d hd set D) had) k' < nS d by omega)]
        rw [pk_mul, pk_mul, er _ (by omega), er _ (by omega)]
        have r1 := rl (k' + 1)
        have r2 := rl (bst (rr (rsd d hd set D) had) k')
        have st := bst_succ (rr (rsd d hd set D) had) k'
        rw [rr_free b, rr_free h3'] at st
        by_cases c : rsd d hd set D (k' + 1) ≤ rsd d hd set D (bst (rr (rsd d hd set D) had) k')
        · rw [if_pos (nI_le c (by omega))]
          rw [if_pos (by omega)] at st
          exact ih (k' + 1 + 1) n _ (by omega) (by omega) (Or.inr ⟨by omega, by show _ = nI (bst (rr (rsd d hd set D) had) (k' + 1)); rw [st], by show ¬ had.testBit (bst (rr (rsd d hd set D) had) (k' + 1)) = true; rw [st]; exact h3'⟩)
        · rw [if_neg (fun q => c ((nI_leI (by omega) (by omega)).mp q))]
          rw [if_neg (by omega)] at st
          exact ih (k' + 1 + 1) n _ (by omega) (by omega) (Or.inr ⟨by omega, by show _ = nI (bst (rr (rsd d hd set D) had) (k' + 1)); rw [st], by show ¬ had.testBit (bst (rr (rsd d hd set D) had) (k' + 1)) = true; rw [st]; exact b⟩)
theorem free_of {had n : Nat} (h : fb_ct (fun i => had.testBit i) n < n) : ∃ j, j < n ∧ ¬ had.testBit j = true := by
  refine Classical.byContradiction fun q => ?_
  have : fb_ct (fun i => had.testBit i) n = n := fb_ct_all.mpr (fun k hk => Classical.byContradiction fun z => q ⟨k, hk, z⟩)
  omega
theorem ct_or (had b n : Nat) : fb_ct (fun i => (had ||| 2 ^ b).testBit i) n ≤ fb_ct (fun i => had.testBit i) n + 1 := by
  have e : (fun i => (had ||| 2 ^ b).testBit i) = (fun k => if k = b then true else had.testBit k) := by
    funext i
    rw [fb_bit_set]
    by_cases h : i = b
    · simp [h]
    · simp [h]
  rw [e]
  rcases Nat.lt_or_ge b n with q | q
  · have := fb_ct_upd (fun k => had.testBit k) true q
    simp only [if_true] at this
    omega
  · rw [fb_ct_out (fun k => had.testBit k) true q]
    omega
theorem m_s82 {d : ZD} (hd0 : dOK d) {hd set D : Nat} (hD : D ≤ 60) (hC : 0 < cas d hd set) {T : Int64} :
    ∀ (m had n : Nat) (sv : Nat → Nat) (F : ZF) (A : ZA), had < 64 → fb_ct (fun i => had.testBit i) (nS d) + m ≤ nS d → TM d A → F 9 = nI (cas d hd set) → A 15 2 = nI D → (∀ j, j < nS d → A 17 j = nI (hld d hd set j)) → (∀ j, j < nS d → A 18 j = nI (sv j)) → m < n → ∃ A', f_X11_serve_82 n (nI m) (nI had) F A T = some (F, A', T) ∧ (∀ k, k ≠ 18 → A' k = A k) ∧ ∀ j, j < nS d → A' 18 j = nI (giv (nS d) (rsd d hd set D) m had sv j) := by
  have hS := hd0.1.1
  intro m
  induction m with
  | zero =>
    intro had n sv F A hhad hct hm h9 h15 h17 h18 hn
    obtain ⟨n, rfl⟩ : ∃ n', n = n' + 1 := ⟨n - 1, by omega⟩
    rw [f_X11_serve_82_s]
    have c2 : nI 0 ≤ 0 := by rw [nI_0]; decide
    simp only [c2, if_true]
    exact ⟨A, rfl, fun _ _ => rfl, h18⟩
  | succ m ih =>
    intro had n sv F A hhad hct hm h9 h15 h17 h18 hn
    obtain ⟨n, rfl⟩ : ∃ n', n = n' + 1 := ⟨n - 1, by omega⟩
    rw [f_X11_serve_82_s]
    have c2 : ¬ nI (m + 1) ≤ 0 := nI_nle (by omega) (by omega)
    simp only [c2, if_false]
    have := m_s92 hd0 hD hC hhad (T := T) hm h9 h15 h17 (free_of (by omega)) (f_X11_serve_82 n) (nI (m + 1)) (nS d) 0 1000 (-9) (by omega) (by omega) (Or.inl ⟨rfl, fun j h => by omega⟩)
    rw [nI_0] at this
    rw [this, pk_m1]
    have hb := bst_le (rr (rsd d hd set D) had) (nS d - 1)
    have hcz := ct_or had (bst (rr (rsd d hd set D) had) (nS d - 1)) (nS d)
    generalize hbe : bst (rr (rsd d hd set D) had) (nS d - 1) = b at hb hcz ⊢
    have hn0 := cas_pos_nS hC
    obtain ⟨A', e1, e2, e3⟩ := ih (had ||| 2 ^ b) n (fun j => if j = b then sv j + 1 else sv j) F (zst A 18 b (A 18 b + 1)) (by
      have h1 : 2 ^ b < 2 ^ 6 := Nat.pow_lt_pow_right (by decide) (by omega)
      exact Nat.or_lt_two_pow (n := 6) hhad h1) (by omega) (hm.fr (fun k h1 h2 => zst_ne (by omega) _ _)) h9 (by rw [zst_ne (by decide)]; exact h15) (fun j hj => by rw [zst_ne (by decide)]; exact h17 j hj) (fun j hj => by
      rw [zst_same]
      by_cases q : j = b
      · subst q; rw [upd_same, if_pos rfl, h18 j hj, nI_1]
      · rw [upd_ne q, if_neg q]; exact h18 j hj) (by omega)
    refine ⟨A', e1, fun k hk => by rw [e2 k hk, zst_ne hk], fun j hj => ?_⟩
    rw [e3 j hj, giv_succ, hbe]
theorem m_s20 {d : ZD} (hd0 : dOK d) {hd set D : Nat} (hD : D ≤ 60) (hC : 0 < cas d hd set) {T : Int64} :
    ∀ (m s n : Nat) (F : ZF) (A : ZA), TM d A → F 9 = nI (cas d hd set) → A 15 2 = nI D → (∀ j, j < nS d → A 17 j = nI (hld d hd set j)) → (∀ j, j < s → A 18 j = nI (bas d hd set D j)) → s + m = nS d → m < n → ∃ A', f_X11_serve_20 n (nI (D - fb_sm (bas d hd set D) s)) (nI s) F A T = some (F, A', T) ∧ (∀ k, k ≠ 18 → A' k = A k) ∧ ∀ j, j < nS d → A' 18 j = nI (srv d hd set D j) := by
  have hS := hd0.1.1
  have hCl := cas_le hd0 hd set
  intro m
  induction m with
  | zero =>
    intro s n F A hm h9 h15 h17 hj hs hn
    obtain ⟨n, rfl⟩ : ∃ n', n = n' + 1 := ⟨n - 1, by omega⟩
    rw [f_X11_serve_20_s]
    have e : s = nS d := by omega
    subst e
    have c1 : A 2 0 ≤ nI (nS d) := by rw [hm.1.1]; exact nI_le (by omega) (by omega)
    simp only [cl0, c1, if_true]
    have hl := lef_lt (D := D) hC
    have z : fb_ct (fun i => (0 : Nat).testBit i) (nS d) = 0 := fb_ct_zero.mpr (fun k _ => by simp)
    obtain ⟨A', e1, e2, e3⟩ := m_s82 hd0 hD hC (T := T) (lef d hd set D) 0 1000 (bas d hd set D) F A (by decide) (by rw [z]; omega) hm h9 h15 h17 hj (by omega)
    rw [nI_0] at e1
    refine ⟨A', e1, e2, fun j hj2 => ?_⟩
    rw [e3 j hj2]
    unfold srv
    rw [if_neg (by omega)]
  | succ m ih =>
    intro s n F A hm h9 h15 h17 hj hs hn
    obtain ⟨n, rfl⟩ : ∃ n', n = n' + 1 := ⟨n - 1, by omega⟩
    rw [f_X11_serve_20_s]
    have c1 : ¬ A 2 0 ≤ nI s := by rw [hm.1.1]; exact nI_ge (by omega) (by omega)
    have c0 : ¬ nI (cas d hd set) = 0 := nI_ne0 hC (by omega)
    have g : gok (nI s) 6 = true := gok_nI (by omega) (by decide)
    have hb := hld_le hd0 hd set (show s < nS d by omega)
    have hmul : D * hld d hd set s < 2 ^ 31 := Nat.lt_of_le_of_lt (Nat.mul_le_mul hD hb) (by decide)
    have h2 := bas_le (D := D) hC (show s + 1 ≤ nS d by omega)
    rw [fb_sm_succ] at h2
    have ed : nI (D * hld d hd set s) / nI (cas d hd set) = nI (bas d hd set D s) := pk_div hmul hC (by omega)
    simp only [cl0, cl2, c1, if_false, h9, c0, g, if_true, h15, nI_clamp (show s < 2 ^ 31 by omega), h17 s (by omega), pk_mul, ed, f_X11_serve_64, zst_same, upd_same, nI_1]
    rw [pk_sub (show bas d hd set D s ≤ D - fb_sm (bas d hd set D) s by omega), show D - fb_sm (bas d hd set D) s - bas d hd set D s = D - fb_sm (bas d hd set D) (s + 1) by rw [fb_sm_succ]; omega]
    obtain ⟨A', e1, e2, e3⟩ := ih (s + 1) n F (zst A 18 s (nI (bas d hd set D s))) (hm.fr (fun k h1 h2 => zst_ne (by omega) _ _)) h9 (by rw [zst_ne (by decide)]; exact h15) (fun j hj2 => by rw [zst_ne (by decide)]; exact h17 j hj2) (fun j hj2 => by
      rw [zst_same]
      by_cases q : j = s
      · subst q; rw [upd_same]
      · rw [upd_ne q]; exact hj j (by omega)) (by omega) (by omega)
    exact ⟨A', e1, fun k hk => by rw [e2 k hk, zst_ne hk], e3⟩
theorem m_s20z {d : ZD} (hd0 : dOK d) {hd set D : Nat} (hC : cas d hd set = 0) {T : Int64} :
    ∀ (m s n : Nat) (F : ZF) (A : ZA), TM d A → F 9 = 0 → (∀ j, j < s → A 18 j = 0) → s + m = nS d → m < n → ∃ A', f_X11_serve_20 n 0 (nI s) F A T = some (F, A', T) ∧ (∀ k, k ≠ 18 → A' k = A k) ∧ ∀ j, j < nS d → A' 18 j = nI (srv d hd set D j) := by
  have hS := hd0.1.1
  intro m
  induction m with
  | zero =>
    intro s n F A hm h9 hj hs hn
    obtain ⟨n, rfl⟩ : ∃ n', n = n' + 1 := ⟨n - 1, by omega⟩
    rw [f_X11_serve_20_s]
    have c1 : A 2 0 ≤ nI s := by rw [hm.1.1]; exact nI_le (by omega) (by omega)
    simp only [cl0, c1, if_true]
    rw [show (1000 : Nat) = 999 + 1 from rfl, f_X11_serve_82_s]
    have c3 : (0 : Int32) ≤ 0 := by decide
    simp only [c3, if_true]
    refine ⟨A, rfl, fun _ _ => rfl, fun j hj2 => ?_⟩
    rw [hj j (by omega)]
    unfold srv
    rw [if_pos hC, nI_0]
  | succ m ih =>
    intro s n F A hm h9 hj hs hn
    obtain ⟨n, rfl⟩ : ∃ n', n = n' + 1 := ⟨n - 1, by omega⟩
    rw [f_X11_serve_20_s]
    have c1 : ¬ A 2 0 ≤ nI s := by rw [hm.1.1]; exact nI_ge (by omega) (by omega)
    have g : gok (nI s) 6 = true := gok_nI (by omega) (by decide)
    simp only [cl0, c1, if_false, h9, g, if_true, nI_clamp (show s < 2 ^ 31 by omega), f_X11_serve_64, zst_same, upd_same, nI_1]
    obtain ⟨A', e1, e2, e3⟩ := ih (s + 1) n F (zst A 18 s 0) (hm.fr (fun k h1 h2 => zst_ne (by omega) _ _)) h9 (fun j hj2 => by
      rw [zst_same]
      by_cases q : j = s
      · subst q; rw [upd_same]
      · rw [upd_ne q]; exact hj j (by omega)) (by omega) (by omega)
    rw [show (0 : Int32) - 0 = 0 from by decide]
    exact ⟨A', e1, fun k hk => by rw [e2 k hk, zst_ne hk], e3⟩
theorem m_serve {d : ZD} (hd0 : dOK d) {hd set D : Nat} (hD : D ≤ 60) {F : ZF} {A : ZA} {T : Int64} (hm : TM d A) (h9 : F 9 = nI (cas d hd set)) (h15 : A 15 2 = nI D) (h17 : ∀ j, j < nS d → A 17 j = nI (hld d hd set j)) : ∃ A', f_X11_serve F A T = some (F, A', T) ∧ (∀ k, k ≠ 18 → A' k = A k) ∧ ∀ j, j < nS d → A' 18 j = nI (srv d hd set D j) := by
  have hS := hd0.1.1
  have hCl := cas_le hd0 hd set
  unfold f_X11_serve
  rcases Nat.eq_zero_or_pos (cas d hd set) with q | q
  · have h9' : F 9 = 0 := by rw [h9, q, nI_0]
    rw [if_pos h9']
    obtain ⟨A', e1, e2, e3⟩ := m_s20z hd0 (D := D) q (T := T) (nS d) 0 1000 F A hm h9' (fun j h => by omega) (by omega) (by omega)
    rw [nI_0] at e1
    exact ⟨A', e1, e2, e3⟩
  · rw [if_neg (by rw [h9]; exact nI_ne0 q (by omega)), cl2, h15]
    obtain ⟨A', e1, e2, e3⟩ := m_s20 hd0 hD q (T := T) (nS d) 0 1000 F A hm h9 h15 h17 (fun j h => by omega) (by omega) (by omega)
    rw [nI_0] at e1
    exact ⟨A', by simpa [fb_sm] using e1, e2, e3⟩
theorem m_asNow {d : ZD} (hd0 : dOK d) {F : ZF} {A : ZA} {T : Int64} {hd set D : Nat} (hh : hd < 256) (hset : set < 256) (hD : D ≤ 60) (hm : TM d A) (e10 : A 15 0 = nI set) (e11 : A 15 1 = nI hd) (e12 : A 15 2 = nI D) : ∃ F' A', f_X11_asNow F A T = some (F', A', T) ∧ F' 9 = nI (cas d hd set) ∧ (∀ k, k ≠ 9 → F' k = F k) ∧ (∀ k, k ≠ 17 → k ≠ 18 → A' k = A k) ∧ (∀ j, j < nS d → A' 17 j = nI (hld d hd set j)) ∧ (∀ j, j < nS d → A' 18 j = nI (srv d hd set D j)) := by
  unfold f_X11_asNow
  rw [cl0, e10]
  obtain ⟨F1, A1, a1, a2, a3, a4, a5⟩ := m_hold hd0 (F := F) (T := T) hh hset hm e11
  rw [a1, Option.bind_some]
  dsimp only
  obtain ⟨A2, b1, b2, b3⟩ := m_serve hd0 hD (F := F1) (T := T) (hm.fr (fun k h1 h2 => a4 k (by omega))) a2 (by rw [a4 15 (by decide)]; exact e12) a5
  rw [b1, Option.bind_some]
  exact ⟨F1, A2, rfl, a2, a3, fun k h1 h2 => by rw [b2 k h2, a4 k h1], fun j hj => by rw [b2 17 (by decide)]; exact a5 j hj, b3⟩
