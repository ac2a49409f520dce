/-! days by shares, whole -/
/-- the first of those below k + 1 where r is greatest -/
def bst (r : Nat → Int) : Nat → Nat
  | 0 => 0
  | k + 1 => if r (k + 1) ≤ r (bst r k) then bst r k else k + 1
theorem bst_le (r : Nat → Int) : ∀ k, bst r k ≤ k
  | 0 => Nat.le_refl 0
  | k + 1 => by
    unfold bst
    by_cases h : r (k + 1) ≤ r (bst r k)
    · rw [if_pos h]; exact Nat.le_trans (bst_le r k) (Nat.le_succ k)
    · rw [if_neg h]; exact Nat.le_refl _
theorem bst_max (r : Nat → Int) : ∀ k j, j ≤ k → r j ≤ r (bst r k)
  | 0, j, h => by
    have : j = 0 := by omega
    subst this; exact Int.le_refl _
  | k + 1, j, h => by
    unfold bst
    by_cases c : r (k + 1) ≤ r (bst r k)
    · rw [if_pos c]
      rcases Nat.lt_or_ge j (k + 1) with q | q
      · exact bst_max r k j (by omega)
      · have : j = k + 1 := by omega
        subst this; exact c
    · rw [if_neg c]
      rcases Nat.lt_or_ge j (k + 1) with q | q
      · have := bst_max r k j (by omega); omega
      · have : j = k + 1 := by omega
        subst this; exact Int.le_refl _
def rr (rs : Nat → Nat) (had s : Nat) : Int := if had.testBit s = true then -1 else (rs s : Int)
def giv (nS : Nat) (rs : Nat → Nat) : Nat → Nat → (Nat → Nat) → Nat → Nat
  | 0, _, sv => sv
  | n + 1, had, sv => giv nS rs n (had ||| 2 ^ bst (rr rs had) (nS - 1)) (fun j => if j = bst (rr rs had) (nS - 1) then sv j + 1 else sv j)
theorem giv_succ (nS : Nat) (rs : Nat → Nat) (n had : Nat) (sv : Nat → Nat) : giv nS rs (n + 1) had sv = giv nS rs n (had ||| 2 ^ bst (rr rs had) (nS - 1)) (fun j => if j = bst (rr rs had) (nS - 1) then sv j + 1 else sv j) := rfl
theorem giv_le (nS : Nat) (rs : Nat → Nat) : ∀ (n had : Nat) (sv : Nat → Nat) (j : Nat), giv nS rs n had sv j ≤ sv j + n
  | 0, _, _, _ => Nat.le_refl _
  | n + 1, had, sv, j => by
    unfold giv
    have := giv_le nS rs n (had ||| 2 ^ bst (rr rs had) (nS - 1)) (fun j => if j = bst (rr rs had) (nS - 1) then sv j + 1 else sv j) j
    split at this <;> omega
/-- what his share of the days is, cut; what is left over of it -/
def bas (d : ZD) (hd set D s : Nat) : Nat := D * hld d hd set s / cas d hd set
def rsd (d : ZD) (hd set D s : Nat) : Nat := D * hld d hd set s % cas d hd set
def lef (d : ZD) (hd set D : Nat) : Nat := D - fb_sm (bas d hd set D) (nS d)
def srv (d : ZD) (hd set D s : Nat) : Nat := if cas d hd set = 0 then 0 else giv (nS d) (rsd d hd set D) (lef d hd set D) 0 (bas d hd set D) s
theorem bas_sum (d : ZD) (hd set D : Nat) : ∀ k, fb_sm (bas d hd set D) k * cas d hd set + fb_sm (rsd d hd set D) k = D * fb_sm (hld d hd set) k
  | 0 => by simp [fb_sm]
  | k + 1 => by
    have := bas_sum d hd set D k
    rw [fb_sm_succ, fb_sm_succ, fb_sm_succ, Nat.mul_add, Nat.add_mul]
    have e : bas d hd set D k * cas d hd set + rsd d hd set D k = D * hld d hd set k := by
      unfold bas rsd
      rw [Nat.mul_comm]
      exact Nat.div_add_mod _ _
    omega
theorem bas_le {d : ZD} {hd set D : Nat} (hC : 0 < cas d hd set) {k : Nat} (hk : k ≤ nS d) : fb_sm (bas d hd set D) k ≤ D := by
  have h1 := bas_sum d hd set D (nS d)
  have h2 : fb_sm (bas d hd set D) k ≤ fb_sm (bas d hd set D) (nS d) := by
    obtain ⟨j, hj⟩ : ∃ j, nS d = k + j := ⟨nS d - k, by omega⟩
    rw [hj]; exact fb_sm_mono _ _ _
  have h3 : fb_sm (bas d hd set D) (nS d) * cas d hd set ≤ D * cas d hd set := by
    have : fb_sm (hld d hd set) (nS d) = cas d hd set := rfl
    rw [this] at h1
    omega
  exact Nat.le_trans h2 (Nat.le_of_mul_le_mul_right h3 hC)
theorem cas_pos_nS {d : ZD} {hd set : Nat} (hC : 0 < cas d hd set) : 0 < nS d := by
  rcases Nat.eq_zero_or_pos (nS d) with q | q
  · unfold cas at hC
    rw [q] at hC
    simp [fb_sm] at hC
  · exact q
theorem lef_lt {d : ZD} {hd set D : Nat} (hC : 0 < cas d hd set) : lef d hd set D < nS d := by
  have hn := cas_pos_nS hC
  have h1 := bas_sum d hd set D (nS d)
  have h2 := bas_le (D := D) hC (Nat.le_refl (nS d))
  have h3 := fb_sm_bound (f := rsd d hd set D) (c := cas d hd set - 1) (n := nS d) (fun k _ => by
    have : rsd d hd set D k < cas d hd set := Nat.mod_lt _ hC
    omega)
  have e0 : fb_sm (hld d hd set) (nS d) = cas d hd set := rfl
  rw [e0] at h1
  unfold lef
  rcases Nat.lt_or_ge (D - fb_sm (bas d hd set D) (nS d)) (nS d) with q | q
  · exact q
  · exfalso
    have e1 : (D - fb_sm (bas d hd set D) (nS d)) * cas d hd set = fb_sm (rsd d hd set D) (nS d) := by
      rw [Nat.sub_mul]; omega
    have e2 : nS d * cas d hd set ≤ (D - fb_sm (bas d hd set D) (nS d)) * cas d hd set := Nat.mul_le_mul_right _ q
    have e3 : nS d * (cas d hd set - 1) < nS d * cas d hd set := Nat.mul_lt_mul_of_pos_left (by omega) hn
    omega
theorem srv_le {d : ZD} (hd0 : dOK d) {hd set D s : Nat} (hs : s < nS d) : srv d hd set D s ≤ D + 6 := by
  have hS := hd0.1.1
  unfold srv
  by_cases hC : cas d hd set = 0
  · rw [if_pos hC]; omega
  · rw [if_neg hC]
    have h1 := giv_le (nS d) (rsd d hd set D) (lef d hd set D) 0 (bas d hd set D) s
    have h2 := lef_lt (D := D) (Nat.pos_of_ne_zero hC)
    have h3 := fb_sm_part (bas d hd set D) hs
    have h4 := bas_le (D := D) (Nat.pos_of_ne_zero hC) (Nat.le_refl (nS d))
    omega
/-! the class's side -/
theorem x_g4 {d : ZD} (hd0 : dOK d) {rs : Nat → Nat} {had : Nat} (hrs : ∀ j, j < nS d → rs j < 1000) {F : ZF} {A : ZA} {T : Int64} (h9 : F 9 = nI (nS d)) (h17 : ∀ j, j < nS d → A 17 j = Int32.ofInt (rr rs had j)) :
    ∀ (m k n : Nat), k + 1 + m = nS d → m < n → f_X5_giveOneDayMore_4 n (nI (bst (rr rs had) k)) (nI (k + 1)) F A T = some (F, zst (zst A 15 (bst (rr rs had) (nS d - 1)) (A 15 (bst (rr rs had) (nS d - 1)) + 1)) 17 (bst (rr rs had) (nS d - 1)) (-1), T) := by
  have hS := hd0.1.1
  have tI : ∀ j, j < nS d → (Int32.ofInt (rr rs had j)).toInt = rr rs had j := fun j hj => by
    have := hrs j hj
    apply fb_ofI <;> (unfold rr; split <;> omega)
  intro m
  induction m with
  | zero =>
    intro k n hk hn
    obtain ⟨n, rfl⟩ : ∃ n', n = n' + 1 := ⟨n - 1, by omega⟩
    rw [f_X5_giveOneDayMore_4_s]
    have c1 : F 9 ≤ nI (k + 1) := by rw [h9]; exact nI_le (by omega) (by omega)
    have e : k = nS d - 1 := by omega
    subst e
    have hb := bst_le (rr rs had) (nS d - 1)
    have g : gok (nI (bst (rr rs had) (nS d - 1))) 6 = true := gok_nI (by omega) (by decide)
    simp only [c1, if_true, g, nI_clamp (show bst (rr rs had) (nS d - 1) < 2 ^ 31 by omega)]
  | succ m ih =>
    intro k n hk hn
    obtain ⟨n, rfl⟩ : ∃ n', n = n' + 1 := ⟨n - 1, by omega⟩
    rw [f_X5_giveOneDayMore_4_s]
    have c1 : ¬ F 9 ≤ nI (k + 1) := by rw [h9]; exact nI_ge (by omega) (by omega)
    have hb := bst_le (rr rs had) k
    have g : gok (nI (bst (rr rs had) k)) 6 = true := gok_nI (by omega) (by decide)
    have g2 : gok (nI (k + 1)) 6 = true := gok_nI (by omega) (by decide)
    have ih' := ih (k + 1) n (by omega) (by omega)
    simp only [c1, if_false, g, g2, if_true, nI_clamp (show bst (rr rs had) k < 2 ^ 31 by omega), nI_clamp (show k + 1 < 2 ^ 31 by omega), h17 _ (show k + 1 < nS d by omega), h17 _ (show bst (rr rs had) k < nS d by omega), nI_1]
    have st : bst (rr rs had) (k + 1) = if rr rs had (k + 1) ≤ rr rs had (bst (rr rs had) k) then bst (rr rs had) k else k + 1 := rfl
    by_cases c : rr rs had (k + 1) ≤ rr rs had (bst (rr rs had) k)
    · rw [if_pos (by rw [fa_le, tI _ (by omega), tI _ (by omega)]; exact c)]
      rw [st, if_pos c] at ih'
      exact ih'
    · rw [if_neg (by rw [fa_le, tI _ (by omega), tI _ (by omega)]; exact c)]
      rw [st, if_neg c] at ih'
      exact ih'
theorem x_g {d : ZD} (hd0 : dOK d) (hn : 0 < nS d) {rs : Nat → Nat} {had : Nat} (hrs : ∀ j, j < nS d → rs j < 1000) {F : ZF} {A : ZA} {T : Int64} (h9 : F 9 = nI (nS d)) (h17 : ∀ j, j < nS d → A 17 j = Int32.ofInt (rr rs had j)) :
    f_X5_giveOneDayMore F A T = some (F, zst (zst A 15 (bst (rr rs had) (nS d - 1)) (A 15 (bst (rr rs had) (nS d - 1)) + 1)) 17 (bst (rr rs had) (nS d - 1)) (-1), T) := by
  have hS := hd0.1.1
  have := x_g4 hd0 hrs (T := T) h9 h17 (nS d - 1) 0 1000 (by omega) (by omega)
  exact this
theorem rr_upd (rs : Nat → Nat) (had b j : Nat) : rr rs (had ||| 2 ^ b) j = if j = b then -1 else rr rs had j := by
  unfold rr
  rw [fb_bit_set]
  by_cases h : j = b
  · simp [h]
  · simp [h]
theorem x_s100 {d : ZD} (hd0 : dOK d) (hn : 0 < nS d) {rs : Nat → Nat} (hrs : ∀ j, j < nS d → rs j < 1000) {T : Int64} :
    ∀ (m had i n : Nat) (sv : Nat → Nat) (F : ZF) (A : ZA), F 9 = nI (nS d) → (∀ j, j < nS d → A 17 j = Int32.ofInt (rr rs had j)) → (∀ j, j < nS d → A 15 j = nI (sv j)) → m + i < 6 → m < n → ∃ A', f_X5_sentence_100 n (nI m) (nI i) F A T = some (F, A', T) ∧ (∀ k, k ≠ 15 → k ≠ 17 → A' k = A k) ∧ ∀ j, j < nS d → A' 15 j = nI (giv (nS d) rs m had sv j) := by
  have hS := hd0.1.1
  intro m
  induction m with
  | zero =>
    intro had i n sv F A h9 h17 h15 hi hn2
    obtain ⟨n, rfl⟩ : ∃ n', n = n' + 1 := ⟨n - 1, by omega⟩
    rw [f_X5_sentence_100_s]
    have c1 : ¬ (6 : Int32) ≤ nI i := nI_ge (a := i) (b := 6) (by omega) (by omega)
    have c2 : nI 0 ≤ 0 := by rw [nI_0]; decide
    simp only [c1, if_false, c2, if_true]
    exact ⟨A, rfl, fun _ _ _ => rfl, h15⟩
  | succ m ih =>
    intro had i n sv F A h9 h17 h15 hi hn2
    obtain ⟨n, rfl⟩ : ∃ n', n = n' + 1 := ⟨n - 1, by omega⟩
    rw [f_X5_sentence_100_s]
    have c1 : ¬ (6 : Int32) ≤ nI i := nI_ge (a := i) (b := 6) (by omega) (by omega)
    have c2 : ¬ nI (m + 1) ≤ 0 := nI_nle (by omega) (by omega)
    have hb := bst_le (rr rs had) (nS d - 1)
    simp only [c1, if_false, c2, x_g hd0 hn hrs (T := T) h9 h17, Option.bind_some, nI_1, pk_m1]
    generalize hbe : bst (rr rs had) (nS d - 1) = b at hb ⊢
    obtain ⟨A', e1, e2, e3⟩ := ih (had ||| 2 ^ b) (i + 1) n (fun j => if j = b then sv j + 1 else sv j) F (zst (zst A 15 b (A 15 b + 1)) 17 b (-1)) h9 (fun j hj => by
      rw [zst_same, zst_ne (by decide), rr_upd]
      by_cases q : j = b
      · subst q; rw [upd_same, if_pos rfl]; rfl
      · rw [upd_ne q, if_neg q]; exact h17 j hj) (fun j hj => by
      rw [zst_ne (by decide), zst_same]
      by_cases q : j = b
      · subst q; rw [upd_same, if_pos rfl, h15 j hj, nI_1]
      · rw [upd_ne q, if_neg q]; exact h15 j hj) (by omega) (by omega)
    refine ⟨A', e1, fun k h1 h2 => by rw [e2 k h1 h2, zst_ne h2, zst_ne h1], fun j hj => ?_⟩
    rw [e3 j hj, giv_succ, hbe]
theorem rr_0 (rs : Nat → Nat) (j : Nat) : rr rs 0 j = (rs j : Int) := by simp [rr]
theorem x_s15 {d : ZD} (hd0 : dOK d) {hd set D : Nat} (hD : D ≤ 60) (hC : 0 < cas d hd set) {T : Int64} :
    ∀ (m s n : Nat) (F : ZF) (A : ZA), F 8 = nI (cas d hd set) → F 9 = nI (nS d) → (∀ j, j < nS d → A 14 j = nI (hld d hd set j)) → (∀ j, j < s → A 15 j = nI (bas d hd set D j) ∧ A 17 j = nI (rsd d hd set D j)) → s + m = nS d → m < n → ∃ A', f_X5_sentence_15 n (nI D) (nI (D - fb_sm (bas d hd set D) s)) (nI s) F A T = some (F, A', T) ∧ (∀ k, k ≠ 15 → k ≠ 17 → A' k = A k) ∧ ∀ j, j < nS d → A' 15 j = nI (srv d hd set D j) := by
  have hS := hd0.1.1
  have hn0 := cas_pos_nS hC
  have hCl := cas_le hd0 hd set
  intro m
  induction m with
  | zero =>
    intro s n F A h8 h9 h14 hj hs hn
    obtain ⟨n, rfl⟩ : ∃ n', n = n' + 1 := ⟨n - 1, by omega⟩
    rw [f_X5_sentence_15_s]
    have e : s = nS d := by omega
    subst e
    have c1 : F 9 ≤ nI (nS d) := by rw [h9]; exact nI_le (by omega) (by omega)
    simp only [c1, if_true]
    have hl := lef_lt (D := D) hC
    obtain ⟨A', e1, e2, e3⟩ := x_s100 hd0 hn0 (rs := rsd d hd set D) (fun j _ => by
      have : rsd d hd set D j < cas d hd set := Nat.mod_lt _ hC
      omega) (T := T) (lef d hd set D) 0 0 1000 (bas d hd set D) F A h9 (fun j hj2 => by rw [(hj j hj2).2, rr_0, nI_iI]) (fun j hj2 => (hj j hj2).1) (by omega) (by omega)
    rw [nI_0] at e1
    refine ⟨A', e1, e2, fun j hj2 => ?_⟩
    rw [e3 j hj2]
    unfold srv
    rw [if_neg (by omega)]
  | succ m ih =>
    intro s n F A h8 h9 h14 hj hs hn
    obtain ⟨n, rfl⟩ : ∃ n', n = n' + 1 := ⟨n - 1, by omega⟩
    rw [f_X5_sentence_15_s]
    have c1 : ¬ F 9 ≤ nI s := by rw [h9]; exact nI_ge (by omega) (by omega)
    have c0 : ¬ nI (cas d hd set) = 0 := nI_ne0 hC (by omega)
    have g : gok (nI s) 6 = true := gok_nI (by omega) (by decide)
    have hb := hld_le hd0 hd set (show s < nS d by omega)
    have hmul : D * hld d hd set s < 2 ^ 31 := Nat.lt_of_le_of_lt (Nat.mul_le_mul hD hb) (by decide)
    have h2 := bas_le (D := D) hC (show s + 1 ≤ nS d by omega)
    rw [fb_sm_succ] at h2
    have ed : nI (D * hld d hd set s) / nI (cas d hd set) = nI (bas d hd set D s) := pk_div hmul hC (by omega)
    have er : nI (D * hld d hd set s) - nI (bas d hd set D s * cas d hd set) = nI (rsd d hd set D s) := by
      rw [show nI (bas d hd set D s * cas d hd set) = nI (bas d hd set D s) * nI (cas d hd set) from (pk_mul _ _).symm, ← ed]; exact pk_rem hmul hC (by omega)
    simp only [c1, if_false, h8, c0, g, if_true, nI_clamp (show s < 2 ^ 31 by omega), h14 s (by omega), pk_mul, f_X5_sentence_52, f_X5_sentence_82, zst_ne (show (14 : Nat) ≠ 15 by decide), zst_ne (show (15 : Nat) ≠ 17 by decide), zst_same, upd_same, ed, er, nI_1]
    rw [pk_sub (show bas d hd set D s ≤ D - fb_sm (bas d hd set D) s by omega), show D - fb_sm (bas d hd set D) s - bas d hd set D s = D - fb_sm (bas d hd set D) (s + 1) by rw [fb_sm_succ]; omega]
    obtain ⟨A', e1, e2, e3⟩ := ih (s + 1) n F (zst (zst A 15 s (nI (bas d hd set D s))) 17 s (nI (rsd d hd set D s))) h8 h9 (fun j hj2 => by rw [zst_ne (by decide), zst_ne (by decide)]; exact h14 j hj2) (fun j hj2 => by
      simp only [zst_same, zst_ne (show (15 : Nat) ≠ 17 by decide), zst_ne (show (17 : Nat) ≠ 15 by decide)]
      by_cases q : j = s
      · subst q; rw [upd_same, upd_same]; exact ⟨rfl, rfl⟩
      · rw [upd_ne q, upd_ne q]; exact hj j (by omega)) (by omega) (by omega)
    exact ⟨A', e1, fun k h1 h3 => by rw [e2 k h1 h3, zst_ne h3, zst_ne h1], e3⟩
/-- the case falls: none serves -/
theorem x_s15z {d : ZD} (hd0 : dOK d) {hd set D : Nat} (hC : cas d hd set = 0) {T : Int64} :
    ∀ (m s n : Nat) (F : ZF) (A : ZA), F 8 = 0 → F 9 = nI (nS d) → (∀ j, j < s → A 15 j = 0) → s + m = nS d → m < n → ∃ A', f_X5_sentence_15 n (nI D) 0 (nI s) F A T = some (F, A', T) ∧ (∀ k, k ≠ 15 → k ≠ 17 → A' k = A k) ∧ ∀ j, j < nS d → A' 15 j = nI (srv d hd set D j) := by
  have hS := hd0.1.1
  intro m
  induction m with
  | zero =>
    intro s n F A h8 h9 hj hs hn
    obtain ⟨n, rfl⟩ : ∃ n', n = n' + 1 := ⟨n - 1, by omega⟩
    rw [f_X5_sentence_15_s]
    have c1 : F 9 ≤ nI s := by rw [h9]; exact nI_le (by omega) (by omega)
    simp only [c1, if_true]
    rw [show (1000 : Nat) = 999 + 1 from rfl, f_X5_sentence_100_s]
    have c2 : ¬ (6 : Int32) ≤ 0 := by decide
    have c3 : (0 : Int32) ≤ 0 := by decide
    simp only [c2, c3, if_true, if_false]
    refine ⟨A, rfl, fun _ _ _ => rfl, fun j hj2 => ?_⟩
    rw [hj j (by omega)]
    unfold srv
    rw [if_pos hC, nI_0]
  | succ m ih =>
    intro s n F A h8 h9 hj hs hn
    obtain ⟨n, rfl⟩ : ∃ n', n = n' + 1 := ⟨n - 1, by omega⟩
    rw [f_X5_sentence_15_s]
    have c1 : ¬ F 9 ≤ nI s := by rw [h9]; exact nI_ge (by omega) (by omega)
    have g : gok (nI s) 6 = true := gok_nI (by omega) (by decide)
    simp only [c1, if_false, h8, g, if_true, nI_clamp (show s < 2 ^ 31 by omega), f_X5_sentence_52, f_X5_sentence_82, zst_ne (show (15 : Nat) ≠ 17 by decide), zst_same, upd_same, nI_1]
    obtain ⟨A', e1, e2, e3⟩ := ih (s + 1) n F (zst (zst A 15 s 0) 17 s 0) h8 h9 (fun j hj2 => by
      rw [zst_ne (by decide), zst_same]
      by_cases q : j = s
      · subst q; rw [upd_same]
      · rw [upd_ne q]; exact hj j (by omega)) (by omega) (by omega)
    rw [show (0 : Int32) - 0 = 0 from by decide]
    exact ⟨A', e1, fun k h1 h3 => by rw [e2 k h1 h3, zst_ne h3, zst_ne h1], e3⟩
theorem x_sentence {d : ZD} (hd0 : dOK d) {hd set D : Nat} (hD : D ≤ 60) {F : ZF} {A : ZA} {T : Int64} (h8 : F 8 = nI (cas d hd set)) (h9 : F 9 = nI (nS d)) (h14 : ∀ j, j < nS d → A 14 j = nI (hld d hd set j)) : ∃ A', f_X5_sentence (nI D) F A T = some (F, A', T) ∧ (∀ k, k ≠ 15 → k ≠ 17 → A' k = A k) ∧ ∀ j, j < nS d → A' 15 j = nI (srv d hd set D j) := by
  have hS := hd0.1.1
  have hCl := cas_le hd0 hd set
  unfold f_X5_sentence
  rcases Nat.eq_zero_or_pos (cas d hd set) with q | q
  · have h8' : F 8 = 0 := by rw [h8, q, nI_0]
    rw [if_pos h8']
    obtain ⟨A', e1, e2, e3⟩ := x_s15z hd0 (D := D) q (T := T) (nS d) 0 1000 F A h8' h9 (fun j h => by omega) (by omega) (by omega)
    rw [nI_0] at e1
    exact ⟨A', e1, e2, e3⟩
  · rw [if_neg (by rw [h8]; exact nI_ne0 q (by omega))]
    obtain ⟨A', e1, e2, e3⟩ := x_s15 hd0 hD q (T := T) (nS d) 0 1000 F A h8 h9 h14 (fun j h => by omega) (by omega) (by omega)
    rw [nI_0] at e1
    exact ⟨A', by simpa [fb_sm] using e1, e2, e3⟩
/-- weighed now: what the class's scales hold then -/
theorem x_weighNow {d : ZD} (hd0 : dOK d) {F : ZF} {A : ZA} {T : Int64} {hd set D : Nat} (hh : hd < 256) (hset : set < 256) (hD : D ≤ 60) (hx : TX d F A) (e10 : F 10 = nI set) (e11 : F 11 = nI hd) (e12 : F 12 = nI D) : ∃ F' A', f_X10_weighNow F A T = some (F', A', T) ∧ F' 8 = nI (cas d hd set) ∧ (∀ k, k ≠ 8 → k ≠ 9 → F' k = F k) ∧ (∀ k, k ≠ 14 → k ≠ 15 → k ≠ 16 → k ≠ 17 → A' k = A k) ∧ F' 9 = nI (nS d) ∧ (∀ j, j < nS d → A' 14 j = nI (hld d hd set j)) ∧ (∀ j, j < nS d → A' 15 j = nI (srv d hd set D j)) ∧ (∀ j, j < nS d → A' 16 j = nI (hrs d hd j)) := by
  unfold f_X10_weighNow
  obtain ⟨A1, a1, a2, a3⟩ := x_count hd0 (T := T) hx hh
  rw [e11, a1, Option.bind_some]
  dsimp only
  have hx1 : TX d (upd F 9 (nI (nS d))) A1 := hx.fr (fun k h1 h2 => upd_ne (by omega) _) (fun k h1 h2 => a2 k (by omega))
  rw [upd_ne (by decide), e10]
  obtain ⟨F2, A2, b1, b2, b3, b4, b5⟩ := x_weigh hd0 (T := T) hset hx1 (upd_same _ _ _) a3
  rw [b1, Option.bind_some]
  dsimp only
  rw [b3 12 (by decide), upd_ne (by decide), e12]
  have h9 : F2 9 = nI (nS d) := by rw [b3 9 (by decide), upd_same]
  obtain ⟨A3, c1, c2, c3⟩ := x_sentence hd0 hD (T := T) b2 h9 b5
  rw [c1, Option.bind_some]
  refine ⟨F2, A3, rfl, b2, fun k h1 h2 => by rw [b3 k h1, upd_ne h2], fun k h1 h2 h3 h4 => by rw [c2 k h2 h4, b4 k h1, a2 k h3], h9, fun j hj => by rw [c2 14 (by decide) (by decide)]; exact b5 j hj, c3, fun j hj => by rw [c2 16 (by decide) (by decide), b4 16 (by decide)]; exact a3 j hj⟩
