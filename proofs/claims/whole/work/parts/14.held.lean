/-! what is held against one, on both sides -/
theorem TX.fr {d : ZD} {F F' : ZF} {A A' : ZA} (h : TX d F A) (hF : ∀ k, 22 ≤ k → k ≤ 26 → F' k = F k) (hA : ∀ k, 29 ≤ k → k ≤ 37 → A' k = A k) : TX d F' A' := by
  unfold TX
  rw [hF 22 (by decide) (by decide), hF 23 (by decide) (by decide), hF 24 (by decide) (by decide), hF 25 (by decide) (by decide), hF 26 (by decide) (by decide), hA 29 (by decide) (by decide), hA 30 (by decide) (by decide), hA 31 (by decide) (by decide), hA 32 (by decide) (by decide), hA 33 (by decide) (by decide), hA 34 (by decide) (by decide), hA 35 (by decide) (by decide), hA 36 (by decide) (by decide), hA 37 (by decide) (by decide)]
  exact h
theorem TM.fr {d : ZD} {A A' : ZA} (h : TM d A) (hA : ∀ k, 2 ≤ k → k ≤ 14 → A' k = A k) : TM d A' := by
  unfold TM
  rw [hA 2 (by decide) (by decide), hA 3 (by decide) (by decide), hA 4 (by decide) (by decide), hA 5 (by decide) (by decide), hA 6 (by decide) (by decide), hA 7 (by decide) (by decide), hA 8 (by decide) (by decide), hA 9 (by decide) (by decide), hA 10 (by decide) (by decide), hA 11 (by decide) (by decide), hA 12 (by decide) (by decide), hA 13 (by decide) (by decide), hA 14 (by decide) (by decide)]
  exact h
/-- the hours elsewhere, as bits: m alibis from k on -/
def elN (d : ZD) (hd s : Nat) : Nat → Nat → Nat → Nat
  | 0, _, e => e
  | m + 1, k, e => elN d hd s m (k + 1) (if hd.testBit k = true ∧ wh d k = s then e ||| (2 ^ (tt d k + 1) - 2 ^ fm d k) else e)
theorem elN_spec {d : ZD} (hd0 : dOK d) (hd s : Nat) : ∀ (m k e : Nat), k + m = nA d → e < 2 ^ 24 → elN d hd s m k e < 2 ^ 24 ∧ ∀ h, (elN d hd s m k e).testBit h = (e.testBit h || hbk d hd s h m k) := by
  intro m
  induction m with
  | zero => intro k e _ he; exact ⟨he, fun h => by simp [elN, hbk]⟩
  | succ m ih =>
    intro k e hk he
    have o := hd0.2.2.2.2 k (by omega)
    unfold elN
    by_cases c : hd.testBit k = true ∧ wh d k = s
    · rw [if_pos c]
      have hm : 2 ^ (tt d k + 1) - 2 ^ fm d k < 2 ^ 24 := by
        have : 2 ^ (tt d k + 1) ≤ 2 ^ 24 := Nat.pow_le_pow_right (by decide) (by omega)
        have : 0 < 2 ^ fm d k := Nat.two_pow_pos _
        omega
      obtain ⟨h1, h2⟩ := ih (k + 1) (e ||| (2 ^ (tt d k + 1) - 2 ^ fm d k)) (by omega) (Nat.or_lt_two_pow he hm)
      refine ⟨h1, fun h => ?_⟩
      rw [h2 h, Nat.testBit_or, mask_bit o.2.2.1]
      simp [hbk, hbP, c.1, c.2, Bool.or_assoc]
    · rw [if_neg c]
      obtain ⟨h1, h2⟩ := ih (k + 1) e (by omega) he
      refine ⟨h1, fun h => ?_⟩
      rw [h2 h]
      have : hbP d hd s h k = false := by
        unfold hbP
        by_cases b1 : hd.testBit k = true
        · have b2 : ¬ wh d k = s := fun q => c ⟨b1, q⟩
          simp [b2]
        · simp [Bool.not_eq_true _ ▸ b1]
      simp [hbk, this]
theorem x_c38 {d : ZD} (hd0 : dOK d) {F : ZF} {A : ZA} {T : Int64} (hx : TX d F A) {hd : Nat} (hh : hd < 256) (K : Int32 → Int32 → Int32 → ZF → ZA → Int64 → Option ZS) {s : Nat} (hs : s < 6) (x3 : Int32) :
    ∀ (m k n e : Nat), k + m = nA d → m < n → f_X5_countHours_38 K n (nI hd) x3 (nI s) (nI e) (nI k) F A T = K (nI hd) x3 (nI (s + 1)) F (zst A 16 s (f_J6_bitCount_0f7a4 (nI (elN d hd s m k e) &&& x3))) T := by
  have hA := hd0.1.2.2.1
  have hS := hd0.1.1
  intro m
  induction m with
  | zero =>
    intro k n e hk hn
    obtain ⟨n, rfl⟩ : ∃ n', n = n' + 1 := ⟨n - 1, by omega⟩
    rw [f_X5_countHours_38_s]
    have c1 : F 24 ≤ nI k := by rw [hx.1.2.2.1]; exact nI_le (by omega) (by omega)
    have g : gok (nI s) 6 = true := gok_nI (by omega) (by decide)
    simp only [c1, if_true, g, nI_1, nI_clamp (show s < 2 ^ 31 by omega), elN]
  | succ m ih =>
    intro k n e hk hn
    obtain ⟨n, rfl⟩ : ∃ n', n = n' + 1 := ⟨n - 1, by omega⟩
    rw [f_X5_countHours_38_s]
    have c1 : ¬ F 24 ≤ nI k := by rw [hx.1.2.2.1]; exact nI_ge (by omega) (by omega)
    have g : gok (nI k) 8 = true := gok_nI (by omega) (by decide)
    have t := hx.2.2.2.2 k (by omega)
    have o := hd0.2.2.2.2 k (by omega)
    simp only [c1, if_false, bitX (show hd < 2 ^ 31 by omega) (show k < 32 by omega), ite10, g, if_true, nI_clamp (show k < 2 ^ 31 by omega), t.1, t.2.2.1, t.2.2.2, hft o.2.2.1 o.2.2.2, fa_or, nI_1, nI_eq (show wh d k < 2 ^ 31 by omega) (show s < 2 ^ 31 by omega)]
    unfold elN
    by_cases b1 : hd.testBit k = true
    · by_cases b2 : wh d k = s
      · simp only [b1, b2, if_true, and_self]
        exact ih (k + 1) n _ (by omega) (by omega)
      · simp only [b1, b2, if_true, if_false, and_false]
        exact ih (k + 1) n _ (by omega) (by omega)
    · have b1' : ¬ (hd.testBit k = true ∧ wh d k = s) := fun q => b1 q.1
      rw [if_neg b1, if_neg b1']
      exact ih (k + 1) n _ (by omega) (by omega)
theorem x_c23 {d : ZD} (hd0 : dOK d) {T : Int64} {hd : Nat} (hh : hd < 256) :
    ∀ (m s n : Nat) (F : ZF) (A : ZA), TX d F A → F 9 = nI (nS d) → s + m = nS d → m < n → ∃ A', f_X5_countHours_23 n (nI hd) (nI (2 ^ (dT d + 1) - 2 ^ dF d)) (nI s) F A T = some (F, A', T) ∧ (∀ k, k ≠ 16 → A' k = A k) ∧ (∀ j, s ≤ j → j < nS d → A' 16 j = nI (hrs d hd j)) ∧ ∀ j, j < s → A' 16 j = A 16 j := by
  have hS := hd0.1.1
  have hdd := hd0.1.2.2.2
  intro m
  induction m with
  | zero =>
    intro s n F A hx h9 hs hn
    obtain ⟨n, rfl⟩ : ∃ n', n = n' + 1 := ⟨n - 1, by omega⟩
    rw [f_X5_countHours_23_s]
    have c1 : F 9 ≤ nI s := by rw [h9]; exact nI_le (by omega) (by omega)
    simp only [c1, if_true]
    exact ⟨A, rfl, fun _ _ => rfl, fun j h1 h2 => by omega, fun _ _ => rfl⟩
  | succ m ih =>
    intro s n F A hx h9 hs hn
    obtain ⟨n, rfl⟩ : ∃ n', n = n' + 1 := ⟨n - 1, by omega⟩
    rw [f_X5_countHours_23_s]
    have c1 : ¬ F 9 ≤ nI s := by rw [h9]; exact nI_ge (by omega) (by omega)
    simp only [c1, if_false]
    have := x_c38 hd0 (T := T) hx hh (f_X5_countHours_23 n) (show s < 6 by omega) (nI (2 ^ (dT d + 1) - 2 ^ dF d)) (nA d) 0 1000 0 (by omega) (by have := hd0.1.2.2.1; omega)
    rw [nI_0] at this
    rw [this]
    obtain ⟨l1, l2⟩ := elN_spec hd0 hd s (nA d) 0 0 (by omega) (by decide)
    have ev : f_J6_bitCount_0f7a4 (nI (elN d hd s (nA d) 0 0) &&& nI (2 ^ (dT d + 1) - 2 ^ dF d)) = nI (hrs d hd s) := by
      rw [fa_and, bc_nI (Nat.lt_of_le_of_lt Nat.and_le_left l1)]
      unfold hrs
      congr 1
      apply fb_ct_cong
      intro i _
      rw [Nat.testBit_and, l2, mask_bit hdd.1]
      simp [hrP]
    rw [ev]
    have hx' : TX d F (zst A 16 s (nI (hrs d hd s))) := hx.fr (fun _ _ _ => rfl) (fun k h1 h2 => zst_ne (by omega) _ _)
    obtain ⟨A', e1, e2, e3, e4⟩ := ih (s + 1) n F _ hx' h9 (by omega) (by omega)
    refine ⟨A', e1, fun k hk => by rw [e2 k hk, zst_ne hk], fun j h1 h2 => ?_, fun j hj => ?_⟩
    · rcases Nat.lt_or_ge s j with q | q
      · exact e3 j (by omega) h2
      · have : j = s := by omega
        subst this
        rw [e4 j (by omega), zst_same, upd_same]
    · rw [e4 j (by omega), zst_same, upd_ne (by omega)]
theorem x_count {d : ZD} (hd0 : dOK d) {F : ZF} {A : ZA} {T : Int64} (hx : TX d F A) {hd : Nat} (hh : hd < 256) : ∃ A', f_X5_countHours (nI hd) F A T = some (upd F 9 (nI (nS d)), A', T) ∧ (∀ k, k ≠ 16 → A' k = A k) ∧ ∀ j, j < nS d → A' 16 j = nI (hrs d hd j) := by
  have hdd := hd0.1.2.2.2
  have hS := hd0.1.1
  unfold f_X5_countHours
  rw [hx.1.1, upd_ne (by decide), upd_ne (by decide), hx.1.2.2.2.1, hx.1.2.2.2.2, hft hdd.1 hdd.2]
  have hx' : TX d (upd F 9 (nI (nS d))) A := hx.fr (fun k h1 h2 => upd_ne (by omega) _) (fun _ _ _ => rfl)
  obtain ⟨A', e1, e2, e3, -⟩ := x_c23 hd0 (T := T) hh (nS d) 0 1000 _ A hx' (upd_same _ _ _) (by omega) (by omega)
  rw [nI_0] at e1
  exact ⟨A', e1, e2, fun j hj => e3 j (by omega) hj⟩
/-! numbers with a sign -/
theorem nI_iI (n : Nat) : nI n = Int32.ofInt (n : Int) := by
  apply Int32.toBitVec_inj.mp
  show BitVec.ofNat 32 n = BitVec.ofInt 32 (n : Int)
  simp
theorem iI_add (a b : Int) : Int32.ofInt a + Int32.ofInt b = Int32.ofInt (a + b) := by
  rw [Int32.ofInt_add]
theorem tmv_b {d : ZD} (hd0 : dOK d) {f s : Nat} (hf : f < nF d) (hs : s < 6) : -9 ≤ tmv d f s ∧ tmv d f s ≤ 9 := by
  have h1 := hd0.2.2.2.1 f hf s hs
  have h2 := (hd0.2.2.1 f hf).2
  unfold tmv
  generalize mv d f s = z at h1
  generalize tr d f = t at h2
  have b1 : -90 ≤ z * (t : Int) ∧ z * (t : Int) ≤ 90 := by
    have ht : (0 : Int) ≤ t ∧ (t : Int) ≤ 10 := by omega
    constructor
    · have : -(9 * 10 : Int) ≤ z * t := by
        rcases Int.le_total 0 z with q | q
        · have := Int.mul_nonneg q ht.1; omega
        · have e1 : -z * t ≤ 9 * 10 := Int.mul_le_mul (by omega) ht.2 ht.1 (by decide)
          rw [Int.neg_mul] at e1
          omega
      omega
    · rcases Int.le_total 0 z with q | q
      · have := Int.mul_le_mul h1.2 ht.2 ht.1 (by decide); omega
      · have : z * t ≤ 0 := Int.mul_nonpos_of_nonpos_of_nonneg q ht.1
        omega
  have := Int.tdiv_le_tdiv (show (0 : Int) < 10 by decide) b1.2
  have := Int.tdiv_le_tdiv (show (0 : Int) < 10 by decide) b1.1
  have e1 : (90 : Int).tdiv 10 = 9 := rfl
  have e2 : (-90 : Int).tdiv 10 = -9 := rfl
  omega
theorem tmv_eq {d : ZD} (hd0 : dOK d) {f s : Nat} (hf : f < nF d) (hs : s < 6) : Int32.ofInt (mv d f s) * nI (tr d f) / (10 : Int32) = Int32.ofInt (tmv d f s) := by
  have h1 := hd0.2.2.2.1 f hf s hs
  have h2 := (hd0.2.2.1 f hf).2
  have h3 := tmv_b hd0 hf hs
  have b1 : -90 ≤ mv d f s * (tr d f : Int) ∧ mv d f s * (tr d f : Int) ≤ 90 := by
    generalize mv d f s = z at h1
    generalize tr d f = t at h2
    have ht : (0 : Int) ≤ t ∧ (t : Int) ≤ 10 := by omega
    rcases Int.le_total 0 z with q | q
    · have := Int.mul_nonneg q ht.1
      have := Int.mul_le_mul h1.2 ht.2 ht.1 (by decide)
      omega
    · have : z * t ≤ 0 := Int.mul_nonpos_of_nonpos_of_nonneg q ht.1
      have e1 : -z * t ≤ 9 * 10 := Int.mul_le_mul (by omega) ht.2 ht.1 (by decide)
      rw [Int.neg_mul] at e1
      omega
  apply Int32.toInt_inj.mp
  have e1 : (Int32.ofInt (mv d f s)).toInt = mv d f s := fb_ofI (by omega) (by omega)
  have e2 : (nI (tr d f)).toInt = (tr d f : Int) := nI_toInt (by omega)
  have e3 : (Int32.ofInt (mv d f s) * nI (tr d f)).toInt = mv d f s * (tr d f : Int) := by
    rw [fb_mulI (by rw [e1, e2]; omega) (by rw [e1, e2]; omega), e1, e2]
  rw [Int32.toInt_div, e3, fb_ofI (by omega) (by omega), show (10 : Int32).toInt = 10 from by decide]
  exact fb_bmod (by unfold tmv at h3; omega) (by unfold tmv at h3; omega)
