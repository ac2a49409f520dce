/-! shares in least terms; wronged; cells -/
/-- Euclid's steps: b below 2 to the k needs 2 k + 1 of them at most -/
theorem euc_half {a b : Nat} (hb : 0 < b) (hr : 0 < a % b) : 2 * (b % (a % b)) < b := by
  have h1 : a % b < b := Nat.mod_lt _ hb
  have h2 : b % (a % b) < a % b := Nat.mod_lt _ hr
  rcases Nat.lt_or_ge (2 * (a % b)) (b + 1) with q | q
  · omega
  · have : b % (a % b) = b - a % b := by
      rw [Nat.mod_eq_sub_mod (by omega), Nat.mod_eq_of_lt (by omega)]
    omega
theorem gcd_step (a b : Nat) : Nat.gcd b (a % b) = Nat.gcd a b := by
  rw [Nat.gcd_comm a b, Nat.gcd_rec b a, Nat.gcd_comm]
theorem x_cd : ∀ (k a b st n : Nat), a < 2 ^ 20 → b < 2 ^ k → k ≤ 20 → st + 2 * k < 64 → 2 * k < n → f_X10_commonDivisor_7 n (nI a) (nI b) (nI st) = some (if (1 : Int32) < nI (Nat.gcd a b) then nI (Nat.gcd a b) else 1) := by
  intro k
  induction k with
  | zero =>
    intro a b st n ha hb _ hst hn
    obtain ⟨n, rfl⟩ : ∃ n', n = n' + 1 := ⟨n - 1, by omega⟩
    have e : b = 0 := by omega
    subst e
    rw [f_X10_commonDivisor_7_s]
    have c1 : ¬ (64 : Int32) ≤ nI st := nI_ge (a := st) (b := 64) (by omega) (by omega)
    simp only [c1, if_false, nI_0, if_true, f_X10_commonDivisor_34, Nat.gcd_zero_right]
  | succ k ih =>
    intro a b st n ha hb hk hst hn
    obtain ⟨n, rfl⟩ : ∃ n', n = n' + 1 := ⟨n - 1, by omega⟩
    have hb20 : b < 2 ^ 20 := Nat.lt_of_lt_of_le hb (Nat.pow_le_pow_right (by decide) hk)
    rw [f_X10_commonDivisor_7_s]
    have c1 : ¬ (64 : Int32) ≤ nI st := nI_ge (a := st) (b := 64) (by omega) (by omega)
    rcases Nat.eq_zero_or_pos b with q | q
    · subst q
      simp only [c1, if_false, nI_0, if_true, f_X10_commonDivisor_34, Nat.gcd_zero_right]
    · have c2 : ¬ nI b = 0 := nI_ne0 q (by omega)
      simp only [c1, if_false, c2, nI_1]
      rw [pk_rem (by omega) q (by omega)]
      obtain ⟨n, rfl⟩ : ∃ n', n = n' + 1 := ⟨n - 1, by omega⟩
      have hr : a % b < b := Nat.mod_lt _ q
      rw [f_X10_commonDivisor_7_s]
      have c3 : ¬ (64 : Int32) ≤ nI (st + 1) := nI_ge (a := st + 1) (b := 64) (by omega) (by omega)
      rcases Nat.eq_zero_or_pos (a % b) with z | z
      · rw [z]
        simp only [c3, if_false, nI_0, if_true, f_X10_commonDivisor_34]
        rw [← gcd_step a b, z, Nat.gcd_zero_right]
      · have c4 : ¬ nI (a % b) = 0 := nI_ne0 z (by omega)
        simp only [c3, if_false, c4, nI_1]
        rw [pk_rem (by omega) z (by omega)]
        have h2 := euc_half q z
        rw [ih (a % b) (b % (a % b)) (st + 1 + 1) n (by omega) (by
          have : 2 ^ (k + 1) = 2 * 2 ^ k := by rw [Nat.pow_succ]; omega
          omega) (by omega) (by omega) (by omega)]
        rw [gcd_step b (a % b), gcd_step a b]
theorem x_commonDivisor {a b : Nat} (ha : a < 2 ^ 20) (hb : b < 2 ^ 20) (hp : 0 < a) : f_X10_commonDivisor (nI a) (nI b) = some (nI (Nat.gcd a b)) := by
  unfold f_X10_commonDivisor
  have := x_cd 20 a b 0 1000 ha hb (Nat.le_refl _) (by omega) (by omega)
  rw [nI_0] at this
  rw [this]
  have g1 : 0 < Nat.gcd a b := Nat.gcd_pos_of_pos_left b hp
  have g2 : Nat.gcd a b ≤ a := Nat.gcd_le_left b hp
  by_cases q : Nat.gcd a b = 1
  · rw [q]; rfl
  · have h1 : (1 : Int32) < nI (Nat.gcd a b) := nI_lt (a := 1) (b := Nat.gcd a b) (by omega) (by omega)
    rw [if_pos h1]
theorem m_cd {F : ZF} {A : ZA} {T : Int64} {x1 x2 : Int32} (R : Nat → Option (Int32 × ZS)) (hR : ∀ g, 0 < g → g < 2 ^ 20 → (if x2 = 0 then (if gok x1 6 = true then (if nI g = 0 then none else (some (((A 17 (x1).toNatClampNeg) / nI g), F, A, T))) else none) else (if nI g = 0 then none else (some (((F 9) / nI g), F, A, T)))) = R g) :
    ∀ (b a n : Nat), a < 2 ^ 20 → b < 2 ^ 20 → (0 < a ∨ 0 < b) → b < n → f_X11_share_52 n x1 x2 (nI a) (nI b) F A T = R (Nat.gcd a b) := by
  intro b
  induction b using Nat.strongRecOn with
  | _ b ih =>
    intro a n ha hb hp hn
    obtain ⟨n, rfl⟩ : ∃ n', n = n' + 1 := ⟨n - 1, by omega⟩
    rw [f_X11_share_52_s]
    rcases Nat.eq_zero_or_pos b with q | q
    · subst q
      simp only [nI_0, if_true, Nat.gcd_zero_right]
      exact hR a (by omega) ha
    · have c2 : ¬ nI b = 0 := nI_ne0 q (by omega)
      simp only [c2, if_false]
      rw [pk_rem (by omega) q (by omega)]
      have hr : a % b < b := Nat.mod_lt _ q
      rw [ih (a % b) hr b n hb (by omega) (Or.inl q) (by omega), gcd_step]
theorem p_share : st_share Rel := by
  rintro a0 a1 U V ⟨a, hok, hx, hm⟩
  have hS := hok.1.1.1
  unfold f_X10_share f_X11_share f_X10_isSuspect f_X11_isSuspect
  simp only [in_wi, cl0, hx.1.1.1, hm.1.1.1]
  rcases one_of a0 (n := nS a.1) (by omega) with ⟨e, -⟩ | ⟨e, s, hs', rfl⟩
  · simp only [e, if_true]
    exact ⟨_, _, rfl, rfl, rfl, a, hok, hx, hm⟩
  · rcases two_of a1 (n := 1) (by decide) with ⟨e2, n2⟩ | ⟨e2, c, hc, rfl⟩
    · have e2 : f_X10_within a1 (0 : Int32) (1 : Int32) = 0 := e2
      simp only [e, one0, if_false, e2, if_true]
      exact ⟨_, _, rfl, rfl, rfl, a, hok, hx, hm⟩
    · have e2 : f_X10_within (nI c) (0 : Int32) (1 : Int32) = 1 := e2
      obtain ⟨F1, A1, x1, x2, x3, x4, x5, x6, x7⟩ := wX hok hx
      obtain ⟨F2, A2, m1, m2, m3, m4⟩ := hM hok hm
      have g6 : gok (nI s) 6 = true := gok_nI (by omega) (by decide)
      have hC := cas_le hok.1 (hs a) (fs a)
      have hh := hld_le hok.1 (hs a) (fs a) hs'
      simp only [e, one0, if_false, e2, x1, m1, Option.bind_some, x3, m3]
      rcases Nat.eq_zero_or_pos (cas a.1 (hs a) (fs a)) with q | q
      · simp only [q, nI_0, if_true]
        exact ⟨_, _, rfl, rfl, rfl, a, hok, x2, m2⟩
      · have c0 : ¬ nI (cas a.1 (hs a) (fs a)) = 0 := nI_ne0 q (by omega)
        have gp : 0 < Nat.gcd (cas a.1 (hs a) (fs a)) (hld a.1 (hs a) (fs a) s) := Nat.gcd_pos_of_pos_left _ q
        have gl : Nat.gcd (cas a.1 (hs a) (fs a)) (hld a.1 (hs a) (fs a) s) ≤ cas a.1 (hs a) (fs a) := Nat.gcd_le_left _ q
        have gn : ¬ nI (Nat.gcd (cas a.1 (hs a) (fs a)) (hld a.1 (hs a) (fs a) s)) = 0 := nI_ne0 gp (by omega)
        simp only [c0, if_false, g6, if_true, f_X10_share_59, nI_clamp (show s < 2 ^ 31 by omega), x3, x5 s hs', m4 s hs', x_commonDivisor (show cas a.1 (hs a) (fs a) < 2 ^ 20 by omega) (show hld a.1 (hs a) (fs a) s < 2 ^ 20 by omega) q, Option.bind_some, gn]
        have key := m_cd (F := F2) (A := A2) (T := V.2.2) (x1 := nI s) (x2 := nI c) _ (fun g _ _ => rfl) (cas a.1 (hs a) (fs a)) (hld a.1 (hs a) (fs a) s) 1000 (by omega) (by omega) (Or.inr q) (by omega)
        rw [key, Nat.gcd_comm (hld a.1 (hs a) (fs a) s)]
        simp only [g6, if_true, gn, if_false, nI_clamp (show s < 2 ^ 31 by omega), m4 s hs', m3]
        rcases (show c = 0 ∨ c = 1 by omega) with rfl | rfl
        · simp only [nI_0, if_true]
          exact ⟨_, _, rfl, rfl, rfl, a, hok, x2, m2⟩
        · have z1 : ¬ nI 1 = 0 := by decide
          simp only [z1, if_false]
          exact ⟨_, _, rfl, rfl, rfl, a, hok, x2, m2⟩
/-! wronged -/
def oth (a : ZQ) (s : Nat) : Nat := if ds a * hld a.1 (hs a) (fs a) s / 20 < ds a then ds a * hld a.1 (hs a) (fs a) s / 20 else ds a
def ab32 (q : Int32) : Int32 := if 0 ≤ q then q else 0 - q
def wrs (a : ZQ) : Nat → Nat → Int32 → Int32
  | 0, _, acc => acc
  | m + 1, k, acc => wrs a m (k + 1) (acc + ab32 (nI (srv a.1 (hs a) (fs a) (ds a) k) - nI (oth a k)))
theorem oth_b {a : ZQ} (hok : aOK a) {s : Nat} (hs' : s < nS a.1) : ds a * hld a.1 (hs a) (fs a) s < 2 ^ 20 := by
  have h1 := ds_le hok
  have h2 := hld_le hok.1 (hs a) (fs a) hs'
  exact Nat.lt_of_le_of_lt (Nat.mul_le_mul h1 h2) (by decide)
theorem x_wt {a : ZQ} (hok : aOK a) {F : ZF} {A : ZA} {T : Int64} (h12 : F 12 = nI (ds a)) (h14 : ∀ j, j < nS a.1 → A 14 j = nI (hld a.1 (hs a) (fs a) j)) (h15 : ∀ j, j < nS a.1 → A 15 j = nI (srv a.1 (hs a) (fs a) (ds a) j)) {s : Nat} (hs' : s < nS a.1) : f_X10_wrongTo (nI s) F A T = some (nI (srv a.1 (hs a) (fs a) (ds a) s) - nI (oth a s)) := by
  have hS := hok.1.1.1
  have hb := oth_b hok hs'
  have hd := ds_le hok
  unfold f_X10_wrongTo
  have g6 : gok (nI s) 6 = true := gok_nI (by omega) (by decide)
  simp only [g6, if_true, nI_clamp (show s < 2 ^ 31 by omega), h12, h14 s hs', h15 s hs', pk_mul]
  rw [show (20 : Int32) = nI 20 from rfl, pk_div (by omega) (by decide) (by decide)]
  unfold oth
  by_cases q : ds a * hld a.1 (hs a) (fs a) s / 20 < ds a
  · rw [if_pos (nI_lt q (by omega)), if_pos q]
  · rw [if_neg (nI_nlt (by omega) (by omega)), if_neg q]
theorem m_bo {a : ZQ} (hok : aOK a) {F : ZF} {A : ZA} {T : Int64} (h12 : A 15 2 = nI (ds a)) (h14 : ∀ j, j < nS a.1 → A 17 j = nI (hld a.1 (hs a) (fs a) j)) {s : Nat} (hs' : s < nS a.1) : f_X11_byOther (nI s) F A T = some (nI (oth a s)) := by
  have hS := hok.1.1.1
  have hb := oth_b hok hs'
  have hd := ds_le hok
  unfold f_X11_byOther
  have g6 : gok (nI s) 6 = true := gok_nI (by omega) (by decide)
  simp only [g6, if_true, cl2, nI_clamp (show s < 2 ^ 31 by omega), h12, h14 s hs', pk_mul]
  rw [show (20 : Int32) = nI 20 from rfl, pk_div (by omega) (by decide) (by decide)]
  unfold oth
  by_cases q : ds a * hld a.1 (hs a) (fs a) s / 20 < ds a
  · rw [if_pos (nI_le (by omega) (by omega)), if_pos q]
  · rw [if_neg q]
    by_cases q2 : ds a * hld a.1 (hs a) (fs a) s / 20 = ds a
    · rw [q2, if_pos (nI_le (Nat.le_refl _) (by omega))]
    · rw [if_neg (nI_ge (by omega) (by omega))]
theorem p_wronged : st_wronged Rel := by
  rintro a0 U V ⟨a, hok, hx, hm⟩
  have hS := hok.1.1.1
  obtain ⟨F1, A1, x1, x2, x3, x4, x5, x6, x7⟩ := wX hok hx
  obtain ⟨F2, A2, m1, m2, m3, m4, m5⟩ := wM hok hm
  have e22 : F1 22 = nI (nS a.1) := x2.1.1.1
  have e12 : F1 12 = nI (ds a) := x2.2.1.2.2.1
  have f2 : A2 2 0 = nI (nS a.1) := m2.1.1.1
  have f12 : A2 15 2 = nI (ds a) := m2.2.1.2.2.1
  have kx : ∀ (m k n : Nat) (acc : Int32), k + m = nS a.1 → m < n → f_X10_wronged_34 n acc (nI k) F1 A1 U.2.2 = some (wrs a m k acc, F1, A1, U.2.2) := by
    intro m
    induction m with
    | zero =>
      intro k n acc hk hn
      obtain ⟨n, rfl⟩ : ∃ n', n = n' + 1 := ⟨n - 1, by omega⟩
      rw [f_X10_wronged_34_s]
      have c1 : F1 22 ≤ nI k := by rw [e22]; exact nI_le (by omega) (by omega)
      simp only [c1, if_true, wrs]
    | succ m ih =>
      intro k n acc hk hn
      obtain ⟨n, rfl⟩ : ∃ n', n = n' + 1 := ⟨n - 1, by omega⟩
      rw [f_X10_wronged_34_s]
      have c1 : ¬ F1 22 ≤ nI k := by rw [e22]; exact nI_ge (by omega) (by omega)
      simp only [c1, if_false, x_wt hok (T := U.2.2) e12 x5 x6 (show k < nS a.1 by omega), Option.bind_some, nI_1]
      exact ih (k + 1) n _ (by omega) (by omega)
  have km : ∀ (m k n : Nat) (y acc : Int32) (R : Option (Int32 × ZS)), (if y = (-1 : Int32) then (some (wrs a m k acc, F2, A2, V.2.2)) else (if gok y 6 = true then (Option.bind (f_X11_byOther y F2 A2 V.2.2) fun q10 => (some (((A2 18 (y).toNatClampNeg) - q10), F2, A2, V.2.2))) else none)) = R → k + m = nS a.1 → m < n → f_X11_wronged_24 n y acc (nI k) F2 A2 V.2.2 = R := by
    intro m
    induction m with
    | zero =>
      intro k n y acc R hR hk hn
      obtain ⟨n, rfl⟩ : ∃ n', n = n' + 1 := ⟨n - 1, by omega⟩
      rw [f_X11_wronged_24_s]
      have c1 : A2 2 0 ≤ nI k := by rw [f2]; exact nI_le (by omega) (by omega)
      simp only [cl0, c1, if_true]
      exact hR
    | succ m ih =>
      intro k n y acc R hR hk hn
      obtain ⟨n, rfl⟩ : ∃ n', n = n' + 1 := ⟨n - 1, by omega⟩
      rw [f_X11_wronged_24_s]
      have c1 : ¬ A2 2 0 ≤ nI k := by rw [f2]; exact nI_ge (by omega) (by omega)
      have g6 : gok (nI k) 6 = true := gok_nI (by omega) (by decide)
      simp only [cl0, c1, if_false, g6, if_true, m_bo hok (F := F2) (T := V.2.2) f12 m4 (show k < nS a.1 by omega), Option.bind_some, nI_clamp (show k < 2 ^ 31 by omega), m5 k (by omega), f_X11_wronged_62, nI_1]
      have := ih (k + 1) n y (acc + ab32 (nI (srv a.1 (hs a) (fs a) (ds a) k) - nI (oth a k))) R hR (by omega) (by omega)
      unfold ab32 at this
      by_cases q : 0 ≤ nI (srv a.1 (hs a) (fs a) (ds a) k) - nI (oth a k)
      · rw [if_pos q]; rw [if_pos q] at this; exact this
      · rw [if_neg q]; rw [if_neg q] at this; exact this
  unfold f_X10_wronged f_X11_wronged f_X10_isSuspect f_X11_isSuspect f_X10_wronged_16 f_X11_wronged_16
  simp only [in_wi, cl0, hx.1.1.1, hm.1.1.1, x1, m1, Option.bind_some]
  by_cases h1 : a0 = -1
  · subst h1
    have lt : (-1 : Int32) < 0 := by decide
    have kx0 := kx (nS a.1) 0 1000 0 (by omega) (by omega)
    have km0 := km (nS a.1) 0 1000 (-1) 0 _ rfl (by omega) (by omega)
    rw [nI_0] at kx0 km0
    simp only [if_true, lt, kx0]
    rw [km0, if_pos rfl]
    exact ⟨_, _, rfl, rfl, rfl, a, hok, x2, m2⟩
  · rcases one_of a0 (n := nS a.1) (by omega) with ⟨e, -⟩ | ⟨e, s, hs', rfl⟩
    · simp only [h1, if_false, e, if_true]
      exact ⟨_, _, rfl, rfl, rfl, a, hok, hx, hm⟩
    · have lt : ¬ nI s < 0 := nI_pos (by omega)
      have km0 := km (nS a.1) 0 1000 (nI s) 0 _ rfl (by omega) (by omega)
      rw [nI_0] at km0
      have g6 : gok (nI s) 6 = true := gok_nI (by omega) (by decide)
      simp only [h1, if_false, e, one0, lt, x_wt hok (T := U.2.2) e12 x5 x6 hs', Option.bind_some, km0, g6, if_true, m_bo hok (F := F2) (T := V.2.2) f12 m4 hs', nI_clamp (show s < 2 ^ 31 by omega), m5 s hs']
      exact ⟨_, _, rfl, rfl, rfl, a, hok, x2, m2⟩
/-! cells -/
def fit (a : ZQ) (n : Nat) : Nat → Nat → Bool
  | 0, _ => true
  | m + 1, k => decide (srv a.1 (hs a) (fs a) (ds a) k ≤ n) && fit a n m (k + 1)
def cln (a : ZQ) (n : Nat) : Int32 := if fit a n (nS a.1) 0 = true then nI ((sal a + n - 1) / n) else -9
theorem x_cn {a : ZQ} (hok : aOK a) {F : ZF} {A : ZA} {T : Int64} (h9 : F 9 = nI (nS a.1)) (h22 : F 22 = nI (nS a.1)) (h15 : ∀ j, j < nS a.1 → A 15 j = nI (srv a.1 (hs a) (fs a) (ds a) j)) {n : Nat} (hn1 : 1 ≤ n) (hn2 : n ≤ 60) : f_X10_cellsNeeded (nI n) F A T = some (cln a n) := by
  have hS := hok.1.1.1
  have hd := ds_le hok
  have hal := sal_le hok (Nat.le_refl _)
  have key : ∀ (m k w : Nat), k + m = nS a.1 → m < w → f_X10_cellsNeeded_2 F A T w (nI n) (nI k) = some (if fit a n m k = true then nI ((sal a + n - 1) / n) else -9) := by
    intro m
    induction m with
    | zero =>
      intro k w hk hw
      obtain ⟨w, rfl⟩ : ∃ w', w = w' + 1 := ⟨w - 1, by omega⟩
      rw [f_X10_cellsNeeded_2_s]
      have c1 : F 22 ≤ nI k := by rw [h22]; exact nI_le (by omega) (by omega)
      have c2 : ¬ nI n = 0 := nI_ne0 hn1 (by omega)
      have hal' : sal a ≤ 396 := hal
      simp only [c1, if_true, x_all hok (T := T) h9 h15, Option.bind_some, c2, if_false, fit, nI_add]
      rw [show (1 : Int32) = nI 1 from rfl, pk_sub (by omega), pk_div (by omega) hn1 (by omega)]
    | succ m ih =>
      intro k w hk hw
      obtain ⟨w, rfl⟩ : ∃ w', w = w' + 1 := ⟨w - 1, by omega⟩
      rw [f_X10_cellsNeeded_2_s]
      have c1 : ¬ F 22 ≤ nI k := by rw [h22]; exact nI_ge (by omega) (by omega)
      have g6 : gok (nI k) 6 = true := gok_nI (by omega) (by decide)
      have hb := srv_le hok.1 (hd := hs a) (set := fs a) (D := ds a) (show k < nS a.1 by omega)
      simp only [c1, if_false, g6, if_true, nI_clamp (show k < 2 ^ 31 by omega), h15 k (by omega), nI_1, fit]
      by_cases q : srv a.1 (hs a) (fs a) (ds a) k ≤ n
      · rw [if_pos (nI_le q (by omega)), ih (k + 1) w (by omega) (by omega)]
        simp [q]
      · rw [if_neg (nI_ge (by omega) (by omega))]
        simp [q]
  have := key (nS a.1) 0 1000 (by omega) (by omega)
  exact this
theorem m_fit {a : ZQ} (hok : aOK a) {F : ZF} {A : ZA} {T : Int64} (hm : TM a.1 A) (h18 : ∀ j, j < nS a.1 → A 18 j = nI (srv a.1 (hs a) (fs a) (ds a) j)) {n : Nat} (hn2 : n ≤ 60) : f_X11_fitsIn (nI n) F A T = some (if fit a n (nS a.1) 0 = true then 1 else 0) := by
  have hS := hok.1.1.1
  have hd := ds_le hok
  have key : ∀ (m k w : Nat) (b : Bool), k + m = nS a.1 → m < w → f_X11_fitsIn_4 F A T w (nI n) (if b = true then 1 else 0) (nI k) = some (if (b && fit a n m k) = true then 1 else 0) := by
    intro m
    induction m with
    | zero =>
      intro k w b hk hw
      obtain ⟨w, rfl⟩ : ∃ w', w = w' + 1 := ⟨w - 1, by omega⟩
      rw [f_X11_fitsIn_4_s]
      have c1 : A 2 0 ≤ nI k := by rw [hm.1.1]; exact nI_le (by omega) (by omega)
      simp only [cl0, c1, if_true, fit, Bool.and_true]
      cases b <;> rfl
    | succ m ih =>
      intro k w b hk hw
      obtain ⟨w, rfl⟩ : ∃ w', w = w' + 1 := ⟨w - 1, by omega⟩
      rw [f_X11_fitsIn_4_s]
      have c1 : ¬ A 2 0 ≤ nI k := by rw [hm.1.1]; exact nI_ge (by omega) (by omega)
      have g6 : gok (nI k) 6 = true := gok_nI (by omega) (by decide)
      have hb := srv_le hok.1 (hd := hs a) (set := fs a) (D := ds a) (show k < nS a.1 by omega)
      have i0 := ih (k + 1) w false (by omega) (by omega)
      have i1 := ih (k + 1) w true (by omega) (by omega)
      simp only [Bool.false_and, Bool.true_and, Bool.false_eq_true, if_false, if_true] at i0 i1
      simp only [cl0, c1, if_false, g6, if_true, nI_clamp (show k < 2 ^ 31 by omega), h18 k (by omega), nI_1, fit]
      cases b with
      | false => simp only [Bool.false_eq_true, if_false, if_true, Bool.false_and]; exact i0
      | true =>
        simp only [if_true, one0, if_false, Bool.true_and]
        by_cases q : srv a.1 (hs a) (fs a) (ds a) k ≤ n
        · rw [if_neg (nI_nlt q (by omega)), i1]
          simp [q]
        · rw [if_pos (nI_lt (by omega) (by omega)), i0]
          simp [q]
  have := key (nS a.1) 0 1000 true (by omega) (by omega)
  rw [nI_0] at this
  unfold f_X11_fitsIn
  simpa using this
theorem one_to (x : Int32) : (f_X10_within x 1 60 = 0 ∧ ¬ ∃ n, 1 ≤ n ∧ n ≤ 60 ∧ x = nI n) ∨ (f_X10_within x 1 60 = 1 ∧ ∃ n, 1 ≤ n ∧ n ≤ 60 ∧ x = nI n) := by
  rw [wi_eq]
  have e1 : (1 : Int32).toInt = 1 := by decide
  have e60 : (60 : Int32).toInt = 60 := by decide
  by_cases h : (1 : Int32) ≤ x ∧ x ≤ 60
  · right
    rw [if_pos h]
    obtain ⟨h1, h2⟩ := h
    rw [fa_le] at h1 h2
    refine ⟨rfl, x.toInt.toNat, by omega, by omega, ?_⟩
    apply Int32.toInt_inj.mp
    rw [nI_toInt (by omega)]
    omega
  · left
    rw [if_neg h]
    refine ⟨rfl, ?_⟩
    rintro ⟨n, h1, h2, rfl⟩
    apply h
    rw [fa_le, fa_le, nI_toInt (by omega)]
    omega
theorem p_cellsFor : st_cellsFor Rel := by
  rintro a0 U V ⟨a, hok, hx, hm⟩
  have hS := hok.1.1.1
  unfold f_X10_cellsFor f_X11_cellsFor
  rw [in_wi]
  rcases one_to a0 with ⟨e, -⟩ | ⟨e, n, h1, h2, rfl⟩
  · simp only [e, if_true]
    exact ⟨_, _, rfl, rfl, rfl, a, hok, hx, hm⟩
  · obtain ⟨F1, A1, x1, x2, x3, x4, x5, x6, x7⟩ := wX hok hx
    obtain ⟨F2, A2, m1, m2, m3⟩ := aM hok hm
    have hal := sal_le hok (Nat.le_refl _)
    have hal' : sal a ≤ 396 := hal
    have c2 : ¬ nI n = 0 := nI_ne0 h1 (by omega)
    simp only [e, one0, if_false, x1, m1, Option.bind_some, x_cn hok (T := U.2.2) x4 x2.1.1.1 x6 h1 h2, m_fit hok (F := F2) (T := V.2.2) m2.1 m3 h2, ite00, c2, nI_add]
    unfold cln
    cases q : fit a n (nS a.1) 0
    · simp only [Bool.false_eq_true, if_false, if_true]
      exact ⟨_, _, rfl, rfl, rfl, a, hok, x2, m2⟩
    · simp only [Bool.true_eq_false, if_false, if_true]
      rw [show (1 : Int32) = nI 1 from rfl, pk_sub (by omega), pk_div (by omega) h1 (by omega)]
      exact ⟨_, _, rfl, rfl, rfl, a, hok, x2, m2⟩
