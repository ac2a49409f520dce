/-! who sits when -/
def off (b n day : Nat) : Nat := (day + n - b % n) % n
theorem off_spec {b n day : Nat} (hn : 0 < n) (hday : day < n) : off b n day < n ∧ (b + off b n day) % n = day ∧ ∀ i, i < off b n day → (b + i) % n ≠ day := by
  have hr : b % n < n := Nat.mod_lt _ hn
  have hm : ∀ i, (b + i) % n = (b % n + i) % n := fun i => by rw [Nat.mod_add_mod]
  by_cases c : b % n ≤ day
  · have e : off b n day = day - b % n := by
      unfold off
      rw [Nat.mod_eq_sub_mod (by omega), Nat.mod_eq_of_lt (by omega)]
      omega
    rw [e]
    refine ⟨by omega, ?_, fun i hi => ?_⟩
    · rw [hm, Nat.mod_eq_of_lt (by omega)]; omega
    · rw [hm, Nat.mod_eq_of_lt (by omega)]; omega
  · have e : off b n day = day + n - b % n := by
      unfold off
      rw [Nat.mod_eq_of_lt (by omega)]
    rw [e]
    refine ⟨by omega, ?_, fun i hi => ?_⟩
    · rw [hm, show b % n + (day + n - b % n) = day + n by omega, Nat.add_mod_right, Nat.mod_eq_of_lt hday]
    · rw [hm]
      by_cases c2 : b % n + i < n
      · rw [Nat.mod_eq_of_lt c2]; omega
      · rw [Nat.mod_eq_sub_mod (by omega), Nat.mod_eq_of_lt (by omega)]; omega
def sit (b w n day : Nat) : Int32 := if w ≤ off b n day then -9 else nI ((b + off b n day) / n)
theorem sub_sw (x y z : Int32) : x - y + z = x + z - y := by rw [Int32.sub_eq_add_neg, Int32.add_assoc, Int32.add_comm (-y), ← Int32.add_assoc, ← Int32.sub_eq_add_neg]
theorem x_s54 {n s day : Nat} {sv : Nat → Nat} (hn : 0 < n) (hn2 : n ≤ 60) (hs : s < 6) (hday : day < n) {F : ZF} {A : ZA} {T : Int64} (h15 : ∀ j, j ≤ s → A 15 j = nI (sv j)) (hb : ∀ j, j ≤ s + 1 → fb_sm sv j ≤ 396) : ∀ (m k w : Nat), k + m = s → m < w → f_X10_sits_54 w (nI n) (nI s) (nI day) (nI (fb_sm sv k)) (nI k) F A T = some (sit (fb_sm sv s) (sv s) n day, F, A, T) := by
  have g : ∀ k, k < 6 → gok (nI k) 6 = true := fun k hk => gok_nI hk (by decide)
  intro m
  induction m with
  | zero =>
    intro k w hk hw
    obtain ⟨w, rfl⟩ : ∃ w', w = w' + 1 := ⟨w - 1, by omega⟩
    have e : k = s := by omega
    subst e
    have hb1 := hb k (by omega)
    have hb2 := hb (k + 1) (by omega)
    rw [fb_sm_succ] at hb2
    have hr : fb_sm sv k % n < n := Nat.mod_lt _ hn
    have z : ¬ nI n = 0 := nI_ne0 hn (by omega)
    have o1 := (off_spec (b := fb_sm sv k) hn hday).1
    rw [f_X10_sits_54_s, if_pos (nI_le (Nat.le_refl _) (by omega)), if_neg z, if_neg z, if_neg z, if_pos (g k hs), pk_rem (by omega) hn (by omega), sub_sw, nI_add, pk_sub (by omega), pk_rem (by omega) hn (by omega), nI_clamp (by omega), h15 k (Nat.le_refl _)]
    rw [show (day + n - fb_sm sv k % n) % n = off (fb_sm sv k) n day from rfl, nI_add, pk_div (by omega) hn (by omega)]
    unfold sit
    by_cases q : sv k ≤ off (fb_sm sv k) n day
    · rw [if_pos (nI_le q (by omega)), if_pos q]
    · rw [if_neg (nI_ge (by omega) (by omega)), if_neg q]
  | succ m ih =>
    intro k w hk hw
    obtain ⟨w, rfl⟩ : ∃ w', w = w' + 1 := ⟨w - 1, by omega⟩
    rw [f_X10_sits_54_s, if_neg (nI_ge (by omega) (by omega)), if_pos (g k (by omega)), nI_clamp (by omega), h15 k (by omega), nI_add, nI_1]
    exact ih (k + 1) w (by omega) (by omega)
theorem m_s80 {n s day b w : Nat} (hn : 0 < n) (hn2 : n ≤ 60) (hs : s < 6) (hday : day < n) (hb : b + w ≤ 396) {F : ZF} {A : ZA} {T : Int64} (h18 : A 18 s = nI w) : ∀ (m k r : Nat), k + m = w → m < r → (∀ i, i < k → (b + i) % n ≠ day) → f_X11_sits_80 r (nI n) (nI s) (nI day) (nI b) (nI (b + k)) F A T = some (sit b w n day, F, A, T) := by
  obtain ⟨o1, o2, o3⟩ := off_spec (b := b) hn hday
  have g : gok (nI s) 6 = true := gok_nI hs (by decide)
  have z : ¬ nI n = 0 := nI_ne0 hn (by omega)
  intro m
  induction m with
  | zero =>
    intro k r hk hr hi
    obtain ⟨r, rfl⟩ : ∃ r', r = r' + 1 := ⟨r - 1, by omega⟩
    rw [f_X11_sits_80_s, if_pos g, nI_clamp (by omega), h18, nI_add, if_pos (nI_le (by omega) (by omega))]
    unfold sit
    rw [if_pos]
    apply Nat.le_of_not_lt
    intro q
    exact hi _ (by omega) o2
  | succ m ih =>
    intro k r hk hr hi
    obtain ⟨r, rfl⟩ : ∃ r', r = r' + 1 := ⟨r - 1, by omega⟩
    rw [f_X11_sits_80_s, if_pos g, nI_clamp (by omega), h18, nI_add, if_neg (nI_ge (by omega) (by omega)), if_neg z, if_neg z, pk_rem (by omega) hn (by omega), pk_div (by omega) hn (by omega)]
    have hr2 : (b + k) % n < n := Nat.mod_lt _ hn
    by_cases q : (b + k) % n = day
    · rw [if_pos (by rw [q])]
      have e : k = off b n day := by
        rcases Nat.lt_trichotomy k (off b n day) with h | h | h
        · exact absurd q (o3 k h)
        · exact h
        · exact absurd o2 (hi _ h)
      unfold sit
      rw [← e, if_neg (by omega)]
    · rw [if_neg (fun h => q ((nI_eq (by omega) (by omega)).mp h)), nI_1]
      refine ih (k + 1) r (by omega) (by omega) (fun i hi2 => ?_)
      by_cases h : i = k
      · subst h; exact q
      · exact hi i (by omega)
theorem m_s52 {n s day : Nat} {sv : Nat → Nat} (hn : 0 < n) (hn2 : n ≤ 60) (hs : s < 6) (hday : day < n) {F : ZF} {A : ZA} {T : Int64} (h18 : ∀ j, j ≤ s → A 18 j = nI (sv j)) (hb : ∀ j, j ≤ s + 1 → fb_sm sv j ≤ 396) : ∀ (m k w : Nat), k + m = s → m < w → f_X11_sits_52 w (nI n) (nI s) (nI day) (nI (fb_sm sv k)) (nI k) F A T = some (sit (fb_sm sv s) (sv s) n day, F, A, T) := by
  have g : ∀ k, k < 6 → gok (nI k) 6 = true := fun k hk => gok_nI hk (by decide)
  intro m
  induction m with
  | zero =>
    intro k w hk hw
    obtain ⟨w, rfl⟩ : ∃ w', w = w' + 1 := ⟨w - 1, by omega⟩
    have e : k = s := by omega
    subst e
    have hb2 := hb (k + 1) (by omega)
    rw [fb_sm_succ] at hb2
    rw [f_X11_sits_52_s, if_pos (nI_le (Nat.le_refl _) (by omega))]
    exact m_s80 hn hn2 hs hday hb2 (h18 k (Nat.le_refl _)) (sv k) 0 1000 (by omega) (by omega) (fun i hi => absurd hi (Nat.not_lt_zero i))
  | succ m ih =>
    intro k w hk hw
    obtain ⟨w, rfl⟩ : ∃ w', w = w' + 1 := ⟨w - 1, by omega⟩
    rw [f_X11_sits_52_s, if_neg (nI_ge (by omega) (by omega)), if_pos (g k (by omega)), nI_clamp (by omega), h18 k (by omega), nI_add, nI_1]
    exact ih (k + 1) w (by omega) (by omega)
theorem p_sits : st_sits Rel := by
  rintro a0 a1 a2 U V ⟨a, hok, hx, hm⟩
  have hS := hok.1.1.1
  have n1 : ¬ (1 : Int32) = 0 := by decide
  unfold f_X10_sits f_X11_sits f_X10_isSuspect f_X11_isSuspect
  rw [in_wi, in_wi, in_wi, cl0, hx.1.1.1, hm.1.1.1]
  rcases one_to a0 with ⟨e, -⟩ | ⟨e, n, h1, h2, rfl⟩
  · rw [e, if_pos rfl, if_pos rfl]
    exact ⟨_, _, rfl, rfl, rfl, a, hok, hx, hm⟩
  · rw [e, if_neg n1, if_neg n1]
    rcases one_of a1 (n := nS a.1) (by omega) with ⟨e, -⟩ | ⟨e, s, hs', rfl⟩
    · rw [e, if_pos rfl, if_pos rfl]
      exact ⟨_, _, rfl, rfl, rfl, a, hok, hx, hm⟩
    · rw [e, if_neg n1, if_neg n1]
      rcases one_of a2 (n := n) (by omega) with ⟨e, -⟩ | ⟨e, day, hday, rfl⟩
      · rw [e, if_pos rfl, if_pos rfl]
        exact ⟨_, _, rfl, rfl, rfl, a, hok, hx, hm⟩
      · obtain ⟨F1, A1, x1, x2, x3, x4, x5, x6, x7⟩ := wX hok hx
        obtain ⟨F2, A2, m1, m2, m3, m4, m5⟩ := wM hok hm
        have hal : sal a ≤ 396 := sal_le hok (Nat.le_refl _)
        rw [e, if_neg n1, if_neg n1, x1, m1, Option.bind_some, Option.bind_some]
        dsimp only
        rw [x_cn hok (T := U.2.2) x4 x2.1.1.1 x6 h1 h2, m_fit hok (F := F2) (T := V.2.2) m2.1 m5 h2, Option.bind_some, Option.bind_some]
        have kx := x_s54 (T := U.2.2) h1 h2 (show s < 6 by omega) hday (F := F1) (fun j hj => x6 j (by omega)) (fun j hj => sal_le hok (show j ≤ nS a.1 by omega)) s 0 1000 (by omega) (by omega)
        have km := m_s52 (T := V.2.2) h1 h2 (show s < 6 by omega) hday (F := F2) (fun j hj => m5 j (by omega)) (fun j hj => sal_le hok (show j ≤ nS a.1 by omega)) s 0 1000 (by omega) (by omega)
        have kx : f_X10_sits_54 1000 (nI n) (nI s) (nI day) (0 : Int32) (0 : Int32) F1 A1 U.2.2 = _ := kx
        have km : f_X11_sits_52 1000 (nI n) (nI s) (nI day) (0 : Int32) (0 : Int32) F2 A2 V.2.2 = _ := km
        unfold cln
        cases q : fit a n (nS a.1) 0
        · have f1 : ¬ (false = true) := by decide
          rw [if_neg f1, if_neg f1, if_pos rfl, if_pos rfl]
          exact ⟨_, _, rfl, rfl, rfl, a, hok, x2, m2⟩
        · have c9 : ¬ nI ((sal a + n - 1) / n) = (-9 : Int32) := by
            have := Nat.div_le_self (sal a + n - 1) n
            intro h
            have h3 := congrArg Int32.toInt h
            rw [nI_toInt (Nat.lt_of_le_of_lt this (by omega)), show (-9 : Int32).toInt = -9 by decide] at h3
            have := Int.natCast_nonneg ((sal a + n - 1) / n)
            omega
          rw [if_pos rfl, if_neg c9, if_pos rfl, if_neg n1, kx, km]
          exact ⟨_, _, rfl, rfl, rfl, a, hok, x2, m2⟩
