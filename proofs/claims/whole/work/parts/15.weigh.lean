/-! the sums: held, and the case -/
def hsm (d : ZD) (set s k : Nat) : Int := (gr d s : Int) + fb_si (fun f => if set.testBit f then tmv d f s else 0) k
theorem hsm_succ (d : ZD) (set s k : Nat) : hsm d set s (k + 1) = hsm d set s k + (if set.testBit k then tmv d k s else 0) := by
  unfold hsm
  rw [fb_si_succ]
  omega
theorem hsm_b {d : ZD} (hd0 : dOK d) (set : Nat) {s k : Nat} (hs : s < nS d) (hk : k ≤ nF d) : -92 ≤ hsm d set s k ∧ hsm d set s k ≤ 92 := by
  have h1 := hd0.2.1 s hs
  have hS := hd0.1.1
  have hF := hd0.1.2.1
  have h2 := fb_si_bound (f := fun f => if set.testBit f then tmv d f s else 0) (c := 9) (by decide) (n := k) (fun j hj => by
    have := tmv_b hd0 (show j < nF d by omega) (show s < 6 by omega)
    by_cases b : set.testBit j = true
    · simp only [b, if_true]; omega
    · show -9 ≤ (if set.testBit j = true then tmv d j s else 0) ∧ (if set.testBit j = true then tmv d j s else 0) ≤ 9
      rw [if_neg b]; decide)
  unfold hsm
  omega
/-- what is held against one by a set of facts, alibis heard being hd -/
def hld (d : ZD) (hd set s : Nat) : Nat := (hsm d set s (nF d)).toNat - hrs d hd s
theorem hld_le {d : ZD} (hd0 : dOK d) (hd set : Nat) {s : Nat} (hs : s < nS d) : hld d hd set s ≤ 92 := by
  have := hsm_b hd0 set hs (Nat.le_refl _)
  unfold hld
  omega
theorem clampX {z : Int} {h : Nat} (hz : -92 ≤ z ∧ z ≤ 92) (hh : h ≤ 24) : (if (0 : Int32) < ((if (0 : Int32) < Int32.ofInt z then Int32.ofInt z else (0 : Int32)) - nI h) then ((if (0 : Int32) < Int32.ofInt z then Int32.ofInt z else (0 : Int32)) - nI h) else (0 : Int32)) = nI (z.toNat - h) := by
  have e0 : (0 : Int32).toInt = 0 := by decide
  have e1 : (Int32.ofInt z).toInt = z := fb_ofI (by omega) (by omega)
  have m1 : (if (0 : Int32) < Int32.ofInt z then Int32.ofInt z else (0 : Int32)) = nI z.toNat := by
    by_cases q : 0 < z
    · rw [if_pos (by rw [fa_lt, e0, e1]; exact q), nI_iI]
      congr 1
      omega
    · rw [if_neg (by rw [fa_lt, e0, e1]; exact q), show z.toNat = 0 by omega, nI_0]
  rw [m1]
  have e2 := pk_sub_toInt (a := z.toNat) (b := h) (by omega) (by omega)
  by_cases q : h < z.toNat
  · rw [if_pos (by rw [fa_lt, e0, e2]; omega), pk_sub (by omega)]
  · rw [if_neg (by rw [fa_lt, e0, e2]; omega), show z.toNat - h = 0 by omega, nI_0]
theorem x_h11 {d : ZD} (hd0 : dOK d) {F : ZF} {A : ZA} {T : Int64} (hx : TX d F A) {hd set s : Nat} (hset : set < 256) (hs : s < nS d) (e16 : A 16 s = nI (hrs d hd s)) :
    ∀ (m k n : Nat), k + m = nF d → m < n → f_X5_heldBy_11 F A T n (nI set) (nI s) (Int32.ofInt (hsm d set s k)) (nI k) = some (nI (hld d hd set s)) := by
  have hS := hd0.1.1
  have hF := hd0.1.2.1
  intro m
  induction m with
  | zero =>
    intro k n hk hn
    obtain ⟨n, rfl⟩ : ∃ n', n = n' + 1 := ⟨n - 1, by omega⟩
    rw [f_X5_heldBy_11_s]
    have c1 : F 23 ≤ nI k := by rw [hx.1.2.1]; exact nI_le (by omega) (by omega)
    have g : gok (nI s) 6 = true := gok_nI (by omega) (by decide)
    simp only [c1, if_true, g, nI_clamp (show s < 2 ^ 31 by omega), e16]
    rw [clampX (hsm_b hd0 set hs (by omega)) (hrs_le d hd s)]
    have : k = nF d := by omega
    subst this
    rfl
  | succ m ih =>
    intro k n hk hn
    obtain ⟨n, rfl⟩ : ∃ n', n = n' + 1 := ⟨n - 1, by omega⟩
    rw [f_X5_heldBy_11_s]
    have c1 : ¬ F 23 ≤ nI k := by rw [hx.1.2.1]; exact nI_ge (by omega) (by omega)
    have ix1 : nI k * (6 : Int32) + nI s = nI (6 * k + s) := by
      rw [show (6 : Int32) = nI 6 from rfl, pk_mul, nI_add, Nat.mul_comm]
    have g1 : gok (nI (6 * k + s)) 48 = true := gok_nI (by omega) (by decide)
    have t := hx.2.2.2.1 k (by omega) s (by omega)
    have st := hsm_succ d set s k
    have := ih (k + 1) n (by omega) (by omega)
    simp only [c1, if_false, bitX (show set < 2 ^ 31 by omega) (show k < 32 by omega), ite10, ix1, g1, if_true, nI_clamp (show 6 * k + s < 2 ^ 31 by omega), t.2, iI_add, nI_1]
    by_cases b : set.testBit k = true
    · simp only [b, if_true] at st ⊢
      rw [← st]
      exact this
    · simp only [b] at st ⊢
      rw [show hsm d set s (k + 1) = hsm d set s k by simpa using st] at this
      exact this
theorem x_heldBy {d : ZD} (hd0 : dOK d) {F : ZF} {A : ZA} {T : Int64} (hx : TX d F A) {hd set s : Nat} (hset : set < 256) (hs : s < nS d) (e16 : A 16 s = nI (hrs d hd s)) : f_X5_heldBy (nI set) (nI s) F A T = some (nI (hld d hd set s)) := by
  have hS := hd0.1.1
  have hF := hd0.1.2.1
  unfold f_X5_heldBy
  rw [if_pos (gok_nI (by omega) (by decide)), nI_clamp (by omega), hx.2.1 s hs]
  have := x_h11 hd0 (T := T) hx hset hs e16 (nF d) 0 1000 (by omega) (by omega)
  rw [show hsm d set s 0 = (gr d s : Int) by simp [hsm, fb_si], ← nI_iI, nI_0] at this
  exact this
theorem m_h10 {d : ZD} (hd0 : dOK d) {F : ZF} {A : ZA} {T : Int64} (hm : TM d A) {hd set s : Nat} (hh : hd < 256) (eh : A 15 1 = nI hd) (hset : set < 256) (hs : s < nS d) :
    ∀ (m k n : Nat), k + m = nF d → m < n → f_X11_heldBy_10 F A T n (nI s) (nI set) (Int32.ofInt (hsm d set s k)) (nI k) = some (nI (hld d hd set s)) := by
  have hS := hd0.1.1
  have hF := hd0.1.2.1
  intro m
  induction m with
  | zero =>
    intro k n hk hn
    obtain ⟨n, rfl⟩ : ∃ n', n = n' + 1 := ⟨n - 1, by omega⟩
    rw [f_X11_heldBy_10_s]
    have c1 : A 4 0 ≤ nI k := by rw [hm.1.2.1]; exact nI_le (by omega) (by omega)
    have hz := hsm_b hd0 set hs (show k ≤ nF d by omega)
    have : k = nF d := by omega
    subst this
    simp only [cl0, c1, if_true, f_X11_heldBy_76, m_hours hd0 (F := F) (T := T) hm hh eh (show s < 6 by omega), Option.bind_some]
    have e0 : (0 : Int32).toInt = 0 := by decide
    have e1 : (Int32.ofInt (hsm d set s (nF d))).toInt = hsm d set s (nF d) := fb_ofI (by omega) (by omega)
    have hr := hrs_le d hd s
    unfold hld
    generalize hsm d set s (nF d) = z at *
    generalize hrs d hd s = h at *
    by_cases q : 0 ≤ z
    · rw [if_pos (by rw [fa_le, e0, e1]; exact q), show Int32.ofInt z = nI z.toNat by rw [nI_iI]; congr 1; omega]
      have e2 := pk_sub_toInt (a := z.toNat) (b := h) (by omega) (by omega)
      by_cases q2 : h ≤ z.toNat
      · rw [if_pos (by rw [fa_le, e0, e2]; omega), pk_sub q2]
      · rw [if_neg (by rw [fa_le, e0, e2]; omega), show z.toNat - h = 0 by omega, nI_0]
    · rw [if_neg (by rw [fa_le, e0, e1]; exact q), show z.toNat - h = 0 by omega, nI_0]
      have e2 := pk_sub_toInt (a := 0) (b := h) (by omega) (by omega)
      rw [nI_0] at e2
      by_cases q2 : h = 0
      · subst q2
        rw [nI_0]; rfl
      · rw [if_neg (by rw [fa_le, e0, e2]; omega)]
  | succ m ih =>
    intro k n hk hn
    obtain ⟨n, rfl⟩ : ∃ n', n = n' + 1 := ⟨n - 1, by omega⟩
    rw [f_X11_heldBy_10_s]
    have c1 : ¬ A 4 0 ≤ nI k := by rw [hm.1.2.1]; exact nI_ge (by omega) (by omega)
    have ix2 : (6 : Int32) * nI k + nI s = nI (6 * k + s) := by
      rw [show (6 : Int32) = nI 6 from rfl, pk_mul, nI_add]
    have g1 : gok (nI (6 * k + s)) 96 = true := gok_nI (by omega) (by decide)
    have g2 : gok (nI k) 16 = true := gok_nI (by omega) (by decide)
    have t := hm.2.2.2.1 k (by omega) s (by omega)
    have t2 := (hm.2.2.1 k (by omega)).2
    have st := hsm_succ d set s k
    have := ih (k + 1) n (by omega) (by omega)
    simp only [cl0, c1, if_false, bit_nI (show set < 2 ^ 31 by omega) (show k < 32 by omega), ite10, ix2, g1, g2, if_true, nI_clamp (show 6 * k + s < 2 ^ 31 by omega), nI_clamp (show k < 2 ^ 31 by omega), t, t2, tmv_eq hd0 (show k < nF d by omega) (show s < 6 by omega), f_X11_heldBy_59, iI_add, nI_1]
    by_cases b : set.testBit k = true
    · simp only [b, if_true] at st ⊢
      rw [← st]
      exact this
    · simp only [b] at st ⊢
      rw [show hsm d set s (k + 1) = hsm d set s k by simpa using st] at this
      rw [show Int32.ofInt (hsm d set s k) + 0 = Int32.ofInt (hsm d set s k) from Int32.add_zero _]
      exact this
theorem m_heldBy {d : ZD} (hd0 : dOK d) {F : ZF} {A : ZA} {T : Int64} (hm : TM d A) {hd set s : Nat} (hh : hd < 256) (eh : A 15 1 = nI hd) (hset : set < 256) (hs : s < nS d) : f_X11_heldBy (nI s) (nI set) F A T = some (nI (hld d hd set s)) := by
  have hS := hd0.1.1
  have hF := hd0.1.2.1
  unfold f_X11_heldBy
  rw [if_pos (gok_nI (by omega) (by decide)), nI_clamp (by omega), hm.2.1 s hs]
  have := m_h10 hd0 (F := F) (T := T) hm hh eh hset hs (nF d) 0 1000 (by omega) (by omega)
  rw [show hsm d set s 0 = (gr d s : Int) by simp [hsm, fb_si], ← nI_iI, nI_0] at this
  exact this
/-- the case -/
def cas (d : ZD) (hd set : Nat) : Nat := fb_sm (hld d hd set) (nS d)
theorem cas_le {d : ZD} (hd0 : dOK d) (hd set : Nat) : cas d hd set ≤ 552 := by
  have := fb_sm_bound (f := hld d hd set) (c := 92) (n := nS d) (fun k hk => hld_le hd0 hd set hk)
  have hS := hd0.1.1
  unfold cas
  omega
theorem x_w7 {d : ZD} (hd0 : dOK d) {T : Int64} {hd set : Nat} (hset : set < 256) :
    ∀ (m s n : Nat) (F : ZF) (A : ZA), TX d F A → F 9 = nI (nS d) → (∀ j, j < nS d → A 16 j = nI (hrs d hd j)) → F 8 = nI (fb_sm (hld d hd set) s) → s + m = nS d → m < n → ∃ F' A', f_X5_weigh_7 n (nI set) (nI s) F A T = some (F', A', T) ∧ F' 8 = nI (cas d hd set) ∧ (∀ k, k ≠ 8 → F' k = F k) ∧ (∀ k, k ≠ 14 → A' k = A k) ∧ (∀ j, s ≤ j → j < nS d → A' 14 j = nI (hld d hd set j)) ∧ ∀ j, j < s → A' 14 j = A 14 j := by
  have hS := hd0.1.1
  intro m
  induction m with
  | zero =>
    intro s n F A hx h9 h16 h8 hs hn
    obtain ⟨n, rfl⟩ : ∃ n', n = n' + 1 := ⟨n - 1, by omega⟩
    rw [f_X5_weigh_7_s]
    have c1 : F 9 ≤ nI s := by rw [h9]; exact nI_le (by omega) (by omega)
    simp only [c1, if_true]
    have : s = nS d := by omega
    subst this
    exact ⟨F, A, rfl, h8, fun _ _ => rfl, fun _ _ => rfl, fun j h1 h2 => by omega, fun _ _ => rfl⟩
  | succ m ih =>
    intro s n F A hx h9 h16 h8 hs hn
    obtain ⟨n, rfl⟩ : ∃ n', n = n' + 1 := ⟨n - 1, by omega⟩
    rw [f_X5_weigh_7_s]
    have c1 : ¬ F 9 ≤ nI s := by rw [h9]; exact nI_ge (by omega) (by omega)
    have g : gok (nI s) 6 = true := gok_nI (by omega) (by decide)
    simp only [c1, if_false, x_heldBy hd0 (T := T) hx hset (show s < nS d by omega) (h16 s (by omega)), Option.bind_some, g, if_true, nI_clamp (show s < 2 ^ 31 by omega), zst_same, upd_same, h8, nI_add, nI_1]
    have hx' : TX d (upd F 8 (nI (fb_sm (hld d hd set) s + hld d hd set s))) (zst A 14 s (nI (hld d hd set s))) := hx.fr (fun k h1 h2 => upd_ne (by omega) _) (fun k h1 h2 => zst_ne (by omega) _ _)
    obtain ⟨F', A', e1, e2, e3, e4, e5, e6⟩ := ih (s + 1) n _ _ hx' (by rw [upd_ne (by decide)]; exact h9) (fun j hj => by rw [zst_ne (by decide)]; exact h16 j hj) (by rw [upd_same]; rfl) (by omega) (by omega)
    refine ⟨F', A', e1, e2, fun k hk => by rw [e3 k hk, upd_ne hk], fun k hk => by rw [e4 k hk, zst_ne hk], fun j h1 h2 => ?_, fun j hj => ?_⟩
    · rcases Nat.lt_or_ge s j with q | q
      · exact e5 j (by omega) h2
      · have : j = s := by omega
        subst this
        rw [e6 j (by omega), zst_same, upd_same]
    · rw [e6 j (by omega), zst_same, upd_ne (by omega)]
theorem x_weigh {d : ZD} (hd0 : dOK d) {F : ZF} {A : ZA} {T : Int64} {hd set : Nat} (hset : set < 256) (hx : TX d F A) (h9 : F 9 = nI (nS d)) (h16 : ∀ j, j < nS d → A 16 j = nI (hrs d hd j)) : ∃ F' A', f_X5_weigh (nI set) F A T = some (F', A', T) ∧ F' 8 = nI (cas d hd set) ∧ (∀ k, k ≠ 8 → F' k = F k) ∧ (∀ k, k ≠ 14 → A' k = A k) ∧ ∀ j, j < nS d → A' 14 j = nI (hld d hd set j) := by
  have hS := hd0.1.1
  unfold f_X5_weigh
  have hx' : TX d (upd F 8 0) A := hx.fr (fun k h1 h2 => upd_ne (by omega) _) (fun _ _ _ => rfl)
  obtain ⟨F', A', e1, e2, e3, e4, e5, -⟩ := x_w7 hd0 (T := T) hset (nS d) 0 1000 _ A hx' (by rw [upd_ne (by decide)]; exact h9) h16 (by rw [upd_same]; rfl) (by omega) (by omega)
  rw [nI_0] at e1
  exact ⟨F', A', e1, e2, fun k hk => by rw [e3 k hk, upd_ne hk], e4, fun j hj => e5 j (by omega) hj⟩
theorem m_w7 {d : ZD} (hd0 : dOK d) {T : Int64} {hd set : Nat} (hh : hd < 256) (hset : set < 256) :
    ∀ (m s n : Nat) (F : ZF) (A : ZA), TM d A → A 15 1 = nI hd → F 9 = nI (fb_sm (hld d hd set) s) → s + m = nS d → m < n → ∃ F' A', f_X11_hold_7 n (nI set) (nI s) F A T = some (F', A', T) ∧ F' 9 = nI (cas d hd set) ∧ (∀ k, k ≠ 9 → F' k = F k) ∧ (∀ k, k ≠ 17 → A' k = A k) ∧ (∀ j, s ≤ j → j < nS d → A' 17 j = nI (hld d hd set j)) ∧ ∀ j, j < s → A' 17 j = A 17 j := by
  have hS := hd0.1.1
  intro m
  induction m with
  | zero =>
    intro s n F A hm h15 h8 hs hn
    obtain ⟨n, rfl⟩ : ∃ n', n = n' + 1 := ⟨n - 1, by omega⟩
    rw [f_X11_hold_7_s]
    have c1 : A 2 0 ≤ nI s := by rw [hm.1.1]; exact nI_le (by omega) (by omega)
    simp only [cl0, c1, if_true]
    have : s = nS d := by omega
    subst this
    exact ⟨F, A, rfl, h8, fun _ _ => rfl, fun _ _ => rfl, fun j h1 h2 => by omega, fun _ _ => rfl⟩
  | succ m ih =>
    intro s n F A hm h15 h8 hs hn
    obtain ⟨n, rfl⟩ : ∃ n', n = n' + 1 := ⟨n - 1, by omega⟩
    rw [f_X11_hold_7_s]
    have c1 : ¬ A 2 0 ≤ nI s := by rw [hm.1.1]; exact nI_ge (by omega) (by omega)
    have g : gok (nI s) 6 = true := gok_nI (by omega) (by decide)
    simp only [cl0, c1, if_false, m_heldBy hd0 (F := F) (T := T) hm hh h15 hset (show s < nS d by omega), Option.bind_some, g, if_true, nI_clamp (show s < 2 ^ 31 by omega), zst_same, upd_same, h8, nI_add, nI_1]
    have hm' : TM d (zst A 17 s (nI (hld d hd set s))) := hm.fr (fun k h1 h2 => zst_ne (by omega) _ _)
    obtain ⟨F', A', e1, e2, e3, e4, e5, e6⟩ := ih (s + 1) n (upd F 9 (nI (fb_sm (hld d hd set) s + hld d hd set s))) _ hm' (by rw [zst_ne (by decide)]; exact h15) (by rw [upd_same]; rfl) (by omega) (by omega)
    refine ⟨F', A', e1, e2, fun k hk => by rw [e3 k hk, upd_ne hk], fun k hk => by rw [e4 k hk, zst_ne hk], fun j h1 h2 => ?_, fun j hj => ?_⟩
    · rcases Nat.lt_or_ge s j with q | q
      · exact e5 j (by omega) h2
      · have : j = s := by omega
        subst this
        rw [e6 j (by omega), zst_same, upd_same]
    · rw [e6 j (by omega), zst_same, upd_ne (by omega)]
theorem m_hold {d : ZD} (hd0 : dOK d) {F : ZF} {A : ZA} {T : Int64} {hd set : Nat} (hh : hd < 256) (hset : set < 256) (hm : TM d A) (h15 : A 15 1 = nI hd) : ∃ F' A', f_X11_hold (nI set) F A T = some (F', A', T) ∧ F' 9 = nI (cas d hd set) ∧ (∀ k, k ≠ 9 → F' k = F k) ∧ (∀ k, k ≠ 17 → A' k = A k) ∧ ∀ j, j < nS d → A' 17 j = nI (hld d hd set j) := by
  have hS := hd0.1.1
  unfold f_X11_hold
  obtain ⟨F', A', e1, e2, e3, e4, e5, -⟩ := m_w7 hd0 (T := T) hh hset (nS d) 0 1000 (upd F 9 0) A hm h15 (by rw [upd_same]; rfl) (by omega) (by omega)
  rw [nI_0] at e1
  exact ⟨F', A', e1, e2, fun k hk => by rw [e3 k hk, upd_ne hk], e4, fun j hj => e5 j (by omega) hj⟩
