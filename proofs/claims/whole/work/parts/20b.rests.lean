def rsP (a : ZQ) (set : Nat) : Bool := decide (fg a set (nS a.1) 0 = -9)
theorem lst_z (P : Nat → Bool) : ∀ k, fb_ct P k = 0 → lstX P k = -9 := by
  intro k
  induction k with
  | zero => intro _; rfl
  | succ k ih =>
    intro h
    rw [fb_ct_succ] at h
    unfold lstX
    rw [if_neg (fun q => by rw [q.1] at h; simp at h)]
    exact ih (by omega)
theorem x_rests {a : ZQ} (hok : aOK a) {F : ZF} {A : ZA} {T : Int64} (h22 : F 22 = nI (nS a.1)) (h12 : F 12 = nI (ds a)) (h14 : ∀ j, j < nS a.1 → A 14 j = nI (hld a.1 (hs a) (fs a) j)) (x : Int32) :
    ∀ (m k w : Nat), k + m = 2 ^ nS a.1 → m < w → f_X10_rests_23 w x (nI (fb_ct (rsP a) k)) (lstX (rsP a) k) (nI k) F A T = some (if x = 0 then nI (fb_ct (rsP a) (2 ^ nS a.1)) else lstX (rsP a) (2 ^ nS a.1), F, A, T) := by
  have hS := hok.1.1.1
  have hp : 2 ^ nS a.1 ≤ 64 := Nat.pow_le_pow_right (n := 2) (by decide) hS
  intro m
  induction m with
  | zero =>
    intro k w hk hw
    obtain ⟨w, rfl⟩ : ∃ w', w = w' + 1 := ⟨w - 1, by omega⟩
    have ek : k = 2 ^ nS a.1 := by omega
    rw [ek, f_X10_rests_23_s, h22, shl1 (by omega), if_pos (nI_le (Nat.le_refl _) (by omega))]
    by_cases z : x = 0
    · rw [if_pos z, if_pos z]
    · rw [if_neg z, if_neg z]
  | succ m ih =>
    intro k w hk hw
    obtain ⟨w, rfl⟩ : ∃ w', w = w' + 1 := ⟨w - 1, by omega⟩
    have i := ih (k + 1) w (by omega) (by omega)
    have cl := fb_ct_le (rsP a) k
    rw [f_X10_rests_23_s, h22, shl1 (by omega), if_neg (nI_ge (by omega) (by omega)), x_fg hok (T := T) h22 h12 h14 (show k < 2 ^ nS a.1 by omega), Option.bind_some, nI_1, nI_1]
    rw [fb_ct_succ, show lstX (rsP a) (k + 1) = if rsP a k = true ∧ fb_ct (rsP a) k = 0 then nI k else lstX (rsP a) k from rfl] at i
    by_cases b : fg a k (nS a.1) 0 = -9
    · have pb : rsP a k = true := decide_eq_true b
      rw [if_pos b]
      rw [if_pos pb] at i
      by_cases z : fb_ct (rsP a) k = 0
      · rw [if_pos ⟨pb, z⟩, z] at i
        rw [z, nI_0, if_pos rfl]
        exact i
      · rw [if_neg (fun q => z q.2)] at i
        rw [if_neg (nI_ne0 (by omega) (by omega))]
        exact i
    · have pb : ¬ rsP a k = true := fun q => b (of_decide_eq_true q)
      rw [if_neg b]
      rw [if_neg pb, if_neg (fun q => pb q.1), Nat.add_zero] at i
      exact i
theorem m_rests {a : ZQ} (hok : aOK a) {F : ZF} {A : ZA} {T : Int64} (h2 : A 2 0 = nI (nS a.1)) (h12 : A 15 2 = nI (ds a)) (h17 : ∀ j, j < nS a.1 → A 17 j = nI (hld a.1 (hs a) (fs a) j)) (x : Int32) :
    ∀ (k w : Nat) (x3 : Int32), k ≤ 2 ^ nS a.1 → k < w → f_X11_rests_38 w x (nI (fb_ct (rsP a) (2 ^ nS a.1) - fb_ct (rsP a) k)) x3 (nI k - 1) F A T = some (if x = 0 then nI (fb_ct (rsP a) (2 ^ nS a.1)) else fdn (rsP a) k x3, F, A, T) := by
  have hS := hok.1.1.1
  have hp : 2 ^ nS a.1 ≤ 64 := Nat.pow_le_pow_right (n := 2) (by decide) hS
  intro k
  induction k with
  | zero =>
    intro w x3 hk hw
    obtain ⟨w, rfl⟩ : ∃ w', w = w' + 1 := ⟨w - 1, by omega⟩
    rw [f_X11_rests_38_s, nI_0, if_pos (show (0 : Int32) - 1 < 0 by decide)]
    by_cases z : x = 0
    · rw [if_pos z, if_pos z, show fb_ct (rsP a) 0 = 0 from rfl, Nat.sub_zero]
    · rw [if_neg z, if_neg z]; rfl
  | succ k ih =>
    intro w x3 hk hw
    obtain ⟨w, rfl⟩ : ∃ w', w = w' + 1 := ⟨w - 1, by omega⟩
    have mono := fb_ct_mono (rsP a) (show k + 1 ≤ 2 ^ nS a.1 by omega)
    rw [fb_ct_succ] at mono
    rw [f_X11_rests_38_s, nI_pred, if_neg (nI_pos (by omega)), m_fg hok (F := F) (T := T) h2 h12 h17 (show k < 2 ^ nS a.1 by omega), Option.bind_some]
    unfold f_X11_rests_59 f_X11_rests_72
    rw [fb_ct_succ, show fdn (rsP a) (k + 1) x3 = fdn (rsP a) k (if rsP a k = true then nI k else x3) from rfl]
    by_cases b : fg a k (nS a.1) 0 = -9
    · have pb : rsP a k = true := decide_eq_true b
      rw [if_pos pb] at mono
      rw [if_pos b, if_pos pb, if_pos pb, if_neg (show ¬ (1 : Int32) = 0 by decide), if_neg (show ¬ (1 : Int32) = 0 by decide)]
      rw [nI_1, add_m1, show fb_ct (rsP a) (2 ^ nS a.1) - (fb_ct (rsP a) k + 1) + 1 = fb_ct (rsP a) (2 ^ nS a.1) - fb_ct (rsP a) k by omega]
      exact ih w (nI k) (by omega) (by omega)
    · have pb : ¬ rsP a k = true := fun q => b (of_decide_eq_true q)
      rw [if_neg b, if_neg pb, if_neg pb, if_pos rfl, if_pos rfl, Nat.add_zero]
      rw [add_m1, show nI (fb_ct (rsP a) (2 ^ nS a.1) - fb_ct (rsP a) k) + 0 = nI (fb_ct (rsP a) (2 ^ nS a.1) - fb_ct (rsP a) k) from Int32.add_zero _]
      exact ih w x3 (by omega) (by omega)
theorem p_rests : st_rests Rel := by
  rintro a0 U V ⟨a, hok, hx, hm⟩
  have hS := hok.1.1.1
  have hp : 2 ^ nS a.1 ≤ 64 := Nat.pow_le_pow_right (n := 2) (by decide) hS
  unfold f_X10_rests f_X11_rests
  rw [in_wi, cl0]
  rcases two_of a0 (n := 1) (by decide) with ⟨e, -⟩ | ⟨e, c, hc, rfl⟩
  · have e : f_X10_within a0 (0 : Int32) (1 : Int32) = 0 := e
    simp only [e, if_true]
    exact ⟨_, _, rfl, rfl, rfl, a, hok, hx, hm⟩
  · have e : f_X10_within (nI c) (0 : Int32) (1 : Int32) = 1 := e
    obtain ⟨F1, A1, x1, x2, x3, x4, x5, x6, x7⟩ := wX hok hx
    obtain ⟨F2, A2, m1, m2, m3, m4⟩ := hM hok hm
    have f22 : A2 2 0 = nI (nS a.1) := m2.1.1.1
    have kx0 := x_rests hok (T := U.2.2) x2.1.1.1 x2.2.1.2.2.1 x5 (nI c) (2 ^ nS a.1) 0 1000 (by omega) (by omega)
    rw [show fb_ct (rsP a) 0 = 0 from rfl, show lstX (rsP a) 0 = -9 from rfl, nI_0] at kx0
    have km0 := m_rests hok (F := F2) (T := V.2.2) m2.1.1.1 m2.2.1.2.2.1 m4 (nI c) (2 ^ nS a.1) 1000 (-9) (Nat.le_refl _) (by omega)
    rw [Nat.sub_self, nI_0, fdn_eq] at km0
    have n1 : ¬ f_X10_within (nI c) (0 : Int32) (1 : Int32) = 0 := by rw [e]; decide
    rw [if_neg n1, if_neg n1, x1, m1, Option.bind_some, Option.bind_some]
    dsimp only
    rw [f22, shl1 (show nS a.1 < 31 by omega)]
    rw [kx0, km0]
    by_cases z : fb_ct (rsP a) (2 ^ nS a.1) = 0
    · rw [if_pos z, lst_z _ _ z]
      exact ⟨_, _, rfl, rfl, rfl, a, hok, x2, m2⟩
    · rw [if_neg z]
      exact ⟨_, _, rfl, rfl, rfl, a, hok, x2, m2⟩
