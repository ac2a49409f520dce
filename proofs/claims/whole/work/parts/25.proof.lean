/-! shares so much or so little, the cheapest facts -/
theorem nI_n9 {k : Nat} (h : k < 2 ^ 31) : ¬ nI k = (-9 : Int32) := by
  intro e
  have h3 := congrArg Int32.toInt e
  rw [nI_toInt h, show (-9 : Int32).toInt = -9 by decide] at h3
  omega
theorem btw_of (x : Int32) {n : Nat} (hn : n < 2 ^ 30) : (f_X10_within x 1 (nI n) = 0 ∧ ¬ ∃ k, 1 ≤ k ∧ k ≤ n ∧ x = nI k) ∨ (f_X10_within x 1 (nI n) = 1 ∧ ∃ k, 1 ≤ k ∧ k ≤ n ∧ x = nI k) := by
  rw [wi_eq]
  have e1 : (1 : Int32).toInt = 1 := by decide
  have en : (nI n).toInt = n := nI_toInt (by omega)
  by_cases h : (1 : Int32) ≤ x ∧ x ≤ nI n
  · right
    rw [if_pos h]
    obtain ⟨h1, h2⟩ := h
    rw [fa_le] at h1 h2
    refine ⟨rfl, x.toInt.toNat, by omega, by omega, ?_⟩
    apply Int32.toInt_inj.mp
    rw [nI_toInt (by omega)]
    omega
  · left
    rw [if_neg h]
    refine ⟨rfl, ?_⟩
    rintro ⟨k, h1, h2, rfl⟩
    apply h
    rw [fa_le, fa_le, nI_toInt (by omega)]
    omega
theorem frac_of (a1 a2 : Int32) : f_X10_isFraction a1 a2 = 0 ∨ (f_X10_isFraction a1 a2 = 1 ∧ ∃ p q, 1 ≤ q ∧ q ≤ 20 ∧ p ≤ q ∧ a1 = nI p ∧ a2 = nI q) := by
  unfold f_X10_isFraction
  have n1 : ¬ (1 : Int32) = 0 := by decide
  rcases btw_of a2 (n := 20) (by decide) with ⟨e, -⟩ | ⟨e, q, h1, h2, rfl⟩
  · have e : f_X10_within a2 (1 : Int32) (20 : Int32) = 0 := e
    rw [e, if_pos rfl]; exact Or.inl rfl
  · have e : f_X10_within (nI q) (1 : Int32) (20 : Int32) = 1 := e
    rw [e, if_neg n1]
    rcases two_of a1 (n := q) (by omega) with ⟨e, -⟩ | ⟨e, p, hp, rfl⟩
    · rw [e, if_pos rfl]; exact Or.inl rfl
    · rw [e, if_neg n1]; exact Or.inr ⟨rfl, p, q, h1, h2, hp, rfl, rfl⟩
theorem share_eq (a0 a1 a2 : Int32) (F : ZF) (A : ZA) (T : Int64) : f_X11_isShare a0 a1 a2 F A T = if f_X11_isSuspect a0 F A T = 0 then 0 else f_X10_isFraction a1 a2 := rfl
def so (x : Int32) (h t p q : Nat) : Bool := if x = 0 then decide (t = 0) || decide (h * q ≤ p * t) else !decide (t = 0) && decide (p * t ≤ h * q)
theorem nI_z {t : Nat} (ht : t < 2 ^ 31) : nI t = (0 : Int32) ↔ t = 0 := nI_eq (b := 0) ht (by decide)
theorem pq_b {h q : Nat} (hh : h ≤ 552) (hq : q ≤ 20) : h * q ≤ 11040 := Nat.le_trans (Nat.mul_le_mul hh hq) (by decide)
theorem x_nm {h t p q : Nat} (hh : h ≤ 552) (ht : t ≤ 552) (hp : p ≤ 20) (hq : q ≤ 20) : f_X10_isNoMore (nI h) (nI t) (nI p) (nI q) = if so 0 h t p q = true then 1 else 0 := by
  unfold f_X10_isNoMore so
  have b1 := pq_b hh hq
  have b2 := pq_b ht hp
  rw [if_pos rfl, pk_mul, pk_mul]
  by_cases z : t = 0
  · rw [if_pos ((nI_z (by omega)).mpr z)]; simp [z]
  · rw [if_neg (fun e => z ((nI_z (by omega)).mp e))]
    rw [Nat.mul_comm t p] at b2
    by_cases c : h * q ≤ p * t
    · rw [if_neg (nI_nlt c (by omega))]; simp [c]
    · rw [if_pos (nI_lt (by omega) (by omega))]; simp [c, z]
theorem x_nl {x : Int32} (hx : ¬ x = 0) {h t p q : Nat} (hh : h ≤ 552) (ht : t ≤ 552) (hp : p ≤ 20) (hq : q ≤ 20) : f_X10_isNoLess (nI h) (nI t) (nI p) (nI q) = if so x h t p q = true then 1 else 0 := by
  unfold f_X10_isNoLess so
  have b1 := pq_b hh hq
  have b2 := pq_b ht hp
  rw [if_neg hx, pk_mul, pk_mul]
  by_cases z : t = 0
  · rw [if_pos ((nI_z (by omega)).mpr z)]; simp [z]
  · rw [if_neg (fun e => z ((nI_z (by omega)).mp e))]
    rw [Nat.mul_comm t p] at b2
    by_cases c : p * t ≤ h * q
    · rw [if_neg (nI_nlt c (by omega))]; simp [c, z]
    · rw [if_pos (nI_lt (by omega) (by omega))]; simp [c]
theorem m_so {x : Int32} {h t p q s : Nat} (hs : s < 6) (hh : h ≤ 552) (ht : t ≤ 552) (hp : p ≤ 20) (hq : q ≤ 20) {F : ZF} {A : ZA} {T : Int64} (h9 : F 9 = nI t) (h17 : A 17 s = nI h) : f_X11_isSo (nI s) (nI p) (nI q) x F A T = some (if so x h t p q = true then 1 else 0) := by
  unfold f_X11_isSo so
  have b1 := pq_b hh hq
  have b2 := pq_b ht hp
  have g : gok (nI s) 6 = true := gok_nI hs (by decide)
  rw [h9, if_pos g, if_pos g, nI_clamp (by omega), h17, pk_mul, pk_mul]
  rw [Nat.mul_comm t p] at b2
  by_cases hx : x = 0
  · rw [if_pos hx, if_pos hx]
    by_cases z : t = 0
    · rw [if_pos ((nI_z (by omega)).mpr z)]; simp [z]
    · rw [if_neg (fun e => z ((nI_z (by omega)).mp e))]
      by_cases c : h * q ≤ p * t
      · rw [if_neg (nI_nlt c (by omega))]; simp [c]
      · rw [if_pos (nI_lt (by omega) (by omega))]; simp [c, z]
  · rw [if_neg hx, if_neg hx]
    by_cases z : t = 0
    · rw [if_pos (show nI t ≤ (0 : Int32) by rw [z]; decide)]; simp [z]
    · have c0 : ¬ nI t ≤ (0 : Int32) := nI_ge (a := 0) (b := t) (by omega) (by omega)
      rw [if_neg c0]
      by_cases c : p * t ≤ h * q
      · rw [if_neg (nI_nlt c (by omega))]; simp [c, z]
      · rw [if_pos (nI_lt (by omega) (by omega))]; simp [c]
/-! a forged alibi -/
def frg (C h p q : Nat) (L : Int32) : Nat → Nat → Int32
  | 0, _ => -9
  | m + 1, k => if L < nI k then -9 else if so 0 (h - k) (C - h + (h - k)) p q = true then nI k else frg C h p q L m (k + 1)
theorem ge_L {L : Int32} (hL : L.toInt ≤ 24) : L < nI 25 := by
  rw [fa_lt, nI_toInt (by decide)]; omega
theorem clp_x {h k : Nat} (hh : h ≤ 552) (hk : k ≤ 25) : (if (0 : Int32) < nI h - nI k then nI h - nI k else (0 : Int32)) = nI (h - k) := by
  by_cases c : k < h
  · have c2 : (0 : Int32) < nI (h - k) := nI_lt (a := 0) (b := h - k) (by omega) (by omega)
    rw [pk_sub (by omega), if_pos c2]
  · have : ¬ (0 : Int32) < nI h - nI k := by
      rw [fa_lt, pk_sub_toInt (by omega) (by omega), show (0 : Int32).toInt = 0 by decide]; omega
    rw [if_neg this, show h - k = 0 by omega]; rfl
theorem x_frg {C h p q s : Nat} {L : Int32} (hL : L.toInt ≤ 24) (hs : s < 6) (hC : C ≤ 552) (hh : h ≤ C) (hp : p ≤ 20) (hq : q ≤ 20) {F : ZF} {A : ZA} {T : Int64} (h8 : F 8 = nI C) (h14 : A 14 s = nI h) : ∀ (m k n : Nat), k + m = 26 → m < n → f_X10_forged_54 n (nI s) (nI p) (nI q) L (nI k) F A T = some (frg C h p q L m k, F, A, T) ∨ m = 0 := by
  have g : gok (nI s) 6 = true := gok_nI hs (by decide)
  have n1 : ¬ (1 : Int32) = 0 := by decide
  intro m
  induction m with
  | zero => intro k n hk hn; exact Or.inr rfl
  | succ m ih =>
    intro k n hk hn
    left
    obtain ⟨n, rfl⟩ : ∃ n', n = n' + 1 := ⟨n - 1, by omega⟩
    rw [f_X10_forged_54_s]
    unfold frg
    by_cases c : L < nI k
    · rw [if_pos c, if_pos c]
    · rw [if_neg c, if_neg c, if_pos g, if_pos g, nI_clamp (by omega), h14, h8, clp_x (by omega) (by omega), pk_sub hh, nI_add, x_nm (by omega) (by omega) hp hq]
      cases qq : so 0 (h - k) (C - h + (h - k)) p q
      · have f1 : ¬ (false = true) := by decide
        rw [if_neg f1, if_pos rfl, if_neg f1, nI_1]
        rcases ih (k + 1) n (by omega) (by omega) with r | r
        · exact r
        · subst r
          have : k = 25 := by omega
          subst this
          exact absurd (ge_L hL) c
      · rw [if_pos rfl, if_neg n1, if_pos rfl]
theorem m_frg {C h p q s : Nat} {L : Int32} (hL : L.toInt ≤ 24) (hs : s < 6) (hC : C ≤ 552) (hh : h ≤ C) (hp : p ≤ 20) (hq : q ≤ 20) {T : Int64} : ∀ (m k n : Nat) (F : ZF) (A : ZA), k + m = 26 → m < n → (∃ F' A', f_X11_forged_62 n (nI s) (nI p) (nI q) L (nI h) (nI C) (nI k) F A T = some (frg C h p q L m k, F', A', T) ∧ (∀ j, j ≠ 9 → F' j = F j) ∧ ∀ j, j ≠ 17 → A' j = A j) ∨ m = 0 := by
  have g : gok (nI s) 6 = true := gok_nI hs (by decide)
  have n1 : ¬ (1 : Int32) = 0 := by decide
  intro m
  induction m with
  | zero => intro k n F A hk hn; exact Or.inr rfl
  | succ m ih =>
    intro k n F A hk hn
    left
    obtain ⟨n, rfl⟩ : ∃ n', n = n' + 1 := ⟨n - 1, by omega⟩
    rw [f_X11_forged_62_s]
    unfold frg
    by_cases c : L < nI k
    · rw [if_pos c, if_pos c]
      exact ⟨F, A, rfl, fun j hj => rfl, fun j hj => rfl⟩
    · rw [if_neg c, if_neg c]
      have body : ∃ F' A', f_X11_forged_90 (f_X11_forged_62 n) (nI s) (nI p) (nI q) L (nI h) (nI C) (nI k) (nI (h - k)) (nI s) F A T = some (if so 0 (h - k) (C - h + (h - k)) p q = true then nI k else frg C h p q L m (k + 1), F', A', T) ∧ (∀ j, j ≠ 9 → F' j = F j) ∧ ∀ j, j ≠ 17 → A' j = A j := by
        unfold f_X11_forged_90
        rw [if_pos g, if_pos g, nI_clamp (by omega), zst_same, upd_same, pk_sub hh, nI_add]
        rw [m_so (x := 0) (h := h - k) (t := C - h + (h - k)) hs (by omega) (by omega) hp hq (upd_same _ _ _) (by rw [zst_same, upd_same]), Option.bind_some]
        cases qq : so 0 (h - k) (C - h + (h - k)) p q
        · have f1 : ¬ (false = true) := by decide
          rw [if_neg f1, if_pos rfl, if_neg f1, nI_1]
          rcases ih (k + 1) n (upd F 9 (nI (C - h + (h - k)))) (zst A 17 s (nI (h - k))) (by omega) (by omega) with ⟨F', A', r1, r2, r3⟩ | r
          · exact ⟨F', A', r1, fun j hj => by rw [r2 j hj, upd_ne hj], fun j hj => by rw [r3 j hj, zst_ne hj]⟩
          · subst r
            have : k = 25 := by omega
            subst this
            exact absurd (ge_L hL) c
        · rw [if_pos rfl, if_neg n1, if_pos rfl]
          exact ⟨_, _, rfl, fun j hj => upd_ne hj _, fun j hj => zst_ne hj _ _⟩
      by_cases c2 : h ≤ k
      · rw [if_pos (nI_le c2 (by omega))]
        rw [show h - k = 0 by omega] at body ⊢
        exact body
      · rw [if_neg (nI_ge (by omega) (by omega)), pk_sub (by omega)]
        exact body
theorem hld_cas {d : ZD} {hd set s : Nat} (hs : s < nS d) : hld d hd set s ≤ cas d hd set := by
  have := fb_sm_part (hld d hd set) hs
  unfold cas
  omega
theorem p_forged : st_forged Rel := by
  rintro a0 a1 a2 U V ⟨a, hok, hx, hm⟩
  have hS := hok.1.1.1
  have n1 : ¬ (1 : Int32) = 0 := by decide
  unfold f_X10_forged f_X11_forged
  rw [share_eq]
  unfold f_X10_isSuspect f_X11_isSuspect
  rw [in_wi, cl0, hx.1.1.1, hm.1.1.1]
  rcases one_of a0 (n := nS a.1) (by omega) with ⟨e, -⟩ | ⟨e, s, hs', rfl⟩
  · rw [e, if_pos rfl, if_pos rfl, if_pos rfl]
    exact ⟨_, _, rfl, rfl, rfl, a, hok, hx, hm⟩
  · rw [e, if_neg n1, if_neg n1]
    rcases frac_of a1 a2 with e | ⟨e, p, q, q1, q2, hp, rfl, rfl⟩
    · rw [e, if_pos rfl, if_pos rfl]
      exact ⟨_, _, rfl, rfl, rfl, a, hok, hx, hm⟩
    · obtain ⟨F1, A1, x1, x2, x3, x4, x5, x6, x7⟩ := wX hok hx
      obtain ⟨F2, A2, m1, m2, m3, m4⟩ := hM hok hm
      have hh : f_X11_hoursOf (nI s) V.1 V.2.1 V.2.2 = some (nI (hrs a.1 (hs a) s)) := m_hours hok.1 hm.1 (hs_lt hok) hm.2.1.2.1 (by omega)
      have g : gok (nI s) 6 = true := gok_nI (by omega) (by decide)
      rw [e, if_neg n1, if_neg n1, x1, hh, m1, Option.bind_some, Option.bind_some, Option.bind_some, if_pos g, if_pos g, nI_clamp (by omega)]
      dsimp only
      rw [x7 s hs', m4 s hs', m3, show F1 25 = nI (dF a.1) from x2.1.1.2.2.2.1, show F1 26 = nI (dT a.1) from x2.1.1.2.2.2.2, hm.1.1.2.2.2.1, hm.1.1.2.2.2.2]
      have hdf := hok.1.1.2.2.2.1
      have hdt := hok.1.1.2.2.2.2
      have hr := hrs_le a.1 (hs a) s
      have hL : (nI (dT a.1) - nI (dF a.1) + 1 - nI (hrs a.1 (hs a) s)).toInt ≤ 24 := by
        rw [pk_sub hdf, nI_1, pk_sub_toInt (by omega) (by omega)]
        omega
      have hC := cas_le hok.1 (hs a) (fs a)
      have hl := hld_cas (hd := hs a) (set := fs a) hs'
      have kx := x_frg (L := nI (dT a.1) - nI (dF a.1) + 1 - nI (hrs a.1 (hs a) s)) hL (show s < 6 by omega) hC hl (show p ≤ 20 by omega) q2 (T := U.2.2) x3 (x5 s hs') 26 0 1000 (by omega) (by omega)
      have km := m_frg (L := nI (dT a.1) - nI (dF a.1) + 1 - nI (hrs a.1 (hs a) s)) hL (show s < 6 by omega) hC hl (show p ≤ 20 by omega) q2 (T := V.2.2) 26 0 1000 F2 A2 (by omega) (by omega)
      rcases kx with kx | h0
      · rcases km with ⟨F3, A3, km, k2, k3⟩ | h0
        · have kx : f_X10_forged_54 1000 (nI s) (nI p) (nI q) (nI (dT a.1) - nI (dF a.1) + 1 - nI (hrs a.1 (hs a) s)) (0 : Int32) F1 A1 U.2.2 = _ := kx
          have km : f_X11_forged_62 1000 (nI s) (nI p) (nI q) (nI (dT a.1) - nI (dF a.1) + 1 - nI (hrs a.1 (hs a) s)) (nI (hld a.1 (hs a) (fs a) s)) (nI (cas a.1 (hs a) (fs a))) (0 : Int32) F2 A2 V.2.2 = _ := km
          rw [kx, km]
          exact ⟨_, _, rfl, rfl, rfl, a, hok, x2, m2.sc (fun j hj => k2 j (by omega)) (fun j hj => k3 j (by omega))⟩
        · omega
      · omega
/-! what facts cost -/
def cst (d : ZD) (set : Nat) : Nat := fb_sm (fun f => if set.testBit f then co d f else 0) (nF d)
theorem cst_le {d : ZD} (hd0 : dOK d) (set : Nat) {k : Nat} (hk : k ≤ nF d) : fb_sm (fun f => if set.testBit f then co d f else 0) k ≤ 72 := by
  have := fb_sm_bound (f := fun f => if set.testBit f then co d f else 0) (c := 9) (n := k) (fun f hf => by
    have := (hd0.2.2.1 f (by omega)).1.2
    show (if set.testBit f then co d f else 0) ≤ 9
    split <;> omega)
  have := hd0.1.2.1
  omega
theorem x_cost {d : ZD} (hd0 : dOK d) {set : Nat} (hset : set < 256) {F : ZF} {A : ZA} {T : Int64} (hx : TX d F A) : f_X1_costOf (nI set) F A T = some (nI (cst d set)) := by
  have hN := hd0.1.2.1
  have key : ∀ (m k n : Nat), k + m = nF d → m < n → f_X1_costOf_4 F A T n (nI set) (nI (fb_sm (fun f => if set.testBit f then co d f else 0) k)) (nI k) = some (nI (cst d set)) := by
    intro m
    induction m with
    | zero =>
      intro k n hk hn
      obtain ⟨n, rfl⟩ : ∃ n', n = n' + 1 := ⟨n - 1, by omega⟩
      have e : k = nF d := by omega
      subst e
      rw [f_X1_costOf_4_s, hx.1.2.1, if_pos (nI_le (Nat.le_refl _) (by omega))]
      rfl
    | succ m ih =>
      intro k n hk hn
      obtain ⟨n, rfl⟩ : ∃ n', n = n' + 1 := ⟨n - 1, by omega⟩
      have i := ih (k + 1) n (by omega) (by omega)
      rw [fb_sm_succ] at i
      rw [f_X1_costOf_4_s, hx.1.2.1, if_neg (nI_ge (by omega) (by omega)), bitX (by omega) (by omega), if_pos (gok_nI (by omega) (by decide)), nI_clamp (by omega), (hx.2.2.1 k (by omega)).1, nI_add, nI_1]
      cases c : set.testBit k
      · rw [c] at i
        have f1 : ¬ (false = true) := by decide
        rw [if_neg f1, if_neg (by decide)]
        simpa using i
      · rw [c] at i
        rw [if_pos rfl, if_pos rfl]
        simpa using i
  have := key (nF d) 0 1000 (by omega) (by omega)
  exact this
theorem m_cost {d : ZD} (hd0 : dOK d) {set : Nat} (hset : set < 256) {F : ZF} {A : ZA} {T : Int64} (hm : TM d A) : f_X11_costOf (nI set) F A T = some (nI (cst d set)) := by
  have hN := hd0.1.2.1
  have key : ∀ (m k n : Nat), k + m = nF d → m < n → f_X11_costOf_4 F A T n (nI set) (nI (fb_sm (fun f => if set.testBit f then co d f else 0) k)) (nI k) = some (nI (cst d set)) := by
    intro m
    induction m with
    | zero =>
      intro k n hk hn
      obtain ⟨n, rfl⟩ : ∃ n', n = n' + 1 := ⟨n - 1, by omega⟩
      have e : k = nF d := by omega
      subst e
      rw [f_X11_costOf_4_s, cl0, hm.1.2.1, if_pos (nI_le (Nat.le_refl _) (by omega))]
      rfl
    | succ m ih =>
      intro k n hk hn
      obtain ⟨n, rfl⟩ : ∃ n', n = n' + 1 := ⟨n - 1, by omega⟩
      have i := ih (k + 1) n (by omega) (by omega)
      rw [fb_sm_succ] at i
      rw [f_X11_costOf_4_s, cl0, hm.1.2.1, if_neg (nI_ge (by omega) (by omega)), bit_nI (by omega) (by omega), if_pos (gok_nI (by omega) (by decide)), nI_clamp (by omega), (hm.2.2.1 k (by omega)).1, nI_1]
      cases c : set.testBit k
      · rw [c] at i
        have f1 : ¬ (false = true) := by decide
        rw [if_neg f1, show (0 : Int32) = nI 0 from rfl, pk_mul, nI_add]
        simpa using i
      · rw [c] at i
        rw [if_pos rfl, show (1 : Int32) = nI 1 from rfl, pk_mul, nI_add]
        simpa using i
  have := key (nF d) 0 1000 (by omega) (by omega)
  exact this
/-! the cheapest -/
def enc : Option Nat → Int32
  | none => -9
  | some b => nI b
def btr (d : ZD) (k : Nat) : Option Nat → Bool
  | none => true
  | some b => decide (cst d k < cst d b)
def chs (d : ZD) (hd fs s p q : Nat) (x : Int32) (k : Nat) (b : Option Nat) : Option Nat := if k &&& fs = 0 ∧ btr d k b = true ∧ so x (hld d hd (k ||| fs) s) (cas d hd (k ||| fs)) p q = true then some k else b
def chp (d : ZD) (hd fs s p q : Nat) (x : Int32) : Nat → Nat → Option Nat → Option Nat
  | 0, _, b => b
  | m + 1, k, b => chp d hd fs s p q x m (k + 1) (chs d hd fs s p q x k b)
theorem chp_lt (d : ZD) (hd fs s p q : Nat) (x : Int32) : ∀ (m k : Nat) (b : Option Nat), (∀ b', b = some b' → b' < k) → ∀ b', chp d hd fs s p q x m k b = some b' → b' < k + m := by
  intro m
  induction m with
  | zero => intro k b h b' e; exact h b' e
  | succ m ih =>
    intro k b h b' e
    have := ih (k + 1) (chs d hd fs s p q x k b) (fun b2 e2 => by
      unfold chs at e2
      split at e2
      · cases e2; omega
      · have := h b2 e2; omega) b' e
    omega
theorem chs_no {d : ZD} {hd fs s p q : Nat} {x : Int32} {k : Nat} {b : Option Nat} (h : ¬ (k &&& fs = 0) ∨ ¬ btr d k b = true) : chs d hd fs s p q x k b = b := by
  unfold chs
  rw [if_neg]
  rintro ⟨h1, h2, h3⟩
  rcases h with h | h
  · exact h h1
  · exact h h2
theorem chs_so {d : ZD} {hd fs s p q : Nat} {x : Int32} {k : Nat} {b : Option Nat} (h1 : k &&& fs = 0) (h2 : btr d k b = true) : chs d hd fs s p q x k b = if so x (hld d hd (k ||| fs) s) (cas d hd (k ||| fs)) p q = true then some k else b := by
  unfold chs
  cases so x (hld d hd (k ||| fs) s) (cas d hd (k ||| fs)) p q
  · rw [if_neg (by simp), if_neg (by simp)]
  · rw [if_pos ⟨h1, h2, rfl⟩, if_pos rfl]
theorem p2_256 {d : ZD} (hd0 : dOK d) : 2 ^ nF d ≤ 256 := Nat.pow_le_pow_right (by decide) hd0.1.2.1
theorem x_ch {d : ZD} (hd0 : dOK d) {hd fs s p q : Nat} (hfs : fs < 2 ^ nF d) (hs : s < nS d) (hq : q ≤ 20) (hp : p ≤ q) {x : Int32} {T : Int64} : ∀ (m k n : Nat) (b : Option Nat) (x6 : Int32) (F : ZF) (A : ZA), k + m = 2 ^ nF d → m < n → TX d F A → F 9 = nI (nS d) → F 10 = nI fs → (∀ j, j < nS d → A 16 j = nI (hrs d hd j)) → (∀ b', b = some b' → b' < k ∧ x6 = nI (cst d b')) → ∃ F' A', f_X10_cheapest_28 n (nI s) (nI p) (nI q) x (enc b) x6 (nI k) F A T = some (enc (chp d hd fs s p q x m k b), F', A', T) ∧ (∀ j, j ≠ 8 → F' j = F j) ∧ ∀ j, j ≠ 14 → A' j = A j := by
  have h256 := p2_256 hd0
  have hS := hd0.1.1
  have hN := hd0.1.2.1
  have n1 : ¬ (1 : Int32) = 0 := by decide
  have f1 : ¬ (false = true) := by decide
  intro m
  induction m with
  | zero =>
    intro k n b x6 F A hk hn hx h9 h10 h16 hb
    obtain ⟨n, rfl⟩ : ∃ n', n = n' + 1 := ⟨n - 1, by omega⟩
    rw [f_X10_cheapest_28_s, hx.1.2.1, shl1 (by omega), if_pos (nI_le (by omega) (by omega))]
    exact ⟨F, A, rfl, fun j hj => rfl, fun j hj => rfl⟩
  | succ m ih =>
    intro k n b x6 F A hk hn hx h9 h10 h16 hb
    obtain ⟨n, rfl⟩ : ∃ n', n = n' + 1 := ⟨n - 1, by omega⟩
    have hk2 : k < 2 ^ nF d := by omega
    have hor : k ||| fs < 256 := p2_le (Nat.or_lt_two_pow hk2 hfs) hN
    rw [f_X10_cheapest_28_s, hx.1.2.1, shl1 (by omega), if_neg (nI_ge (by omega) (by omega)), h10, fa_and, x_cost hd0 (by omega) hx, Option.bind_some, nI_1]
    have skip : chs d hd fs s p q x k b = b → ∃ F' A', f_X10_cheapest_28 n (nI s) (nI p) (nI q) x (enc b) x6 (nI (k + 1)) F A T = some (enc (chp d hd fs s p q x (m + 1) k b), F', A', T) ∧ (∀ j, j ≠ 8 → F' j = F j) ∧ ∀ j, j ≠ 14 → A' j = A j := by
      intro e
      have e2 : chp d hd fs s p q x (m + 1) k b = chp d hd fs s p q x m (k + 1) b := by
        show chp d hd fs s p q x m (k + 1) (chs d hd fs s p q x k b) = _
        rw [e]
      rw [e2]
      exact ih (k + 1) n b x6 F A (by omega) (by omega) hx h9 h10 h16 (fun b' hb' => ⟨by have := (hb b' hb').1; omega, (hb b' hb').2⟩)
    by_cases q1 : k &&& fs = 0
    · rw [if_pos (by rw [q1]; rfl)]
      have go : btr d k b = true → ∃ F' A', f_X10_cheapest_86 (f_X10_cheapest_28 n) (nI s) (nI p) (nI q) x (enc b) x6 (nI k) (nI (cst d k)) F A T = some (enc (chp d hd fs s p q x (m + 1) k b), F', A', T) ∧ (∀ j, j ≠ 8 → F' j = F j) ∧ ∀ j, j ≠ 14 → A' j = A j := by
        intro hb2
        have e2 : chp d hd fs s p q x (m + 1) k b = chp d hd fs s p q x m (k + 1) (chs d hd fs s p q x k b) := rfl
        rw [e2, chs_so q1 hb2]
        obtain ⟨F1, A1, w1, w2, w3, w4, w5⟩ := x_weigh hd0 (T := T) hor hx h9 h16
        unfold f_X10_cheapest_86
        rw [h10, fa_or, w1, Option.bind_some, if_pos (gok_nI (by omega) (by decide)), nI_clamp (by omega)]
        have hC := cas_le hd0 hd (k ||| fs)
        have hl := hld_cas (hd := hd) (set := k ||| fs) hs
        simp only [w5 s hs, w2, nI_1]
        have t1 : TX d F1 A1 := hx.fr (fun j _ _ => w3 j (by omega)) (fun j _ _ => w4 j (by omega))
        have r0 := ih (k + 1) n b x6 F1 A1 (by omega) (by omega) t1 (by rw [w3 _ (by decide)]; exact h9) (by rw [w3 _ (by decide)]; exact h10) (fun j hj => by rw [w4 _ (by decide)]; exact h16 j hj) (fun b' hb' => ⟨by have := (hb b' hb').1; omega, (hb b' hb').2⟩)
        have r1 := ih (k + 1) n (some k) (nI (cst d k)) F1 A1 (by omega) (by omega) t1 (by rw [w3 _ (by decide)]; exact h9) (by rw [w3 _ (by decide)]; exact h10) (fun j hj => by rw [w4 _ (by decide)]; exact h16 j hj) (fun b' hb' => by cases hb'; exact ⟨by omega, rfl⟩)
        have fin : ∀ b2 : Option Nat, ∀ y : Int32 → Option (Int32 × ZS), (∃ F' A', y 0 = some (enc (chp d hd fs s p q x m (k + 1) b2), F', A', T) ∧ (∀ j, j ≠ 8 → F' j = F1 j) ∧ ∀ j, j ≠ 14 → A' j = A1 j) → ∃ F' A', y 0 = some (enc (chp d hd fs s p q x m (k + 1) b2), F', A', T) ∧ (∀ j, j ≠ 8 → F' j = F j) ∧ ∀ j, j ≠ 14 → A' j = A j := by
          rintro b2 y ⟨F', A', e1, e2, e3⟩
          exact ⟨F', A', e1, fun j hj => by rw [e2 j hj, w3 j hj], fun j hj => by rw [e3 j hj, w4 j hj]⟩
        have r0' := fin b (fun _ => f_X10_cheapest_28 n (nI s) (nI p) (nI q) x (enc b) x6 (nI (k + 1)) F1 A1 T) r0
        have r1' := fin (some k) (fun _ => f_X10_cheapest_28 n (nI s) (nI p) (nI q) x (enc (some k)) (nI (cst d k)) (nI (k + 1)) F1 A1 T) r1
        by_cases hx0 : x = 0
        · have e0 : so 0 (hld d hd (k ||| fs) s) (cas d hd (k ||| fs)) p q = so x (hld d hd (k ||| fs) s) (cas d hd (k ||| fs)) p q := by rw [hx0]
          rw [if_pos hx0, x_nm (by omega) hC (by omega) hq, e0]
          cases qq : so x (hld d hd (k ||| fs) s) (cas d hd (k ||| fs)) p q
          · rw [if_neg f1, if_pos rfl, if_neg f1]; exact r0'
          · rw [if_pos rfl, if_neg n1, if_pos rfl]; exact r1'
        · rw [if_neg hx0, x_nl hx0 (by omega) hC (by omega) hq]
          cases qq : so x (hld d hd (k ||| fs) s) (cas d hd (k ||| fs)) p q
          · rw [if_neg f1, if_pos rfl, if_neg f1]; exact r0'
          · rw [if_pos rfl, if_neg n1, if_pos rfl]; exact r1'
      cases b with
      | none => rw [if_pos (show enc none = -9 from rfl)]; exact go rfl
      | some b' =>
        obtain ⟨hb1, hb2⟩ := hb b' rfl
        have k72 := cst_le hd0 k (Nat.le_refl (nF d))
        have b72 := cst_le hd0 b' (Nat.le_refl (nF d))
        rw [if_neg (show ¬ enc (some b') = -9 from nI_n9 (by omega)), hb2]
        rw [hb2] at go skip
        by_cases c : cst d k < cst d b'
        · rw [if_pos (nI_lt c (by unfold cst; omega))]
          exact go (by simp [btr, c])
        · rw [if_neg (nI_nlt (by omega) (by unfold cst; omega))]
          exact skip (chs_no (Or.inr (by simp [btr, c])))
    · rw [if_neg (fun e => q1 ((nI_z (Nat.lt_of_le_of_lt Nat.and_le_left (by omega))).mp e))]
      exact skip (chs_no (Or.inl q1))
theorem m_ch {d : ZD} (hd0 : dOK d) {hd fs s p q : Nat} (hh : hd < 256) (hfs : fs < 2 ^ nF d) (hs : s < nS d) (hq : q ≤ 20) (hp : p ≤ q) {x : Int32} {T : Int64} : ∀ (m k n : Nat) (b : Option Nat) (F : ZF) (A : ZA), k + m = 2 ^ nF d → m < n → TM d A → A 15 0 = nI fs → A 15 1 = nI hd → (∀ b', b = some b' → b' < k) → ∃ F' A', f_X11_cheapest_7 n (nI s) (nI p) (nI q) x (enc b) (nI k) F A T = some (enc (chp d hd fs s p q x m k b), F', A', T) ∧ (∀ j, j ≠ 9 → F' j = F j) ∧ ∀ j, j ≠ 17 → A' j = A j := by
  have h256 := p2_256 hd0
  have hS := hd0.1.1
  have hN := hd0.1.2.1
  have n1 : ¬ (1 : Int32) = 0 := by decide
  have f1 : ¬ (false = true) := by decide
  intro m
  induction m with
  | zero =>
    intro k n b F A hk hn hm h10 h11 hb
    obtain ⟨n, rfl⟩ : ∃ n', n = n' + 1 := ⟨n - 1, by omega⟩
    rw [f_X11_cheapest_7_s, cl0, hm.1.2.1, shl1 (by omega), if_pos (nI_le (by omega) (by omega))]
    exact ⟨F, A, rfl, fun j hj => rfl, fun j hj => rfl⟩
  | succ m ih =>
    intro k n b F A hk hn hm h10 h11 hb
    obtain ⟨n, rfl⟩ : ∃ n', n = n' + 1 := ⟨n - 1, by omega⟩
    have hk2 : k < 2 ^ nF d := by omega
    have hor : k ||| fs < 256 := p2_le (Nat.or_lt_two_pow hk2 hfs) hN
    rw [f_X11_cheapest_7_s, cl0, hm.1.2.1, shl1 (by omega), if_neg (nI_ge (by omega) (by omega)), h10, fa_and, nI_1]
    have skip : chs d hd fs s p q x k b = b → ∃ F' A', f_X11_cheapest_7 n (nI s) (nI p) (nI q) x (enc b) (nI (k + 1)) F A T = some (enc (chp d hd fs s p q x (m + 1) k b), F', A', T) ∧ (∀ j, j ≠ 9 → F' j = F j) ∧ ∀ j, j ≠ 17 → A' j = A j := by
      intro e
      have e2 : chp d hd fs s p q x (m + 1) k b = chp d hd fs s p q x m (k + 1) b := by
        show chp d hd fs s p q x m (k + 1) (chs d hd fs s p q x k b) = _
        rw [e]
      rw [e2]
      exact ih (k + 1) n b F A (by omega) (by omega) hm h10 h11 (fun b' hb' => by have := hb b' hb'; omega)
    by_cases q1 : k &&& fs = 0
    · rw [if_pos (by rw [q1]; rfl)]
      have go : btr d k b = true → ∃ F' A', f_X11_cheapest_54 (f_X11_cheapest_7 n) (nI s) (nI p) (nI q) x (enc b) (nI k) F A T = some (enc (chp d hd fs s p q x (m + 1) k b), F', A', T) ∧ (∀ j, j ≠ 9 → F' j = F j) ∧ ∀ j, j ≠ 17 → A' j = A j := by
        intro hb2
        have e2 : chp d hd fs s p q x (m + 1) k b = chp d hd fs s p q x m (k + 1) (chs d hd fs s p q x k b) := rfl
        rw [e2, chs_so q1 hb2]
        obtain ⟨F1, A1, w1, w2, w3, w4, w5⟩ := m_hold hd0 (F := F) (T := T) hh hor hm h11
        unfold f_X11_cheapest_54
        have hC := cas_le hd0 hd (k ||| fs)
        have hl := hld_cas (hd := hd) (set := k ||| fs) hs
        rw [cl0, h10, fa_or, w1, Option.bind_some]
        dsimp only
        rw [m_so (x := x) (show s < 6 by omega) (by omega) hC (by omega) hq w2 (w5 s hs), Option.bind_some, nI_1]
        have t1 : TM d A1 := hm.fr (fun j _ _ => w4 j (by omega))
        have fin : ∀ b2 : Option Nat, (∀ b', b2 = some b' → b' < k + 1) → ∃ F' A', f_X11_cheapest_7 n (nI s) (nI p) (nI q) x (enc b2) (nI (k + 1)) F1 A1 T = some (enc (chp d hd fs s p q x m (k + 1) b2), F', A', T) ∧ (∀ j, j ≠ 9 → F' j = F j) ∧ ∀ j, j ≠ 17 → A' j = A j := by
          intro b2 hb3
          obtain ⟨F', A', e1, e2, e3⟩ := ih (k + 1) n b2 F1 A1 (by omega) (by omega) t1 (by rw [w4 _ (by decide)]; exact h10) (by rw [w4 _ (by decide)]; exact h11) hb3
          exact ⟨F', A', e1, fun j hj => by rw [e2 j hj, w3 j hj], fun j hj => by rw [e3 j hj, w4 j hj]⟩
        cases qq : so x (hld d hd (k ||| fs) s) (cas d hd (k ||| fs)) p q
        · rw [if_neg f1, if_pos rfl, if_neg f1]
          exact fin b (fun b' hb' => by have := hb b' hb'; omega)
        · rw [if_pos rfl, if_neg n1, if_pos rfl]
          exact fin (some k) (fun b' hb' => by cases hb'; omega)
      cases b with
      | none => rw [if_pos (show enc none = -9 from rfl)]; exact go rfl
      | some b' =>
        have hb1 := hb b' rfl
        have k72 := cst_le hd0 k (Nat.le_refl (nF d))
        have b72 := cst_le hd0 b' (Nat.le_refl (nF d))
        rw [if_neg (show ¬ enc (some b') = -9 from nI_n9 (by omega)), m_cost hd0 (by omega) hm, Option.bind_some, show f_X11_costOf (enc (some b')) F A T = some (nI (cst d b')) from m_cost hd0 (by omega) hm, Option.bind_some]
        by_cases c : cst d k < cst d b'
        · rw [if_neg (nI_ge c (by unfold cst; omega))]
          exact go (by simp [btr, c])
        · rw [if_pos (nI_le (by omega) (by unfold cst; omega))]
          exact skip (chs_no (Or.inr (by simp [btr, c])))
    · rw [if_neg (fun e => q1 ((nI_z (Nat.lt_of_le_of_lt Nat.and_le_left (by omega))).mp e))]
      exact skip (chs_no (Or.inl q1))
