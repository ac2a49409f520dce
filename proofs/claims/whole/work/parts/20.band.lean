/-! a band, who gains, where it rests; who sits when -/
def pop (n : Nat) : Nat := fb_ct (fun i => n.testBit i) 8
theorem pop_24 {n : Nat} (h : n < 256) : fb_ct (fun i => n.testBit i) 24 = pop n := by
  rw [show 24 = 8 + 16 from rfl, fb_ct_split]
  have : fb_ct (fun k => n.testBit (8 + k)) 16 = 0 := fb_ct_zero.mpr (fun k _ => Nat.testBit_lt_two_pow (Nat.lt_of_lt_of_le h (by
    rw [show 256 = 2 ^ 8 from rfl]
    exact Nat.pow_le_pow_right (by decide) (by omega))))
  unfold pop
  omega
theorem pop_le (n : Nat) : pop n ≤ 8 := fb_ct_le _ _
theorem pop_pos {n k : Nat} (hk : k < 8) (h : n.testBit k = true) : 1 ≤ pop n := fb_ct_pos.mpr ⟨k, hk, h⟩
theorem bc_pop {n : Nat} (h : n < 256) : f_J6_bitCount_0f7a4 (nI n) = nI (pop n) := by rw [bc_nI (by omega), pop_24 h]
theorem m_many {n : Nat} (h : n < 256) : f_X11_manyOf (nI n) = some (nI (pop n)) := by
  have key : ∀ (m k w : Nat), k + m = 8 → m < w → f_X11_manyOf_4 w (nI n) (nI (fb_ct (fun i => n.testBit i) k)) (nI k) = some (nI (pop n)) := by
    intro m
    induction m with
    | zero =>
      intro k w hk hw
      obtain ⟨w, rfl⟩ : ∃ w', w = w' + 1 := ⟨w - 1, by omega⟩
      rw [f_X11_manyOf_4_s]
      have e : k = 8 := by omega
      subst e
      have c : (8 : Int32) ≤ nI 8 := by decide
      rw [if_pos c]; rfl
    | succ m ih =>
      intro k w hk hw
      obtain ⟨w, rfl⟩ : ∃ w', w = w' + 1 := ⟨w - 1, by omega⟩
      rw [f_X11_manyOf_4_s]
      have c : ¬ (8 : Int32) ≤ nI k := nI_ge (a := k) (b := 8) (by omega) (by omega)
      rw [if_neg c, bit_nI (by omega) (by omega), nI_1]
      have e : nI (fb_ct (fun i => n.testBit i) k) + (if n.testBit k = true then 1 else 0) = nI (fb_ct (fun i => n.testBit i) (k + 1)) := by
        rw [fb_ct_succ]
        cases n.testBit k
        · simp
        · simp [nI_1]
      rw [e]
      exact ih (k + 1) w (by omega) (by omega)
  have := key 8 0 1000 (by omega) (by omega)
  exact this
def bh (a : ZQ) (set s : Nat) : Nat := (if set.testBit s = true then hld a.1 (hs a) (fs a) s / 2 else hld a.1 (hs a) (fs a) s) + 3 * (pop set - (if set.testBit s = true then 1 else 0))
theorem bh_le {a : ZQ} (hok : aOK a) {set s : Nat} (h : s < nS a.1) : bh a set s ≤ 116 := by
  have h1 := hld_le hok.1 (hs a) (fs a) h
  have h2 := pop_le set
  unfold bh
  split <;> omega
def bsm (a : ZQ) (set : Nat) : Nat := fb_sm (bh a set) (nS a.1)
def bd (a : ZQ) (set s : Nat) : Nat := if bsm a set = 0 then 0 else ds a * bh a set s / bsm a set
theorem bsm_le {a : ZQ} (hok : aOK a) (set : Nat) {k : Nat} (hk : k ≤ nS a.1) : fb_sm (bh a set) k ≤ 696 := by
  have hS := hok.1.1.1
  have := fb_sm_bound (f := bh a set) (c := 116) (n := k) (fun j hj => bh_le hok (by omega))
  omega
theorem x_bh {a : ZQ} (hok : aOK a) {F : ZF} {A : ZA} {T : Int64} (h14 : ∀ j, j < nS a.1 → A 14 j = nI (hld a.1 (hs a) (fs a) j)) {set s : Nat} (hset : set < 64) (h : s < nS a.1) : f_X10_bandHeld (nI set) (nI s) F A T = some (nI (bh a set s)) := by
  have hS := hok.1.1.1
  have hl := hld_le hok.1 (hs a) (fs a) h
  have hp := pop_le set
  have g6 : gok (nI s) 6 = true := gok_nI (by omega) (by decide)
  unfold f_X10_bandHeld f_X10_bandHeld_34
  simp only [bitX (show set < 2 ^ 31 by omega) (show s < 32 by omega), ite10, g6, if_true, nI_clamp (show s < 2 ^ 31 by omega), h14 s h, bc_pop (show set < 256 by omega)]
  unfold bh
  by_cases b : set.testBit s = true
  · have := pop_pos (show s < 8 by omega) b
    simp only [b, if_true]
    rw [show (2 : Int32) = nI 2 from rfl, pk_div (by omega) (by decide) (by decide), show (1 : Int32) = nI 1 from rfl, pk_sub this, show (3 : Int32) = nI 3 from rfl, pk_mul, nI_add]
  · simp only [b, Bool.false_eq_true, if_false, Nat.sub_zero]
    rw [show (0 : Int32) = nI 0 from rfl, pk_sub (Nat.zero_le _), show (3 : Int32) = nI 3 from rfl, pk_mul, nI_add, Nat.sub_zero]
theorem m_bh {a : ZQ} (hok : aOK a) {F : ZF} {A : ZA} {T : Int64} (h17 : ∀ j, j < nS a.1 → A 17 j = nI (hld a.1 (hs a) (fs a) j)) {set s : Nat} (hset : set < 64) (h : s < nS a.1) : f_X11_bandHeld (nI s) (nI set) F A T = some (nI (bh a set s)) := by
  have hS := hok.1.1.1
  have hl := hld_le hok.1 (hs a) (fs a) h
  have hp := pop_le set
  have g6 : gok (nI s) 6 = true := gok_nI (by omega) (by decide)
  unfold f_X11_bandHeld f_X11_bandHeld_14 f_X11_bandHeld_28 f_X11_bandHeld_52
  simp only [bit_nI (show set < 2 ^ 31 by omega) (show s < 32 by omega), ite10, g6, if_true, nI_clamp (show s < 2 ^ 31 by omega), h17 s h, m_many (show set < 256 by omega), Option.bind_some, one0, if_false]
  unfold bh
  by_cases b : set.testBit s = true
  · have := pop_pos (show s < 8 by omega) b
    simp only [b, if_true]
    rw [show (2 : Int32) = nI 2 from rfl, pk_div (by omega) (by decide) (by decide), show (1 : Int32) = nI 1 from rfl, pk_sub this, show (3 : Int32) = nI 3 from rfl, pk_mul, nI_add]
  · simp only [b, Bool.false_eq_true, if_false, Nat.sub_zero]
    rw [show (0 : Int32) = nI 0 from rfl, pk_sub (Nat.zero_le _), show (3 : Int32) = nI 3 from rfl, pk_mul, nI_add, Nat.sub_zero]
theorem bd_b {a : ZQ} (hok : aOK a) {set s : Nat} (h : s < nS a.1) : ds a * bh a set s < 2 ^ 20 := Nat.lt_of_le_of_lt (Nat.mul_le_mul (ds_le hok) (bh_le hok h)) (by decide)
theorem bd_l {a : ZQ} (hok : aOK a) {set s : Nat} (h : s < nS a.1) : bd a set s < 2 ^ 20 := by
  have := bd_b hok (set := set) h
  unfold bd
  split
  · decide
  · exact Nat.lt_of_le_of_lt (Nat.div_le_self _ _) this
theorem x_bd {a : ZQ} (hok : aOK a) {F : ZF} {A : ZA} {T : Int64} (h22 : F 22 = nI (nS a.1)) (h12 : F 12 = nI (ds a)) (h14 : ∀ j, j < nS a.1 → A 14 j = nI (hld a.1 (hs a) (fs a) j)) {set s : Nat} (hset : set < 64) (h : s < nS a.1) : f_X10_bandDays (nI set) (nI s) F A T = some (nI (bd a set s)) := by
  have hS := hok.1.1.1
  have hb := bd_b hok (set := set) h
  have hbl := bsm_le hok set (Nat.le_refl (nS a.1))
  have key : ∀ (m k w : Nat), k + m = nS a.1 → m < w → f_X10_bandDays_5 F A T w (nI set) (nI s) (nI (fb_sm (bh a set) k)) (nI k) = some (nI (bd a set s)) := by
    intro m
    induction m with
    | zero =>
      intro k w hk hw
      obtain ⟨w, rfl⟩ : ∃ w', w = w' + 1 := ⟨w - 1, by omega⟩
      have e : k = nS a.1 := by omega
      subst e
      rw [f_X10_bandDays_5_s]
      have c1 : F 22 ≤ nI (nS a.1) := by rw [h22]; exact nI_le (by omega) (by omega)
      simp only [c1, if_true, x_bh hok (F := F) (T := T) h14 hset h, Option.bind_some, h12, pk_mul]
      unfold bd bsm
      rcases Nat.eq_zero_or_pos (fb_sm (bh a set) (nS a.1)) with q | q
      · rw [q, nI_0, if_pos rfl, if_pos rfl, nI_0]
      · have c2 : ¬ nI (fb_sm (bh a set) (nS a.1)) = 0 := nI_ne0 q (by omega)
        rw [if_neg c2, if_neg c2, if_neg (by omega), pk_div (by omega) q (by omega)]
    | succ m ih =>
      intro k w hk hw
      obtain ⟨w, rfl⟩ : ∃ w', w = w' + 1 := ⟨w - 1, by omega⟩
      rw [f_X10_bandDays_5_s]
      have c1 : ¬ F 22 ≤ nI k := by rw [h22]; exact nI_ge (by omega) (by omega)
      simp only [c1, if_false, x_bh hok (F := F) (T := T) h14 hset (show k < nS a.1 by omega), Option.bind_some, nI_add, nI_1]
      exact ih (k + 1) w (by omega) (by omega)
  have := key (nS a.1) 0 1000 (by omega) (by omega)
  exact this
theorem m_bd {a : ZQ} (hok : aOK a) {F : ZF} {A : ZA} {T : Int64} (h2 : A 2 0 = nI (nS a.1)) (h12 : A 15 2 = nI (ds a)) (h17 : ∀ j, j < nS a.1 → A 17 j = nI (hld a.1 (hs a) (fs a) j)) {set s : Nat} (hset : set < 64) (h : s < nS a.1) : f_X11_bandDays (nI s) (nI set) F A T = some (nI (bd a set s)) := by
  have hS := hok.1.1.1
  have hb := bd_b hok (set := set) h
  have hbl := bsm_le hok set (Nat.le_refl (nS a.1))
  have key : ∀ (m k w : Nat), k + m = nS a.1 → m < w → f_X11_bandDays_5 F A T w (nI s) (nI set) (nI (fb_sm (bh a set) k)) (nI k) = some (nI (bd a set s)) := by
    intro m
    induction m with
    | zero =>
      intro k w hk hw
      obtain ⟨w, rfl⟩ : ∃ w', w = w' + 1 := ⟨w - 1, by omega⟩
      have e : k = nS a.1 := by omega
      subst e
      rw [f_X11_bandDays_5_s]
      have c1 : A 2 0 ≤ nI (nS a.1) := by rw [h2]; exact nI_le (by omega) (by omega)
      simp only [cl0, cl2, c1, if_true, m_bh hok (F := F) (T := T) h17 hset h, Option.bind_some, h12, pk_mul]
      unfold bd bsm
      rcases Nat.eq_zero_or_pos (fb_sm (bh a set) (nS a.1)) with q | q
      · rw [q, nI_0, if_pos rfl, if_pos rfl, nI_0]
      · have c2 : ¬ nI (fb_sm (bh a set) (nS a.1)) = 0 := nI_ne0 q (by omega)
        rw [if_neg c2, if_neg c2, if_neg (by omega), pk_div (by omega) q (by omega)]
    | succ m ih =>
      intro k w hk hw
      obtain ⟨w, rfl⟩ : ∃ w', w = w' + 1 := ⟨w - 1, by omega⟩
      rw [f_X11_bandDays_5_s]
      have c1 : ¬ A 2 0 ≤ nI k := by rw [h2]; exact nI_ge (by omega) (by omega)
      simp only [cl0, c1, if_false, m_bh hok (F := F) (T := T) h17 hset (show k < nS a.1 by omega), Option.bind_some, nI_add, nI_1]
      exact ih (k + 1) w (by omega) (by omega)
  have := key (nS a.1) 0 1000 (by omega) (by omega)
  exact this
def fg (a : ZQ) (set : Nat) : Nat → Nat → Int32
  | 0, _ => -9
  | m + 1, k => if bd a set k ≤ bd a (set ^^^ 2 ^ k) k then fg a set m (k + 1) else nI k
theorem xor_lt {set k n : Nat} (hn : n ≤ 6) (h : set < 2 ^ n) (hk : k < n) : set ^^^ 2 ^ k < 64 := by
  have h1 : set < 2 ^ 6 := Nat.lt_of_lt_of_le h (Nat.pow_le_pow_right (by decide) hn)
  have h2 : 2 ^ k < 2 ^ 6 := Nat.pow_lt_pow_right (by decide) (by omega)
  exact Nat.xor_lt_two_pow h1 h2
theorem x_fg {a : ZQ} (hok : aOK a) {F : ZF} {A : ZA} {T : Int64} (h22 : F 22 = nI (nS a.1)) (h12 : F 12 = nI (ds a)) (h14 : ∀ j, j < nS a.1 → A 14 j = nI (hld a.1 (hs a) (fs a) j)) {set : Nat} (hset : set < 2 ^ nS a.1) : f_X10_firstGainer (nI set) F A T = some (fg a set (nS a.1) 0) := by
  have hS := hok.1.1.1
  have h64 : set < 64 := Nat.lt_of_lt_of_le hset (Nat.pow_le_pow_right (n := 2) (by decide) hS)
  have key : ∀ (m k w : Nat), k + m = nS a.1 → m < w → f_X10_firstGainer_2 F A T w (nI set) (nI k) = some (fg a set m k) := by
    intro m
    induction m with
    | zero =>
      intro k w hk hw
      obtain ⟨w, rfl⟩ : ∃ w', w = w' + 1 := ⟨w - 1, by omega⟩
      rw [f_X10_firstGainer_2_s]
      have c1 : F 22 ≤ nI k := by rw [h22]; exact nI_le (by omega) (by omega)
      simp only [c1, if_true, fg]
    | succ m ih =>
      intro k w hk hw
      obtain ⟨w, rfl⟩ : ∃ w', w = w' + 1 := ⟨w - 1, by omega⟩
      rw [f_X10_firstGainer_2_s]
      have c1 : ¬ F 22 ≤ nI k := by rw [h22]; exact nI_ge (by omega) (by omega)
      have l1 := bd_l hok (set := set) (show k < nS a.1 by omega)
      have l2 := bd_l hok (set := set ^^^ 2 ^ k) (show k < nS a.1 by omega)
      rw [if_neg c1, shl1 (by omega), fb_xorI, x_bd hok (T := T) h22 h12 h14 (xor_lt hS hset (by omega)) (by omega), Option.bind_some, x_bd hok (T := T) h22 h12 h14 h64 (by omega), Option.bind_some, nI_1]
      unfold fg
      by_cases q : bd a set k ≤ bd a (set ^^^ 2 ^ k) k
      · rw [if_pos (nI_le q (by omega)), if_pos q]
        exact ih (k + 1) w (by omega) (by omega)
      · rw [if_neg (nI_ge (by omega) (by omega)), if_neg q]
  have := key (nS a.1) 0 1000 (by omega) (by omega)
  exact this
theorem m_fg {a : ZQ} (hok : aOK a) {F : ZF} {A : ZA} {T : Int64} (h2 : A 2 0 = nI (nS a.1)) (h12 : A 15 2 = nI (ds a)) (h17 : ∀ j, j < nS a.1 → A 17 j = nI (hld a.1 (hs a) (fs a) j)) {set : Nat} (hset : set < 2 ^ nS a.1) : f_X11_firstWhoGains (nI set) F A T = some (fg a set (nS a.1) 0) := by
  have hS := hok.1.1.1
  have h64 : set < 64 := Nat.lt_of_lt_of_le hset (Nat.pow_le_pow_right (n := 2) (by decide) hS)
  have key : ∀ (m k w : Nat), k + m = nS a.1 → m < w → f_X11_firstWhoGains_2 F A T w (nI set) (nI k) = some (fg a set m k) := by
    intro m
    induction m with
    | zero =>
      intro k w hk hw
      obtain ⟨w, rfl⟩ : ∃ w', w = w' + 1 := ⟨w - 1, by omega⟩
      rw [f_X11_firstWhoGains_2_s]
      have c1 : A 2 0 ≤ nI k := by rw [h2]; exact nI_le (by omega) (by omega)
      simp only [cl0, c1, if_true, fg]
    | succ m ih =>
      intro k w hk hw
      obtain ⟨w, rfl⟩ : ∃ w', w = w' + 1 := ⟨w - 1, by omega⟩
      rw [f_X11_firstWhoGains_2_s]
      have c1 : ¬ A 2 0 ≤ nI k := by rw [h2]; exact nI_ge (by omega) (by omega)
      have l1 := bd_l hok (set := set) (show k < nS a.1 by omega)
      have l2 := bd_l hok (set := set ^^^ 2 ^ k) (show k < nS a.1 by omega)
      rw [cl0, if_neg c1, shl1 (by omega), fb_xorI, m_bd hok (F := F) (T := T) h2 h12 h17 (xor_lt hS hset (by omega)) (by omega), Option.bind_some, m_bd hok (F := F) (T := T) h2 h12 h17 h64 (by omega), Option.bind_some, nI_1]
      unfold fg
      by_cases q : bd a set k ≤ bd a (set ^^^ 2 ^ k) k
      · rw [if_pos (nI_le q (by omega)), if_pos q]
        exact ih (k + 1) w (by omega) (by omega)
      · rw [if_neg (nI_ge (by omega) (by omega)), if_neg q]
  have := key (nS a.1) 0 1000 (by omega) (by omega)
  exact this
theorem p_gains : st_gains Rel := by
  rintro a0 U V ⟨a, hok, hx, hm⟩
  have hS := hok.1.1.1
  have hp : 2 ^ nS a.1 ≤ 64 := Nat.pow_le_pow_right (n := 2) (by decide) hS
  have hp0 : 0 < 2 ^ nS a.1 := Nat.two_pow_pos _
  have eb : (1 : Int32) <<< (nI (nS a.1) &&& 31) - 1 = nI (2 ^ nS a.1 - 1) := by
    rw [shl1 (by omega), show (1 : Int32) = nI 1 from rfl, pk_sub hp0]
  unfold f_X10_gains f_X11_gains
  rw [in_wi, cl0, hx.1.1.1, hm.1.1.1, eb]
  rcases two_of a0 (n := 2 ^ nS a.1 - 1) (by omega) with ⟨e, -⟩ | ⟨e, set, hset, rfl⟩
  · simp only [e, if_true]
    exact ⟨_, _, rfl, rfl, rfl, a, hok, hx, hm⟩
  · obtain ⟨F1, A1, x1, x2, x3, x4, x5, x6, x7⟩ := wX hok hx
    obtain ⟨F2, A2, m1, m2, m3, m4⟩ := hM hok hm
    simp only [e, one0, if_false, x1, m1, Option.bind_some, x_fg hok (T := U.2.2) x2.1.1.1 x2.2.1.2.2.1 x5 (show set < 2 ^ nS a.1 by omega), m_fg hok (F := F2) (T := V.2.2) m2.1.1.1 m2.2.1.2.2.1 m4 (show set < 2 ^ nS a.1 by omega)]
    exact ⟨_, _, rfl, rfl, rfl, a, hok, x2, m2⟩
/-! the first of all, from below and from above -/
def lstX (P : Nat → Bool) : Nat → Int32
  | 0 => -9
  | k + 1 => if P k = true ∧ fb_ct P k = 0 then nI k else lstX P k
def fdn (P : Nat → Bool) : Nat → Int32 → Int32
  | 0, x => x
  | k + 1, x => fdn P k (if P k = true then nI k else x)
theorem fdn_eq (P : Nat → Bool) : ∀ (k : Nat) (x : Int32), fdn P k x = if fb_ct P k = 0 then x else lstX P k
  | 0, x => by simp [fdn, fb_ct]
  | k + 1, x => by
    unfold fdn lstX
    rw [fdn_eq P k, fb_ct_succ]
    by_cases c : fb_ct P k = 0
    · by_cases b : P k = true
      · simp [c, b]
      · simp [c, b]
    · by_cases b : P k = true
      · simp [c, b]
      · simp [c, b]
theorem add_m1 (x : Int32) : x + (-1) = x - 1 := by
  rw [Int32.sub_eq_add_neg]
