/-! what a state IS: a case, where the court stands, its images, its book, its text, its trace -/
abbrev ZD : Type := (Nat × Nat × Nat × Nat × Nat) × (Nat → Nat) × (Nat → Nat) × (Nat → Nat) × (Nat → Nat → Int) × (Nat → Nat) × (Nat → Nat) × (Nat → Nat) × (Nat → Nat)
abbrev nS (d : ZD) : Nat := d.1.1
abbrev nF (d : ZD) : Nat := d.1.2.1
abbrev nA (d : ZD) : Nat := d.1.2.2.1
abbrev dF (d : ZD) : Nat := d.1.2.2.2.1
abbrev dT (d : ZD) : Nat := d.1.2.2.2.2
abbrev gr (d : ZD) : Nat → Nat := d.2.1
abbrev co (d : ZD) : Nat → Nat := d.2.2.1
abbrev tr (d : ZD) : Nat → Nat := d.2.2.2.1
abbrev mv (d : ZD) : Nat → Nat → Int := d.2.2.2.2.1
abbrev wh (d : ZD) : Nat → Nat := d.2.2.2.2.2.1
abbrev pl (d : ZD) : Nat → Nat := d.2.2.2.2.2.2.1
abbrev fm (d : ZD) : Nat → Nat := d.2.2.2.2.2.2.2.1
abbrev tt (d : ZD) : Nat → Nat := d.2.2.2.2.2.2.2.2
def tmv (d : ZD) (f s : Nat) : Int := (mv d f s * (tr d f : Int)).tdiv 10
def dOK (d : ZD) : Prop := (nS d ≤ 6 ∧ nF d ≤ 8 ∧ nA d ≤ 8 ∧ dF d ≤ dT d ∧ dT d ≤ 23) ∧ (∀ s, s < nS d → gr d s ≤ 20) ∧ (∀ f, f < nF d → (1 ≤ co d f ∧ co d f ≤ 9) ∧ tr d f ≤ 10) ∧ (∀ f, f < nF d → ∀ s, s < 6 → -9 ≤ mv d f s ∧ mv d f s ≤ 9) ∧ (∀ a, a < nA d → wh d a < nS d ∧ pl d a ≤ 3 ∧ fm d a ≤ tt d a ∧ tt d a ≤ 23)
def TX (d : ZD) (F : ZF) (A : ZA) : Prop := (F 22 = nI (nS d) ∧ F 23 = nI (nF d) ∧ F 24 = nI (nA d) ∧ F 25 = nI (dF d) ∧ F 26 = nI (dT d)) ∧ (∀ s, s < nS d → A 29 s = nI (gr d s)) ∧ (∀ f, f < nF d → A 30 f = nI (co d f) ∧ A 31 f = nI (tr d f)) ∧ (∀ f, f < nF d → ∀ s, s < 6 → A 32 (6 * f + s) = Int32.ofInt (mv d f s) ∧ A 33 (6 * f + s) = Int32.ofInt (tmv d f s)) ∧ (∀ a, a < nA d → A 34 a = nI (wh d a) ∧ A 35 a = nI (pl d a) ∧ A 36 a = nI (fm d a) ∧ A 37 a = nI (tt d a))
def TM (d : ZD) (A : ZA) : Prop := (A 2 0 = nI (nS d) ∧ A 4 0 = nI (nF d) ∧ A 8 0 = nI (nA d) ∧ A 13 0 = nI (dF d) ∧ A 14 0 = nI (dT d)) ∧ (∀ s, s < nS d → A 3 s = nI (gr d s)) ∧ (∀ f, f < nF d → A 5 f = nI (co d f) ∧ A 6 f = nI (tr d f)) ∧ (∀ f, f < nF d → ∀ s, s < 6 → A 7 (6 * f + s) = Int32.ofInt (mv d f s)) ∧ (∀ a, a < nA d → A 9 a = nI (wh d a) ∧ A 10 a = nI (pl d a) ∧ A 11 a = nI (fm d a) ∧ A 12 a = nI (tt d a))
/-- where the court stands: facts found, alibis heard, days; and what may be undone, the latest last -/
abbrev ZG : Type := (Nat × Nat × Nat) × List (Nat × Nat × Nat)
def tOK (d : ZD) (t : Nat × Nat × Nat) : Prop := t.1 < 2 ^ nF d ∧ t.2.1 < 2 ^ nA d ∧ t.2.2 ≤ 60
def gOK (d : ZD) (g : ZG) : Prop := tOK d g.1 ∧ g.2.length ≤ 10 ∧ ∀ t ∈ g.2, tOK d t
def pk3 (t : Nat × Nat × Nat) : Nat := t.2.2 * 65536 + t.2.1 * 256 + t.1
def GX (g : ZG) (x0 x1 x2 x3 : Int32) (b : Nat → Int32) : Prop := x0 = nI g.1.1 ∧ x1 = nI g.1.2.1 ∧ x2 = nI g.1.2.2 ∧ x3 = nI g.2.length ∧ ∀ (i : Nat) (t : Nat × Nat × Nat), g.2[i]? = some t → b i = nI (pk3 t)
def GM (g : ZG) (n : Nat → Int32) (o : Nat) : Prop := n o = nI g.1.1 ∧ n (o + 1) = nI g.1.2.1 ∧ n (o + 2) = nI g.1.2.2 ∧ n (o + 3) = nI g.2.length ∧ ∀ (i : Nat) (t : Nat × Nat × Nat), g.2[i]? = some t → n (o + 4 + 3 * i) = nI t.1 ∧ n (o + 5 + 3 * i) = nI t.2.1 ∧ n (o + 6 + 3 * i) = nI t.2.2
/-- an image kept, or none -/
def JX (o : Option ZG) (k x0 x1 x2 x3 : Int32) (b : Nat → Int32) : Prop := match o with
  | none => k = 0
  | some g => k = 1 ∧ GX g x0 x1 x2 x3 b
def JM (o : Option ZG) (k : Int32) (n : Nat → Int32) (j : Nat) : Prop := match o with
  | none => k = 0
  | some g => k = 1 ∧ GM g n j
def jOK (d : ZD) (o : Option ZG) : Prop := ∀ g, o = some g → gOK d g
def LX (ls : List (Nat × Nat)) (x : Int32) (a b : Nat → Int32) : Prop := x = nI ls.length ∧ ∀ (i : Nat) (t : Nat × Nat), ls[i]? = some t → a i = nI t.1 ∧ b i = nI t.2
def lOK (d : ZD) (ls : List (Nat × Nat)) : Prop := ls.length ≤ 6 ∧ ∀ t ∈ ls, t.1 < nS d ∧ t.2 ≤ 60
def xOK (tx : List Nat) : Prop := tx.length ≤ 200 ∧ ∀ c ∈ tx, c < 256
def TXX (tx : List Nat) (x : Int32) (b : Nat → Int32) : Prop := x = nI tx.length ∧ ∀ (i c : Nat), tx[i]? = some c → b i = nI c
def TXM (tx : List Nat) (x : Int32) (b : Nat → Int32) : Prop := x = nI tx.length ∧ ∀ (i c : Nat), tx[i]? = some c → b i &&& 255 = nI c
/-- a state of all: the case, the standing, two images, the book, the text, the trace -/
abbrev ZQ : Type := ZD × ZG × (Option ZG × Option ZG) × List (Nat × Nat) × List Nat × Int64
def aOK (a : ZQ) : Prop := dOK a.1 ∧ gOK a.1 a.2.1 ∧ (jOK a.1 a.2.2.1.1 ∧ jOK a.1 a.2.2.1.2) ∧ lOK a.1 a.2.2.2.1 ∧ xOK a.2.2.2.2.1
def IX (a : ZQ) (U : ZS) : Prop := TX a.1 U.1 U.2.1 ∧ GX a.2.1 (U.1 10) (U.1 11) (U.1 12) (U.1 13) (U.2.1 18) ∧ (JX a.2.2.1.1 (U.2.1 5 0) (U.1 14) (U.1 15) (U.1 16) (U.1 17) (U.2.1 21) ∧ JX a.2.2.1.2 (U.2.1 5 1) (U.1 18) (U.1 19) (U.1 20) (U.1 21) (U.2.1 22)) ∧ LX a.2.2.2.1 (U.1 0) (U.2.1 8) (U.2.1 9) ∧ TXX a.2.2.2.2.1 (U.1 1) (U.2.1 12) ∧ U.2.2 = a.2.2.2.2.2
def IM (a : ZQ) (V : ZS) : Prop := TM a.1 V.2.1 ∧ GM a.2.1 (V.2.1 15) 0 ∧ (JM a.2.2.1.1 (V.2.1 16 0) (V.2.1 15) 34 ∧ JM a.2.2.1.2 (V.2.1 16 1) (V.2.1 15) 68) ∧ LX a.2.2.2.1 (V.1 10) (V.2.1 19) (V.2.1 20) ∧ TXM a.2.2.2.2.1 (V.1 0) (V.2.1 1) ∧ V.2.2 = a.2.2.2.2.2
def Rel (U V : ZS) : Prop := ∃ a : ZQ, aOK a ∧ IX a U ∧ IM a V
/-! plain rows -/
theorem cl0 : ((0 : Int32)).toNatClampNeg = 0 := by decide
theorem cl1 : ((1 : Int32)).toNatClampNeg = 1 := by decide
theorem cl2 : ((2 : Int32)).toNatClampNeg = 2 := by decide
theorem cl3 : ((3 : Int32)).toNatClampNeg = 3 := by decide
theorem gok_nI {k n : Nat} (h : k < n) (hn : n < 2 ^ 31) : gok (nI k) n = true := gok_of (vp_in_nI h hn)
theorem zst_same (A : ZA) (k i : Nat) (x : Int32) : zst A k i x k = upd (A k) i x := by simp [zst, va_up]
theorem zst_ne {A : ZA} {k j : Nat} (h : j ≠ k) (i : Nat) (x : Int32) : zst A k i x j = A j := by simp [zst, va_up, h]
theorem zrw_same (A : ZA) (k : Nat) (f : Nat → Int32) : zrw A k f k = f := by simp [zrw, va_up]
theorem zrw_ne {A : ZA} {k j : Nat} (h : j ≠ k) (f : Nat → Int32) : zrw A k f j = A j := by simp [zrw, va_up, h]
theorem upd_same (f : Nat → Int32) (k : Nat) (x : Int32) : upd f k x k = x := by simp [upd]
theorem upd_ne {f : Nat → Int32} {k j : Nat} (h : j ≠ k) (x : Int32) : upd f k x j = f j := by simp [upd, h]
theorem wi_eq (a l h : Int32) : f_X10_within a l h = if l ≤ a ∧ a ≤ h then 1 else 0 := by
  unfold f_X10_within
  by_cases h1 : a < l
  · rw [if_pos h1, if_neg]
    intro q
    rw [fa_le] at q
    rw [fa_lt] at h1
    omega
  · rw [if_neg h1]
    by_cases h2 : h < a
    · rw [if_pos h2, if_neg]
      intro q
      have := q.2
      rw [fa_le] at this
      rw [fa_lt] at h2
      omega
    · rw [if_neg h2, if_pos]
      rw [fa_lt] at h1 h2
      rw [fa_le, fa_le]
      omega
theorem in_eq (a l h : Int32) : f_X11_in a l h = if l ≤ a ∧ a ≤ h then 1 else 0 := wi_eq a l h
/-- an int between 0 and n: which -/
theorem rng_of {a : Int32} {n : Nat} (hn : n < 2 ^ 31) (h : 0 ≤ a ∧ a ≤ nI n) : ∃ k, k ≤ n ∧ a = nI k := by
  obtain ⟨h1, h2⟩ := h
  rw [fa_le] at h1 h2
  rw [nI_toInt hn] at h2
  have h0 : (0 : Int32).toInt = 0 := by decide
  rw [h0] at h1
  refine ⟨a.toInt.toNat, by omega, ?_⟩
  apply Int32.toInt_inj.mp
  rw [nI_toInt (by omega)]
  omega
theorem rng_nI {k n : Nat} (h : k ≤ n) (hn : n < 2 ^ 31) : (0 : Int32) ≤ nI k ∧ nI k ≤ nI n := ⟨nI_pos' (by omega), nI_le h hn⟩
/-- is it one of n things: a number below n, or none -/
theorem one_of (a : Int32) {n : Nat} (hn : n < 2 ^ 30) : (f_X10_within a 0 (nI n - 1) = 0 ∧ ¬ ∃ k, k < n ∧ a = nI k) ∨ (f_X10_within a 0 (nI n - 1) = 1 ∧ ∃ k, k < n ∧ a = nI k) := by
  rw [wi_eq]
  have e : (nI n - 1).toInt = (n : Int) - 1 := by
    have := pk_sub_toInt (a := n) (b := 1) hn (by decide)
    exact this
  by_cases h : (0 : Int32) ≤ a ∧ a ≤ nI n - 1
  · right
    rw [if_pos h]
    refine ⟨rfl, ?_⟩
    obtain ⟨h1, h2⟩ := h
    rw [fa_le] at h1 h2
    rw [e] at h2
    have h0 : (0 : Int32).toInt = 0 := by decide
    rw [h0] at h1
    refine ⟨a.toInt.toNat, by omega, ?_⟩
    apply Int32.toInt_inj.mp
    rw [nI_toInt (by omega)]
    omega
  · left
    rw [if_neg h]
    refine ⟨rfl, ?_⟩
    rintro ⟨k, hk, rfl⟩
    apply h
    refine ⟨nI_pos' (by omega), ?_⟩
    rw [fa_le, e, nI_toInt (by omega)]
    omega
/-- between 0 and a number told -/
theorem two_of (a : Int32) {n : Nat} (hn : n < 2 ^ 30) : (f_X10_within a 0 (nI n) = 0 ∧ ¬ ∃ k, k ≤ n ∧ a = nI k) ∨ (f_X10_within a 0 (nI n) = 1 ∧ ∃ k, k ≤ n ∧ a = nI k) := by
  rw [wi_eq]
  by_cases h : (0 : Int32) ≤ a ∧ a ≤ nI n
  · right
    rw [if_pos h]
    exact ⟨rfl, rng_of (by omega) h⟩
  · left
    rw [if_neg h]
    refine ⟨rfl, ?_⟩
    rintro ⟨k, hk, rfl⟩
    exact h (rng_nI hk (by omega))
theorem in_wi (a l h : Int32) : f_X11_in a l h = f_X10_within a l h := rfl
theorem h0_rel : Rel (xF0, (fun _ _ => 0), 0) ((fun _ => 0), mA0, 0) := by
  refine ⟨(((0, 0, 0, 8, 15), fun _ => 0, fun _ => 0, fun _ => 0, fun _ _ => 0, fun _ => 0, fun _ => 0, fun _ => 0, fun _ => 0), ((0, 0, 10), []), (none, none), [], [], 0), ?_, ?_, ?_⟩
  · refine ⟨⟨⟨by decide, by decide, by decide, by decide, by decide⟩, ?_, ?_, ?_, ?_⟩, ⟨⟨by decide, by decide, by decide⟩, by decide, ?_⟩, ⟨?_, ?_⟩, ⟨by decide, ?_⟩, ⟨by decide, ?_⟩⟩ <;> first | exact fun s h => absurd h (Nat.not_lt_zero s) | simp [jOK]
  · refine ⟨⟨⟨rfl, rfl, rfl, rfl, rfl⟩, ?_, ?_, ?_, ?_⟩, ⟨rfl, rfl, rfl, rfl, ?_⟩, ⟨rfl, rfl⟩, ⟨rfl, ?_⟩, ⟨rfl, ?_⟩, rfl⟩ <;> first | exact fun s h => absurd h (Nat.not_lt_zero s) | simp
  · refine ⟨⟨⟨rfl, rfl, rfl, rfl, rfl⟩, ?_, ?_, ?_, ?_⟩, ⟨rfl, rfl, rfl, rfl, ?_⟩, ⟨rfl, rfl⟩, ⟨rfl, ?_⟩, ⟨rfl, ?_⟩, rfl⟩ <;> first | exact fun s h => absurd h (Nat.not_lt_zero s) | simp
