/-! hours of the deed in which alibis heard have one -/
theorem bit_nI {x k : Nat} (hx : x < 2 ^ 31) (hk : k < 32) : (nI x >>> (nI k &&& 31)) &&& (1 : Int32) = if x.testBit k then 1 else 0 := by
  rw [pk_shrN hx (nI k &&& 31) k (s_l k hk), show (1 : Int32) = nI (2 ^ 1 - 1) from rfl, fa_mask, Nat.testBit_eq_decide_div_mod_eq]
  rcases Nat.mod_two_eq_zero_or_one (x / 2 ^ k) with h | h <;> simp [h] <;> rfl
theorem bitX {x k : Nat} (hx : x < 2 ^ 31) (hk : k < 32) : f_X10_bit (nI x) (nI k) = if x.testBit k then 1 else 0 := bit_nI hx hk
theorem ite10 {b : Bool} : ((if b = true then (1 : Int32) else 0) = 1) = (b = true) := by cases b <;> simp
theorem ite00 {b : Bool} : ((if b = true then (1 : Int32) else 0) = 0) = (b = false) := by cases b <;> simp
theorem shl1 {k : Nat} (hk : k < 31) : (1 : Int32) <<< (nI k &&& 31) = nI (2 ^ k) := by
  have := pk_shlN (n := 1) (nI k &&& 31) k (s_l k (by omega)) (by
    have : 2 ^ k < 2 ^ 32 := Nat.pow_lt_pow_right (by decide) (by omega)
    omega)
  rw [Nat.one_mul] at this
  exact this
theorem hft {f t : Nat} (h : f ≤ t) (ht : t ≤ 23) : f_X5_hoursFromTo (nI f) (nI t) = nI (2 ^ (t + 1) - 2 ^ f) := by
  unfold f_X5_hoursFromTo
  rw [nI_1, shl1 (by omega), shl1 (by omega), pk_sub (Nat.pow_le_pow_right (by decide) (by omega))]
theorem mask_bit {f t : Nat} (h : f ≤ t) (i : Nat) : (2 ^ (t + 1) - 2 ^ f).testBit i = (decide (f ≤ i) && decide (i ≤ t)) := by
  have e : 2 ^ (t + 1) - 2 ^ f = 2 ^ f * (2 ^ (t + 1 - f) - 1) := by
    rw [Nat.mul_sub, ← Nat.pow_add, Nat.mul_one]
    congr 2
    omega
  rw [e, Nat.testBit_two_pow_mul, Nat.testBit_two_pow_sub_one]
  by_cases h1 : f ≤ i
  · have : (i - f < t + 1 - f) = (i ≤ t) := by apply propext; omega
    simp [h1, this]
  · simp [h1]
/-- an alibi heard has him in that hour -/
def hbP (d : ZD) (hd s h a : Nat) : Bool := hd.testBit a && decide (wh d a = s) && (decide (fm d a ≤ h) && decide (h ≤ tt d a))
/-- one of m alibis from k on does -/
def hbk (d : ZD) (hd s h : Nat) : Nat → Nat → Bool
  | 0, _ => false
  | m + 1, k => hbP d hd s h k || hbk d hd s h m (k + 1)
def hrP (d : ZD) (hd s h : Nat) : Bool := hbk d hd s h (nA d) 0 && (decide (dF d ≤ h) && decide (h ≤ dT d))
def hrs (d : ZD) (hd s : Nat) : Nat := fb_ct (hrP d hd s) 24
theorem hrs_le (d : ZD) (hd s : Nat) : hrs d hd s ≤ 24 := fb_ct_le _ _
/-- the reference's inner loop -/
theorem m_h25 {d : ZD} (hd0 : dOK d) {F : ZF} {A : ZA} {T : Int64} (hm : TM d A) {hd : Nat} (hh : hd < 256) (eh : A 15 1 = nI hd) (K : Int32 → Int32 → Int32 → Option Int32) {s h : Nat} (hs : s < 6) (hh2 : h ≤ 23) (x2 : Int32) :
    ∀ (m k n : Nat) (b : Bool), k + m = nA d → m < n → f_X11_hoursOf_25 F A T K n (nI s) x2 (nI h) (if b then 1 else 0) (nI k) = K (nI s) (x2 + (if b || hbk d hd s h m k then 1 else 0)) (nI (h + 1)) := by
  intro m
  induction m with
  | zero =>
    intro k n b hk hn
    obtain ⟨n, rfl⟩ : ∃ n', n = n' + 1 := ⟨n - 1, by omega⟩
    rw [f_X11_hoursOf_25_s]
    have c1 : A 8 0 ≤ nI k := by rw [hm.1.2.2.1]; exact nI_le (by omega) (by have := hd0.1.2.2.1; omega)
    simp only [cl0, c1, if_true, f_X11_hoursOf_112, nI_1, hbk, Bool.or_false]
    cases b <;> simp
  | succ m ih =>
    intro k n b hk hn
    obtain ⟨n, rfl⟩ : ∃ n', n = n' + 1 := ⟨n - 1, by omega⟩
    have hA := hd0.1.2.2.1
    have hS := hd0.1.1
    rw [f_X11_hoursOf_25_s]
    have c1 : ¬ A 8 0 ≤ nI k := by rw [hm.1.2.2.1]; exact nI_ge (by omega) (by omega)
    have g : gok (nI k) 16 = true := gok_nI (by omega) (by decide)
    have t := hm.2.2.2.2 k (by omega)
    have o := hd0.2.2.2.2 k (by omega)
    simp only [cl0, cl1, c1, if_false, eh, bit_nI (show hd < 2 ^ 31 by omega) (show k < 32 by omega), g, if_true, nI_clamp (show k < 2 ^ 31 by omega), t.1, t.2.2.1, t.2.2.2, ite10, nI_1]
    cases b with
    | true => simp only [if_true, Bool.true_or, one0, if_false]; have := ih (k + 1) n true (by omega) (by omega); simpa using this
    | false =>
      simp only [Bool.false_or, hbk, hbP]
      have i0 := ih (k + 1) n false (by omega) (by omega)
      have i1 := ih (k + 1) n true (by omega) (by omega)
      simp only [Bool.false_or, Bool.true_or, if_true] at i0 i1
      rw [show (if (false = true) then (1 : Int32) else 0) = 0 from rfl] at i0 ⊢
      rw [if_pos rfl]
      by_cases b1 : hd.testBit k = true
      · rw [if_pos b1]
        by_cases b2 : wh d k = s
        · rw [if_pos (by rw [b2])]
          rw [in_wi, wi_eq]
          by_cases b3 : fm d k ≤ h ∧ h ≤ tt d k
          · rw [if_pos (show nI (fm d k) ≤ nI h ∧ nI h ≤ nI (tt d k) from ⟨nI_le b3.1 (by omega), nI_le b3.2 (by omega)⟩), if_neg (by decide), i1]
            simp [b1, b2, b3.1, b3.2]
          · rw [if_neg (show ¬ (nI (fm d k) ≤ nI h ∧ nI h ≤ nI (tt d k)) from fun q => b3 ⟨(nI_leI (by omega) (by omega)).mp q.1, (nI_leI (by omega) (by omega)).mp q.2⟩), if_pos rfl, i0]
            have : (decide (fm d k ≤ h) && decide (h ≤ tt d k)) = false := by
              rcases Nat.lt_or_ge h (fm d k) with q | q
              · simp [Nat.not_le.mpr q]
              · have : ¬ h ≤ tt d k := fun z => b3 ⟨q, z⟩
                simp [this]
            simp [this]
        · rw [if_neg (fun q => b2 ((nI_eq (by omega) (by omega)).mp q)), i0]
          simp [b2]
      · rw [if_neg b1, i0]
        simp [Bool.not_eq_true _ ▸ b1]
theorem m_h9 {d : ZD} (hd0 : dOK d) {F : ZF} {A : ZA} {T : Int64} (hm : TM d A) {hd : Nat} (hh : hd < 256) (eh : A 15 1 = nI hd) {s : Nat} (hs : s < 6) :
    ∀ (m h n : Nat), h + m = dT d + 1 → dF d ≤ h → m < n → f_X11_hoursOf_9 F A T n (nI s) (nI (fb_ct (hrP d hd s) h)) (nI h) = some (nI (hrs d hd s)) := by
  have hT := hd0.1.2.2.2.2
  have hA := hd0.1.2.2.1
  intro m
  induction m with
  | zero =>
    intro h n e hf hn
    obtain ⟨n, rfl⟩ : ∃ n', n = n' + 1 := ⟨n - 1, by omega⟩
    rw [f_X11_hoursOf_9_s]
    have c1 : A 14 0 < nI h := by rw [hm.1.2.2.2.2]; exact nI_lt (by omega) (by omega)
    simp only [cl0, c1, if_true]
    congr 2
    unfold hrs
    obtain ⟨j, hj⟩ : ∃ j, 24 = h + j := ⟨24 - h, by omega⟩
    rw [hj, fb_ct_split]
    have z : fb_ct (fun k => hrP d hd s (h + k)) j = 0 := fb_ct_zero.mpr (fun k _ => by
      have : ¬ h + k ≤ dT d := by omega
      simp [hrP, this])
    omega
  | succ m ih =>
    intro h n e hf hn
    obtain ⟨n, rfl⟩ : ∃ n', n = n' + 1 := ⟨n - 1, by omega⟩
    rw [f_X11_hoursOf_9_s]
    have c1 : ¬ A 14 0 < nI h := by rw [hm.1.2.2.2.2]; exact nI_nlt (by omega) (by omega)
    simp only [cl0, c1, if_false]
    have := m_h25 hd0 (F := F) (T := T) hm hh eh (f_X11_hoursOf_9 F A T n) hs (show h ≤ 23 by omega) (nI (fb_ct (hrP d hd s) h)) (nA d) 0 1000 false (by omega) (by omega)
    rw [show (if (false = true) then (1 : Int32) else 0) = 0 from rfl, nI_0] at this
    rw [this, Bool.false_or]
    have st : nI (fb_ct (hrP d hd s) h) + (if hbk d hd s h (nA d) 0 then 1 else 0) = nI (fb_ct (hrP d hd s) (h + 1)) := by
      rw [fb_ct_succ]
      have : hrP d hd s h = hbk d hd s h (nA d) 0 := by
        have h2 : h ≤ dT d := by omega
        simp [hrP, hf, h2]
      rw [this]
      cases hbk d hd s h (nA d) 0
      · simp
      · simp [nI_1]
    rw [st]
    exact ih (h + 1) n (by omega) (by omega) (by omega)
theorem m_hours {d : ZD} (hd0 : dOK d) {F : ZF} {A : ZA} {T : Int64} (hm : TM d A) {hd : Nat} (hh : hd < 256) (eh : A 15 1 = nI hd) {s : Nat} (hs : s < 6) : f_X11_hoursOf (nI s) F A T = some (nI (hrs d hd s)) := by
  unfold f_X11_hoursOf
  have h1 := hd0.1
  rw [cl0, hm.1.2.2.2.1]
  have z : fb_ct (hrP d hd s) (dF d) = 0 := fb_ct_zero.mpr (fun k hk => by
    have : ¬ dF d ≤ k := by omega
    simp [hrP, this])
  have := m_h9 hd0 (F := F) (T := T) hm hh eh hs (dT d + 1 - dF d) (dF d) 1000 (by omega) (by omega) (by omega)
  rw [z, nI_0] at this
  exact this
/-! Integer.bitCount of 24 bits -/
theorem and_split {a b M m : Nat} (ha : a < 2 ^ 8) (hm : m < 2 ^ 8) : (2 ^ 8 * b + a) &&& (2 ^ 8 * M + m) = 2 ^ 8 * (b &&& M) + (a &&& m) := by
  apply Nat.eq_of_testBit_eq
  intro i
  rw [Nat.testBit_and, Nat.testBit_two_pow_mul_add _ ha, Nat.testBit_two_pow_mul_add _ hm, Nat.testBit_two_pow_mul_add _ (Nat.lt_of_le_of_lt Nat.and_le_left ha)]
  by_cases h : i < 8
  · simp [h, Nat.testBit_and]
  · simp [h, Nat.testBit_and]
def bS1 (M n : Nat) : Nat := n - (n / 2 &&& M)
def bS2 (M n : Nat) : Nat := (n &&& M) + (n / 4 &&& M)
def bS3 (M n : Nat) : Nat := (n + n / 16) &&& M
theorem b1_fin : ∀ a, a < 256 → ∀ c, c < 2 → (a / 2 + 128 * c) &&& 85 = a / 2 &&& 85 := by decide +kernel
theorem b2_fin : ∀ a, a < 256 → ∀ c, c < 4 → (a / 4 + 64 * c) &&& 51 = a / 4 &&& 51 := by decide +kernel
theorem b3_fin : ∀ a, a < 69 → ∀ c, c < 5 → (a + a / 16 + 16 * c) &&& 15 = (a + a / 16) &&& 15 := by decide +kernel
theorem bS1_split {a : Nat} (B M : Nat) (ha : a < 256) : bS1 (2 ^ 8 * M + 85) (2 ^ 8 * B + a) = 2 ^ 8 * bS1 M B + bS1 85 a := by
  unfold bS1
  have e : (2 ^ 8 * B + a) / 2 = 2 ^ 8 * (B / 2) + (a / 2 + 128 * (B % 2)) := by omega
  rw [e, and_split (by omega) (by decide), b1_fin a ha _ (by omega)]
  have h1 : B / 2 &&& M ≤ B / 2 := Nat.and_le_left
  have h2 : a / 2 &&& 85 ≤ a / 2 := Nat.and_le_left
  omega
theorem bS2_split {a : Nat} (B M : Nat) (ha : a < 256) : bS2 (2 ^ 8 * M + 51) (2 ^ 8 * B + a) = 2 ^ 8 * bS2 M B + bS2 51 a := by
  unfold bS2
  have e : (2 ^ 8 * B + a) / 4 = 2 ^ 8 * (B / 4) + (a / 4 + 64 * (B % 4)) := by omega
  rw [e, and_split (by omega) (by decide), and_split (by omega) (by decide), b2_fin a ha _ (by omega)]
  omega
theorem bS3_split {a : Nat} (B M : Nat) (ha : a < 69) (hB : B % 16 < 5) : bS3 (2 ^ 8 * M + 15) (2 ^ 8 * B + a) = 2 ^ 8 * bS3 M B + bS3 15 a := by
  unfold bS3
  have e : 2 ^ 8 * B + a + (2 ^ 8 * B + a) / 16 = 2 ^ 8 * (B + B / 16) + (a + a / 16 + 16 * (B % 16)) := by omega
  rw [e, and_split (by omega) (by decide), b3_fin a ha _ hB]
def bP (a : Nat) : Nat := bS3 15 (bS2 51 (bS1 85 a))
theorem bP_fin : ∀ a, a < 256 → (bS1 85 a < 256 ∧ bS2 51 (bS1 85 a) < 69 ∧ bS2 51 (bS1 85 a) % 16 < 5) ∧ bP a = fb_ct (fun i => a.testBit i) 8 ∧ bP a ≤ 8 := by decide +kernel
def bcN (n : Nat) : Nat :=
  let x3 := bS3 252645135 (bS2 858993459 (bS1 1431655765 n))
  (x3 + x3 / 256 + (x3 + x3 / 256) / 65536) % 64
theorem bcN_eq {a b c : Nat} (ha : a < 256) (hb : b < 256) (hc : c < 256) : bcN (2 ^ 8 * (2 ^ 8 * c + b) + a) = bP a + bP b + bP c := by
  obtain ⟨⟨a1, a2, a3⟩, -, a5⟩ := bP_fin a ha
  obtain ⟨⟨b1, b2, b3⟩, -, b5⟩ := bP_fin b hb
  obtain ⟨⟨c1, c2, c3⟩, -, c5⟩ := bP_fin c hc
  have z1 : ∀ M, bS1 M 0 = 0 := fun M => by simp [bS1]
  have z2 : ∀ M, bS2 M 0 = 0 := fun M => by simp [bS2]
  have z3 : ∀ M, bS3 M 0 = 0 := fun M => by simp [bS3]
  have e1 : bS1 1431655765 (2 ^ 8 * (2 ^ 8 * c + b) + a) = 2 ^ 8 * (2 ^ 8 * bS1 85 c + bS1 85 b) + bS1 85 a := by
    rw [show 1431655765 = 2 ^ 8 * 5592405 + 85 from rfl, bS1_split _ _ ha, show 5592405 = 2 ^ 8 * 21845 + 85 from rfl, bS1_split _ _ hb]
    have t : bS1 21845 c = bS1 85 c := by
      have := bS1_split (a := c) 0 85 hc
      rw [z1] at this
      simpa using this
    rw [t]
  have e2 : bS2 858993459 (2 ^ 8 * (2 ^ 8 * bS1 85 c + bS1 85 b) + bS1 85 a) = 2 ^ 8 * (2 ^ 8 * bS2 51 (bS1 85 c) + bS2 51 (bS1 85 b)) + bS2 51 (bS1 85 a) := by
    rw [show 858993459 = 2 ^ 8 * 3355443 + 51 from rfl, bS2_split _ _ a1, show 3355443 = 2 ^ 8 * 13107 + 51 from rfl, bS2_split _ _ b1]
    have t : bS2 13107 (bS1 85 c) = bS2 51 (bS1 85 c) := by
      have := bS2_split (a := bS1 85 c) 0 51 c1
      rw [z2] at this
      simpa using this
    rw [t]
  have e3 : bS3 252645135 (2 ^ 8 * (2 ^ 8 * bS2 51 (bS1 85 c) + bS2 51 (bS1 85 b)) + bS2 51 (bS1 85 a)) = 2 ^ 8 * (2 ^ 8 * bP c + bP b) + bP a := by
    rw [show 252645135 = 2 ^ 8 * 986895 + 15 from rfl, bS3_split _ _ a2 (by omega), show 986895 = 2 ^ 8 * 3855 + 15 from rfl, bS3_split _ _ b2 (by omega)]
    have t : bS3 3855 (bS2 51 (bS1 85 c)) = bS3 15 (bS2 51 (bS1 85 c)) := by
      have := bS3_split (a := bS2 51 (bS1 85 c)) 0 15 c2 (by decide)
      rw [z3] at this
      simpa using this
    rw [t]
    rfl
  unfold bcN
  rw [e1, e2, e3]
  clear e1 e2 e3
  dsimp only
  rw [show (2 : Nat) ^ 8 = 256 from rfl]
  generalize bP a = pa at *
  generalize bP b = pb at *
  generalize bP c = pc at *
  have d1 : (256 * (256 * pc + pb) + pa) / 256 = 256 * pc + pb := by omega
  rw [d1]
  have d2 : (256 * (256 * pc + pb) + pa + (256 * pc + pb)) / 65536 = pc := by omega
  rw [d2]
  omega
theorem bc_nI {n : Nat} (h : n < 2 ^ 24) : f_J6_bitCount_0f7a4 (nI n) = nI (fb_ct (fun i => n.testBit i) 24) := by
  have hs1 : (((1 : Int32).toUInt32 &&& Int32.toUInt32 31).toBitVec % 32).toNat = 1 := by decide
  have hs2 : (((2 : Int32).toUInt32 &&& Int32.toUInt32 31).toBitVec % 32).toNat = 2 := by decide
  have hs4 : (((4 : Int32).toUInt32 &&& Int32.toUInt32 31).toBitVec % 32).toNat = 4 := by decide
  have hs8 : (((8 : Int32).toUInt32 &&& Int32.toUInt32 31).toBitVec % 32).toNat = 8 := by decide
  have hs16 : (((16 : Int32).toUInt32 &&& Int32.toUInt32 31).toBitVec % 32).toNat = 16 := by decide
  unfold f_J6_bitCount_0f7a4
  have u1 : nI n - ((((nI n).toUInt32 >>> ((1 : Int32).toUInt32 &&& Int32.toUInt32 31)).toInt32) &&& (1431655765 : Int32)) = nI (bS1 1431655765 n) := by
    rw [pk_ushrN (by omega) 1 1 hs1, show (1431655765 : Int32) = nI 1431655765 from rfl, fa_and, pk_sub (Nat.le_trans Nat.and_le_left (by omega))]
    rfl
  rw [u1]
  have l1 : bS1 1431655765 n < 2 ^ 24 := by unfold bS1; omega
  have l2 : bS2 858993459 (bS1 1431655765 n) < 2 ^ 26 := by
    unfold bS2
    have h1 : bS1 1431655765 n &&& 858993459 ≤ bS1 1431655765 n := Nat.and_le_left
    have h2 : bS1 1431655765 n / 4 &&& 858993459 ≤ bS1 1431655765 n / 4 := Nat.and_le_left
    omega
  have u2 : (nI (bS1 1431655765 n) &&& (858993459 : Int32)) + ((((nI (bS1 1431655765 n)).toUInt32 >>> ((2 : Int32).toUInt32 &&& Int32.toUInt32 31)).toInt32) &&& (858993459 : Int32)) = nI (bS2 858993459 (bS1 1431655765 n)) := by
    rw [pk_ushrN (by omega) 2 2 hs2, show (858993459 : Int32) = nI 858993459 from rfl, fa_and, fa_and, nI_add]
    rfl
  rw [u2]
  have u3 : (nI (bS2 858993459 (bS1 1431655765 n)) + (((nI (bS2 858993459 (bS1 1431655765 n))).toUInt32 >>> ((4 : Int32).toUInt32 &&& Int32.toUInt32 31)).toInt32)) &&& (252645135 : Int32) = nI (bS3 252645135 (bS2 858993459 (bS1 1431655765 n))) := by
    rw [pk_ushrN (by omega) 4 4 hs4, show (252645135 : Int32) = nI 252645135 from rfl, nI_add, fa_and]
    rfl
  rw [u3]
  have l3 : bS3 252645135 (bS2 858993459 (bS1 1431655765 n)) ≤ 252645135 := by unfold bS3; exact Nat.and_le_right
  have fin : bcN n = fb_ct (fun i => n.testBit i) 24 := by
    have e : n = 2 ^ 8 * (2 ^ 8 * (n / 65536) + n / 256 % 256) + n % 256 := by omega
    have ha : n % 256 < 256 := Nat.mod_lt _ (by decide)
    have hb : n / 256 % 256 < 256 := Nat.mod_lt _ (by decide)
    have hc : n / 65536 < 256 := by omega
    rw [show bcN n = bP (n % 256) + bP (n / 256 % 256) + bP (n / 65536) from by
      have := bcN_eq ha hb hc
      rw [← e] at this
      exact this]
    rw [(bP_fin _ ha).2.1, (bP_fin _ hb).2.1, (bP_fin _ hc).2.1]
    rw [show 24 = 8 + (8 + 8) from rfl, fb_ct_split, fb_ct_split]
    have q1 : fb_ct (fun i => n.testBit i) 8 = fb_ct (fun i => (n % 256).testBit i) 8 := fb_ct_cong (fun k hk => by
      rw [show 256 = 2 ^ 8 from rfl, Nat.testBit_mod_two_pow]; simp [hk])
    have q2 : fb_ct (fun k => n.testBit (8 + k)) 8 = fb_ct (fun i => (n / 256 % 256).testBit i) 8 := fb_ct_cong (fun k hk => by
      rw [show 256 = 2 ^ 8 from rfl, Nat.testBit_mod_two_pow, Nat.testBit_div_two_pow]; simp [hk, Nat.add_comm])
    have q3 : fb_ct (fun k => n.testBit (8 + (8 + k))) 8 = fb_ct (fun i => (n / 65536).testBit i) 8 := fb_ct_cong (fun k hk => by
      rw [show 65536 = 2 ^ 16 from rfl, Nat.testBit_div_two_pow]; congr 1; omega)
    rw [q1, q2, q3]
    omega
  rw [← fin]
  unfold bcN
  generalize bS3 252645135 (bS2 858993459 (bS1 1431655765 n)) = x3 at l3 ⊢
  dsimp only
  rw [pk_ushrN (n := x3) (by omega) 8 8 hs8, nI_add, pk_ushrN (n := x3 + x3 / 2 ^ 8) (by omega) 16 16 hs16, nI_add, show (63 : Int32) = nI (2 ^ 6 - 1) from rfl, fa_mask]
