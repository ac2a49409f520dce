/-! alibis that clash -/
def cla (d : ZD) (i j : Nat) : Bool := decide (wh d i = wh d j) && !decide (pl d i = pl d j) && !decide (tt d j < fm d i) && !decide (tt d i < fm d j)
theorem cla_sym (d : ZD) (i j : Nat) : cla d i j = cla d j i := by
  unfold cla
  rw [Bool.and_assoc, Bool.and_assoc, Bool.and_assoc, Bool.and_assoc, Bool.and_comm (!decide (tt d j < fm d i))]
  congr 1
  · rw [decide_eq_decide]; exact eq_comm
  · congr 2
    rw [decide_eq_decide]; exact eq_comm
theorem x_cla {d : ZD} (hd0 : dOK d) {F : ZF} {A : ZA} {T : Int64} (hx : TX d F A) {i j : Nat} (hi : i < nA d) (hj : j < nA d) : f_X1_doClash (nI i) (nI j) F A T = some (if cla d i j = true then 1 else 0) := by
  have hN := hd0.1.2.2.1
  have hS := hd0.1.1
  obtain ⟨i1, i2, i3, i4⟩ := hx.2.2.2.2 i hi
  obtain ⟨j1, j2, j3, j4⟩ := hx.2.2.2.2 j hj
  obtain ⟨a1, a2, a3, a4⟩ := hd0.2.2.2.2 i hi
  obtain ⟨b1, b2, b3, b4⟩ := hd0.2.2.2.2 j hj
  have gi : gok (nI i) 8 = true := gok_nI (by omega) (by decide)
  have gj : gok (nI j) 8 = true := gok_nI (by omega) (by decide)
  unfold f_X1_doClash cla
  simp only [gi, gj, if_true, nI_clamp (show i < 2 ^ 31 by omega), nI_clamp (show j < 2 ^ 31 by omega), i1, i2, i3, i4, j1, j2, j3, j4]
  by_cases c1 : wh d i = wh d j
  · rw [if_pos (by rw [c1])]
    by_cases c2 : pl d i = pl d j
    · rw [if_pos (by rw [c2])]; simp [c2]
    · rw [if_neg (fun e => c2 ((nI_eq (by omega) (by omega)).mp e))]
      by_cases c3 : tt d j < fm d i
      · rw [if_pos (nI_lt c3 (by omega))]; simp [c3]
      · rw [if_neg (nI_nlt (by omega) (by omega))]
        by_cases c4 : tt d i < fm d j
        · rw [if_pos (nI_lt c4 (by omega))]; simp [c4]
        · rw [if_neg (nI_nlt (by omega) (by omega))]; simp [c1, c2, c3, c4]
  · rw [if_neg (fun e => c1 ((nI_eq (by omega) (by omega)).mp e))]; simp [c1]
theorem m_cla {d : ZD} (hd0 : dOK d) {F : ZF} {A : ZA} {T : Int64} (hm : TM d A) {i j : Nat} (hi : i < nA d) (hj : j < nA d) : f_X11_clashes (nI i) (nI j) F A T = some (if cla d i j = true then 1 else 0) := by
  have hN := hd0.1.2.2.1
  have hS := hd0.1.1
  obtain ⟨i1, i2, i3, i4⟩ := hm.2.2.2.2 i hi
  obtain ⟨j1, j2, j3, j4⟩ := hm.2.2.2.2 j hj
  obtain ⟨a1, a2, a3, a4⟩ := hd0.2.2.2.2 i hi
  obtain ⟨b1, b2, b3, b4⟩ := hd0.2.2.2.2 j hj
  have gi : gok (nI i) 16 = true := gok_nI (by omega) (by decide)
  have gj : gok (nI j) 16 = true := gok_nI (by omega) (by decide)
  unfold f_X11_clashes cla
  simp only [gi, gj, if_true, nI_clamp (show i < 2 ^ 31 by omega), nI_clamp (show j < 2 ^ 31 by omega), i1, i2, i3, i4, j1, j2, j3, j4]
  by_cases c1 : wh d i = wh d j
  · rw [if_pos (by rw [c1])]
    by_cases c2 : pl d i = pl d j
    · rw [if_pos (by rw [c2])]; simp [c2]
    · rw [if_neg (fun e => c2 ((nI_eq (by omega) (by omega)).mp e))]
      by_cases c3 : tt d j < fm d i
      · rw [if_pos (nI_lt c3 (by omega))]; simp [c3]
      · rw [if_neg (nI_nlt (by omega) (by omega))]
        by_cases c4 : tt d i < fm d j
        · rw [if_pos (nI_lt c4 (by omega))]; simp [c4]
        · rw [if_neg (nI_nlt (by omega) (by omega))]; simp [c1, c2, c3, c4]
  · rw [if_neg (fun e => c1 ((nI_eq (by omega) (by omega)).mp e))]; simp [c1]
/-! how many pairs -/
def pr (d : ZD) (i j : Nat) : Nat := if i < j ∧ cla d i j = true then 1 else 0
theorem pr_le (d : ZD) (i j : Nat) : pr d i j ≤ 1 := by unfold pr; split <;> omega
theorem sm_le (f : Nat → Nat) (hf : ∀ k, f k ≤ 1) (n : Nat) : fb_sm f n ≤ n := by
  have := fb_sm_bound (f := f) (c := 1) (n := n) (fun k _ => hf k)
  omega
theorem sm_none {f : Nat → Nat} : ∀ {n : Nat}, (∀ k, k < n → f k = 0) → fb_sm f n = 0
  | 0, _ => rfl
  | n + 1, h => by rw [fb_sm_succ, sm_none (fun k hk => h k (by omega)), h n (by omega)]
theorem sm_swap (f : Nat → Nat → Nat) (n : Nat) : ∀ m, fb_sm (fun i => fb_sm (fun j => f i j) n) m = fb_sm (fun j => fb_sm (fun i => f i j) m) n
  | 0 => (sm_none (fun k _ => rfl)).symm
  | m + 1 => by
    rw [fb_sm_succ, sm_swap f n m, ← fb_sm_add]
    rfl
def prX (d : ZD) (k : Nat) : Nat := fb_sm (fun i => fb_sm (fun j => pr d i j) (nA d)) k
def prM (d : ZD) (k : Nat) : Nat := fb_sm (fun i => fb_sm (fun j => pr d j i) i) k
theorem pr_eq (d : ZD) : prX d (nA d) = prM d (nA d) := by
  unfold prX prM
  rw [sm_swap]
  refine fb_sm_cong (fun i hi => ?_)
  obtain ⟨m, hm⟩ : ∃ m, nA d = i + m := ⟨nA d - i, by omega⟩
  rw [hm, fb_sm_split, sm_none (f := fun k => pr d (i + k) i) (fun k hk => by unfold pr; rw [if_neg (by omega)]), Nat.add_zero]
theorem prX_le {d : ZD} (hd0 : dOK d) {k : Nat} (hk : k ≤ nA d) : prX d k ≤ 64 := by
  have hN := hd0.1.2.2.1
  have := fb_sm_bound (f := fun i => fb_sm (fun j => pr d i j) (nA d)) (c := 8) (n := k) (fun i _ => Nat.le_trans (sm_le _ (pr_le d i) _) hN)
  unfold prX
  omega
theorem m_p32 {d : ZD} (hd0 : dOK d) {F : ZF} {A : ZA} {T : Int64} (hm : TM d A) (K : Int32 → Int32 → Option Int32) {i b : Nat} (hi : i < nA d) : ∀ (m j n : Nat), j + m = i → m < n → f_X11_clash_32 F A T K n (nI (b + fb_sm (fun j => pr d j i) j)) (nI i) (nI j) = K (nI (b + fb_sm (fun j => pr d j i) i)) (nI (i + 1)) := by
  have hN := hd0.1.2.2.1
  have n1 : ¬ (1 : Int32) = 0 := by decide
  intro m
  induction m with
  | zero =>
    intro j n hj hn
    obtain ⟨n, rfl⟩ : ∃ n', n = n' + 1 := ⟨n - 1, by omega⟩
    have e : j = i := by omega
    subst e
    rw [f_X11_clash_32_s, if_pos (nI_le (by omega) (by omega)), nI_1]
  | succ m ih =>
    intro j n hj hn
    obtain ⟨n, rfl⟩ : ∃ n', n = n' + 1 := ⟨n - 1, by omega⟩
    have ii := ih (j + 1) n (by omega) (by omega)
    rw [fb_sm_succ] at ii
    rw [f_X11_clash_32_s, if_neg (nI_ge (by omega) (by omega)), m_cla hd0 hm hi (by omega), Option.bind_some]
    unfold f_X11_clash_54
    rw [nI_1]
    cases c : cla d i j
    · have e : pr d j i = 0 := by unfold pr; rw [cla_sym, c, if_neg (by simp)]
      rw [e, Nat.add_zero] at ii
      rw [if_neg (show ¬ (false = true) by decide), if_pos rfl, show (0 : Int32) = nI 0 from rfl, nI_add]
      exact ii
    · have e : pr d j i = 1 := by unfold pr; rw [cla_sym, c, if_pos ⟨by omega, rfl⟩]
      rw [e] at ii
      rw [if_pos rfl, if_neg n1, nI_1]
      exact ii
theorem m_p19 {d : ZD} (hd0 : dOK d) {F : ZF} {A : ZA} {T : Int64} (hm : TM d A) : ∀ (m i n : Nat), i + m = nA d → m < n → f_X11_clash_19 F A T n (nI (prM d i)) (nI i) = some (nI (prM d (nA d))) := by
  have hN := hd0.1.2.2.1
  intro m
  induction m with
  | zero =>
    intro i n hi hn
    obtain ⟨n, rfl⟩ : ∃ n', n = n' + 1 := ⟨n - 1, by omega⟩
    rw [f_X11_clash_19_s, cl0, hm.1.2.2.1, if_pos (nI_le (by omega) (by omega)), show i = nA d by omega]
  | succ m ih =>
    intro i n hi hn
    obtain ⟨n, rfl⟩ : ∃ n', n = n' + 1 := ⟨n - 1, by omega⟩
    have p := m_p32 hd0 (F := F) (T := T) hm (f_X11_clash_19 F A T n) (b := prM d i) (show i < nA d by omega) i 0 1000 (by omega) (by omega)
    have p : f_X11_clash_32 F A T (f_X11_clash_19 F A T n) 1000 (nI (prM d i)) (nI i) (0 : Int32) = f_X11_clash_19 F A T n (nI (prM d (i + 1))) (nI (i + 1)) := p
    rw [f_X11_clash_19_s, cl0, hm.1.2.2.1, if_neg (nI_ge (by omega) (by omega)), p]
    exact ih (i + 1) n (by omega) (by omega)
/-! X: pairs and the masks of them -/
def msk (d : ZD) (i : Nat) : Nat → Nat
  | 0 => 0
  | j + 1 => if i < j ∧ cla d i j = true then msk d i j ||| 2 ^ j else msk d i j
theorem msk_bit (d : ZD) (i : Nat) : ∀ (n j : Nat), (msk d i n).testBit j = (decide (j < n) && (decide (i < j) && cla d i j)) := by
  intro n
  induction n with
  | zero => intro j; simp [msk]
  | succ n ih =>
    intro j
    show (if i < n ∧ cla d i n = true then msk d i n ||| 2 ^ n else msk d i n).testBit j = _
    by_cases c : i < n ∧ cla d i n = true
    · rw [if_pos c, fb_bit_set, ih]
      by_cases q : j = n
      · subst q; simp [c.1, c.2]
      · have : decide (j < n + 1) = decide (j < n) := by rw [decide_eq_decide]; omega
        rw [this]; simp [q]
    · rw [if_neg c, ih]
      by_cases q : j = n
      · subst q
        have : (decide (i < j) && cla d i j) = false := by
          cases h : (decide (i < j) && cla d i j)
          · rfl
          · exact absurd (by simpa using h) c
        rw [this]; simp
      · have : decide (j < n + 1) = decide (j < n) := by rw [decide_eq_decide]; omega
        rw [this]
theorem msk_lt (d : ZD) (i n : Nat) (hn : n ≤ 8) : msk d i n < 256 := by
  apply Nat.lt_pow_two_of_testBit (n := 8)
  intro j hj
  rw [msk_bit]; simp; omega
theorem msk_0 (d : ZD) (i : Nat) : ∀ n, n ≤ i + 1 → msk d i n = 0
  | 0, _ => rfl
  | n + 1, h => by
    show (if i < n ∧ cla d i n = true then msk d i n ||| 2 ^ n else msk d i n) = 0
    rw [if_neg (by omega)]; exact msk_0 d i n (by omega)
theorem x_p26 {d : ZD} (hd0 : dOK d) {T : Int64} (K : Int32 → Int32 → ZF → ZA → Int64 → Option (Int32 × ZS)) {i b : Nat} {F : ZF} (hi : i < nA d) : ∀ (m j n : Nat) (A : ZA), j + m = nA d → i < j → m < n → TX d F A → A 7 i = nI (msk d i j) → ∃ A', f_X10_matchClashers_26 K n (nI (b + fb_sm (fun j => pr d i j) j)) (nI i) (nI j) F A T = K (nI (b + fb_sm (fun j => pr d i j) (nA d))) (nI (i + 1)) F A' T ∧ (∀ k, k ≠ 7 → A' k = A k) ∧ A' 7 i = nI (msk d i (nA d)) ∧ ∀ k, k ≠ i → A' 7 k = A 7 k := by
  have hN := hd0.1.2.2.1
  have n1 : ¬ (1 : Int32) = 0 := by decide
  intro m
  induction m with
  | zero =>
    intro j n A hj hij hn hx h7
    obtain ⟨n, rfl⟩ : ∃ n', n = n' + 1 := ⟨n - 1, by omega⟩
    have e : j = nA d := by omega
    subst e
    rw [f_X10_matchClashers_26_s, hx.1.2.2.1, if_pos (nI_le (by omega) (by omega)), nI_1]
    exact ⟨A, rfl, fun k hk => rfl, h7, fun k hk => rfl⟩
  | succ m ih =>
    intro j n A hj hij hn hx h7
    obtain ⟨n, rfl⟩ : ∃ n', n = n' + 1 := ⟨n - 1, by omega⟩
    have g : gok (nI i) 8 = true := gok_nI (by omega) (by decide)
    rw [f_X10_matchClashers_26_s, hx.1.2.2.1, if_neg (nI_ge (by omega) (by omega)), x_cla hd0 hx hi (by omega), Option.bind_some, nI_1]
    have ms : msk d i (j + 1) = if i < j ∧ cla d i j = true then msk d i j ||| 2 ^ j else msk d i j := rfl
    cases c : cla d i j
    · have e : pr d i j = 0 := by unfold pr; rw [c, if_neg (by simp)]
      rw [c, if_neg (by simp)] at ms
      rw [if_neg (show ¬ (false = true) by decide), if_pos rfl]
      have ii := ih (j + 1) n A (by omega) (by omega) (by omega) hx (by rw [ms]; exact h7)
      rw [fb_sm_succ, e, Nat.add_zero] at ii
      exact ii
    · have e : pr d i j = 1 := by unfold pr; rw [c, if_pos ⟨hij, rfl⟩]
      rw [c, if_pos ⟨hij, rfl⟩] at ms
      rw [if_pos rfl, if_neg n1, if_pos g, if_pos g, nI_clamp (by omega), h7, shl1 (by omega), fa_or, nI_1]
      obtain ⟨A', e1, e2, e3, e4⟩ := ih (j + 1) n (zst A 7 i (nI (msk d i j ||| 2 ^ j))) (by omega) (by omega) (by omega) (hx.fr (fun k _ _ => rfl) (fun k _ _ => zst_ne (by omega) _ _)) (by rw [zst_same, upd_same, ms])
      rw [fb_sm_succ, e] at e1
      exact ⟨A', e1, fun k hk => by rw [e2 k hk, zst_ne hk], e3, fun k hk => by rw [e4 k hk, zst_same, upd_ne hk]⟩
theorem x_p4 {d : ZD} (hd0 : dOK d) {T : Int64} {F : ZF} : ∀ (m i n : Nat) (A : ZA), i + m = nA d → m < n → TX d F A → (∀ k, k < i → A 7 k = nI (msk d k (nA d))) → ∃ A', f_X10_matchClashers_4 n (nI (prX d i)) (nI i) F A T = some (nI (prX d (nA d)), F, A', T) ∧ (∀ k, k ≠ 7 → A' k = A k) ∧ ∀ k, k < nA d → A' 7 k = nI (msk d k (nA d)) := by
  have hN := hd0.1.2.2.1
  intro m
  induction m with
  | zero =>
    intro i n A hi hn hx h7
    obtain ⟨n, rfl⟩ : ∃ n', n = n' + 1 := ⟨n - 1, by omega⟩
    have e : i = nA d := by omega
    subst e
    rw [f_X10_matchClashers_4_s, hx.1.2.2.1, if_pos (nI_le (by omega) (by omega))]
    exact ⟨A, rfl, fun k hk => rfl, h7⟩
  | succ m ih =>
    intro i n A hi hn hx h7
    obtain ⟨n, rfl⟩ : ∃ n', n = n' + 1 := ⟨n - 1, by omega⟩
    have g : gok (nI i) 8 = true := gok_nI (by omega) (by decide)
    have z : fb_sm (fun j => pr d i j) (i + 1) = 0 := sm_none (fun k hk => by unfold pr; rw [if_neg (by omega)])
    obtain ⟨A1, e1, e2, e3, e4⟩ := x_p26 hd0 (T := T) (F := F) (f_X10_matchClashers_4 n) (b := prX d i) (show i < nA d by omega) m (i + 1) 1000 (zst A 7 i 0) (by omega) (by omega) (by omega) (hx.fr (fun k _ _ => rfl) (fun k _ _ => zst_ne (by omega) _ _)) (by rw [zst_same, upd_same, msk_0 d i (i + 1) (by omega)]; rfl)
    rw [z, Nat.add_zero] at e1
    rw [f_X10_matchClashers_4_s, hx.1.2.2.1, if_neg (nI_ge (by omega) (by omega)), if_pos g, nI_1, nI_clamp (by omega), e1]
    obtain ⟨A', f1, f2, f3⟩ := ih (i + 1) n A1 (by omega) (by omega) (hx.fr (fun k _ _ => rfl) (fun k _ _ => by rw [e2 k (by omega), zst_ne (by omega)])) (fun k hk => by
      by_cases q : k = i
      · subst q; exact e3
      · rw [e4 k q, zst_same, upd_ne q]; exact h7 k (by omega))
    exact ⟨A', f1, fun k hk => by rw [f2 k hk, e2 k hk, zst_ne hk], f3⟩
/-! sets of alibis taken as false that leave no clash -/
def okR (d : ZD) (set i : Nat) : Prop := set.testBit i = true ∨ ∀ j, i < j → j < nA d → cla d i j = true → set.testBit j = true
theorem bt_nI {m i : Nat} (hi : i < 32) : bt (nI m) i = m.testBit i := by
  unfold bt
  show (BitVec.ofNat 32 m).getLsbD i = m.testBit i
  rw [BitVec.getLsbD_ofNat]
  simp [hi]
theorem and_not {m s : Nat} (hm : m < 256) : nI m &&& (nI s ^^^ (-1 : Int32)) = 0 ↔ ∀ j, m.testBit j = true → s.testBit j = true := by
  constructor
  · intro h j hj
    have j8 : j < 8 := by
      apply Nat.lt_of_not_le
      intro q
      have := Nat.testBit_lt_two_pow (x := m) (i := j) (Nat.lt_of_lt_of_le hm (by rw [show 256 = 2 ^ 8 from rfl]; exact Nat.pow_le_pow_right (by decide) q))
      rw [this] at hj; cases hj
    have e := congrArg (fun x => bt x j) h
    rw [b_and, b_xor, b_m1 j (by omega), b_0, bt_nI (by omega), bt_nI (by omega), hj] at e
    simpa using e
  · intro h
    apply b_ext
    intro i hi
    rw [b_and, b_xor, b_m1 i hi, b_0, bt_nI hi, bt_nI hi]
    cases c : m.testBit i
    · rfl
    · rw [h i c]; rfl
theorem x_lnc {d : ZD} (hd0 : dOK d) {set : Nat} (hset : set < 256) {F : ZF} {A : ZA} {T : Int64} (hx : TX d F A) (h7 : ∀ k, k < nA d → A 7 k = nI (msk d k (nA d))) : ∀ (m k n : Nat), k + m = nA d → m < n → ((∀ i, k ≤ i → i < nA d → okR d set i) → f_X10_leavesNoClash_2 F A T n (nI set) (nI k) = some 1) ∧ ((∃ i, k ≤ i ∧ i < nA d ∧ ¬ okR d set i) → f_X10_leavesNoClash_2 F A T n (nI set) (nI k) = some 0) := by
  have hN := hd0.1.2.2.1
  have n1 : ¬ (1 : Int32) = 0 := by decide
  intro m
  induction m with
  | zero =>
    intro k n hk hn
    obtain ⟨n, rfl⟩ : ∃ n', n = n' + 1 := ⟨n - 1, by omega⟩
    rw [f_X10_leavesNoClash_2_s, hx.1.2.2.1, if_pos (nI_le (by omega) (by omega))]
    exact ⟨fun _ => rfl, fun ⟨i, h1, h2, _⟩ => absurd h2 (by omega)⟩
  | succ m ih =>
    intro k n hk hn
    obtain ⟨n, rfl⟩ : ∃ n', n = n' + 1 := ⟨n - 1, by omega⟩
    have g : gok (nI k) 8 = true := gok_nI (by omega) (by decide)
    obtain ⟨ih1, ih2⟩ := ih (k + 1) n (by omega) (by omega)
    rw [f_X10_leavesNoClash_2_s, hx.1.2.2.1, if_neg (nI_ge (by omega) (by omega)), bitX (by omega) (by omega), if_pos g, nI_clamp (by omega), h7 k (by omega), nI_1]
    have keep : okR d set k → f_X10_leavesNoClash_2 F A T n (nI set) (nI (k + 1)) = f_X10_leavesNoClash_2 F A T n (nI set) (nI (k + 1)) → ((∀ i, k ≤ i → i < nA d → okR d set i) → f_X10_leavesNoClash_2 F A T n (nI set) (nI (k + 1)) = some 1) ∧ ((∃ i, k ≤ i ∧ i < nA d ∧ ¬ okR d set i) → f_X10_leavesNoClash_2 F A T n (nI set) (nI (k + 1)) = some 0) := by
      intro ok _
      refine ⟨fun h => ih1 (fun i h1 h2 => h i (by omega) h2), ?_⟩
      rintro ⟨i, h1, h2, h3⟩
      refine ih2 ⟨i, ?_, h2, h3⟩
      by_cases q : i = k
      · subst q; exact absurd ok h3
      · omega
    cases c : set.testBit k
    · rw [if_neg (show ¬ (false = true) by decide), if_pos rfl]
      have iff : nI (msk d k (nA d)) &&& (nI set ^^^ (-1 : Int32)) = 0 ↔ okR d set k := by
        rw [and_not (msk_lt d k _ hN)]
        constructor
        · intro h
          right
          intro j h1 h2 h3
          apply h
          rw [msk_bit]; simp [h1, h2, h3]
        · intro h j hj
          rw [msk_bit] at hj
          simp at hj
          rcases h with h | h
          · rw [c] at h; cases h
          · exact h j hj.2.1 hj.1 hj.2.2
      by_cases q : okR d set k
      · rw [if_pos (iff.mpr q)]; exact keep q rfl
      · rw [if_neg (fun e => q (iff.mp e))]
        exact ⟨fun h => absurd (h k (by omega) (by omega)) q, fun _ => rfl⟩
    · rw [if_pos rfl, if_neg n1]
      exact keep (Or.inl c) rfl
def rwF (d : ZD) (set i : Nat) : Nat → Nat → Bool
  | 0, _ => false
  | m + 1, j => (!set.testBit i && !set.testBit j && cla d i j) || rwF d set i m (j + 1)
def alF (d : ZD) (set : Nat) : Nat → Nat → Bool
  | 0, _ => false
  | m + 1, i => rwF d set i i 0 || alF d set m (i + 1)
theorem rwF_iff (d : ZD) (set i : Nat) : ∀ m j, rwF d set i m j = true ↔ ∃ k, j ≤ k ∧ k < j + m ∧ set.testBit i = false ∧ set.testBit k = false ∧ cla d i k = true
  | 0, j => by
    constructor
    · intro h; cases h
    · rintro ⟨k, h1, h2, _⟩; omega
  | m + 1, j => by
    show ((!set.testBit i && !set.testBit j && cla d i j) || rwF d set i m (j + 1)) = true ↔ _
    rw [Bool.or_eq_true, rwF_iff d set i m (j + 1)]
    constructor
    · rintro (h | ⟨k, h1, h2, h3⟩)
      · simp at h
        exact ⟨j, by omega, by omega, h.1.1, h.1.2, h.2⟩
      · exact ⟨k, by omega, by omega, h3⟩
    · rintro ⟨k, h1, h2, h3, h4, h5⟩
      by_cases q : k = j
      · subst q; left; simp [h3, h4, h5]
      · right; exact ⟨k, by omega, by omega, h3, h4, h5⟩
theorem alF_iff (d : ZD) (set : Nat) : ∀ m i, alF d set m i = true ↔ ∃ k j, i ≤ k ∧ k < i + m ∧ j < k ∧ set.testBit k = false ∧ set.testBit j = false ∧ cla d k j = true
  | 0, i => by
    constructor
    · intro h; cases h
    · rintro ⟨k, j, h1, h2, _⟩; omega
  | m + 1, i => by
    show (rwF d set i i 0 || alF d set m (i + 1)) = true ↔ _
    rw [Bool.or_eq_true, alF_iff d set m (i + 1), rwF_iff]
    constructor
    · rintro (⟨j, h1, h2, h3⟩ | ⟨k, j, h1, h2, h3⟩)
      · exact ⟨i, j, by omega, by omega, by omega, h3⟩
      · exact ⟨k, j, by omega, by omega, h3⟩
    · rintro ⟨k, j, h1, h2, h3, h4⟩
      by_cases q : k = i
      · subst q; left; exact ⟨j, by omega, by omega, h4⟩
      · right; exact ⟨k, j, by omega, by omega, h3, h4⟩
theorem m_h17 {d : ZD} (hd0 : dOK d) {set : Nat} (hset : set < 256) {F : ZF} {A : ZA} {T : Int64} (hm : TM d A) (K : Int32 → Int32 → Int32 → Option Int32) {i : Nat} (hi : i < nA d) : ∀ (m j n : Nat) (b : Bool), j + m = i → m < n → f_X11_hasClash_17 F A T K n (nI set) (if b = true then 1 else 0) (nI i) (nI j) = K (nI set) (if (b || rwF d set i m j) = true then 1 else 0) (nI (i + 1)) := by
  have hN := hd0.1.2.2.1
  have n1 : ¬ (1 : Int32) = 0 := by decide
  have f1 : ¬ (false = true) := by decide
  intro m
  induction m with
  | zero =>
    intro j n b hj hn
    obtain ⟨n, rfl⟩ : ∃ n', n = n' + 1 := ⟨n - 1, by omega⟩
    rw [f_X11_hasClash_17_s, if_pos (nI_le (by omega) (by omega)), nI_1]
    show _ = K (nI set) (if (b || false) = true then 1 else 0) (nI (i + 1))
    rw [Bool.or_false]
  | succ m ih =>
    intro j n b hj hn
    obtain ⟨n, rfl⟩ : ∃ n', n = n' + 1 := ⟨n - 1, by omega⟩
    have i0 := ih (j + 1) n false (by omega) (by omega)
    have i1 := ih (j + 1) n true (by omega) (by omega)
    rw [if_neg f1, Bool.false_or] at i0
    rw [if_pos rfl, Bool.true_or] at i1
    rw [f_X11_hasClash_17_s, if_neg (nI_ge (by omega) (by omega)), bit_nI (by omega) (by omega), bit_nI (by omega) (by omega), m_cla hd0 hm hi (by omega), Option.bind_some, nI_1]
    show _ = K (nI set) (if (b || ((!set.testBit i && !set.testBit j && cla d i j) || rwF d set i m (j + 1))) = true then 1 else 0) (nI (i + 1))
    cases b
    · rw [if_neg f1, if_pos rfl, Bool.false_or]
      cases c1 : set.testBit i
      · rw [if_neg f1, if_pos rfl]
        cases c2 : set.testBit j
        · rw [if_neg f1, if_pos rfl]
          cases c3 : cla d i j
          · rw [if_neg f1, if_pos rfl, i0]; rfl
          · rw [if_pos rfl, if_neg n1, i1]; rfl
        · rw [if_pos rfl, if_neg n1, i0]; rfl
      · rw [if_pos rfl, if_neg n1, i0]; rfl
    · rw [if_pos rfl, if_neg n1, i1]; rfl
theorem m_h4 {d : ZD} (hd0 : dOK d) {set : Nat} (hset : set < 256) {F : ZF} {A : ZA} {T : Int64} (hm : TM d A) : ∀ (m i n : Nat) (b : Bool), i + m = nA d → m < n → f_X11_hasClash_4 F A T n (nI set) (if b = true then 1 else 0) (nI i) = some (if (b || alF d set m i) = true then 1 else 0) := by
  have hN := hd0.1.2.2.1
  intro m
  induction m with
  | zero =>
    intro i n b hi hn
    obtain ⟨n, rfl⟩ : ∃ n', n = n' + 1 := ⟨n - 1, by omega⟩
    rw [f_X11_hasClash_4_s, cl0, hm.1.2.2.1, if_pos (nI_le (by omega) (by omega))]
    show _ = some (if (b || false) = true then 1 else 0)
    rw [Bool.or_false]
    cases b <;> rfl
  | succ m ih =>
    intro i n b hi hn
    obtain ⟨n, rfl⟩ : ∃ n', n = n' + 1 := ⟨n - 1, by omega⟩
    have p := m_h17 hd0 hset (F := F) (T := T) hm (f_X11_hasClash_4 F A T n) (show i < nA d by omega) i 0 1000 b (by omega) (by omega)
    have p : f_X11_hasClash_17 F A T (f_X11_hasClash_4 F A T n) 1000 (nI set) (if b = true then 1 else 0) (nI i) (0 : Int32) = _ := p
    rw [f_X11_hasClash_4_s, cl0, hm.1.2.2.1, if_neg (nI_ge (by omega) (by omega)), p, ih (i + 1) n _ (by omega) (by omega), Bool.or_assoc]
    rfl
theorem m_hc {d : ZD} (hd0 : dOK d) {set : Nat} (hset : set < 256) {F : ZF} {A : ZA} {T : Int64} (hm : TM d A) : f_X11_hasClash (nI set) F A T = some (if alF d set (nA d) 0 = true then 1 else 0) := by
  have hN := hd0.1.2.2.1
  have := m_h4 hd0 hset (F := F) (T := T) hm (nA d) 0 1000 false (by omega) (by omega)
  rw [Bool.false_or] at this
  exact this
theorem x_nc {d : ZD} (hd0 : dOK d) {set : Nat} (hset : set < 256) {F : ZF} {A : ZA} {T : Int64} (hx : TX d F A) (h7 : ∀ k, k < nA d → A 7 k = nI (msk d k (nA d))) : f_X10_leavesNoClash (nI set) F A T = some (if alF d set (nA d) 0 = true then 0 else 1) := by
  have hN := hd0.1.2.2.1
  obtain ⟨h1, h2⟩ := x_lnc hd0 hset (T := T) hx h7 (nA d) 0 1000 (by omega) (by omega)
  unfold f_X10_leavesNoClash
  have iff := alF_iff d set (nA d) 0
  cases c : alF d set (nA d) 0
  · rw [c] at iff
    rw [if_neg (by decide)]
    refine h1 (fun i _ hi => ?_)
    cases ci : set.testBit i
    · right
      intro j h3 h4 h5
      cases cj : set.testBit j
      · have := iff.mpr ⟨j, i, by omega, by omega, h3, cj, ci, by rw [cla_sym]; exact h5⟩
        cases this
      · rfl
    · left; exact ci
  · obtain ⟨k, j, q1, q2, q3, q4, q5, q6⟩ := iff.mp c
    rw [if_pos rfl]
    refine h2 ⟨j, by omega, by omega, ?_⟩
    rintro (h | h)
    · rw [q5] at h; cases h
    · have := h k q3 (by omega) (by rw [cla_sym]; exact q6)
      rw [q4] at this; cases this
/-! the fewest -/
theorem pop_n {n k : Nat} (hn : n ≤ 8) (hk : k < 2 ^ n) : pop k = fb_ct (fun i => k.testBit i) n := by
  unfold pop
  obtain ⟨m, hm⟩ : ∃ m, 8 = n + m := ⟨8 - n, by omega⟩
  rw [hm, fb_ct_split]
  have : fb_ct (fun i => k.testBit (n + i)) m = 0 := fb_ct_zero.mpr (fun i _ => Nat.testBit_lt_two_pow (Nat.lt_of_lt_of_le hk (Nat.pow_le_pow_right (by decide) (by omega))))
  omega
theorem pop_full {n : Nat} (hn : n ≤ 8) : pop (2 ^ n - 1) = n := by
  have hp : 0 < 2 ^ n := Nat.two_pow_pos n
  rw [pop_n hn (by omega), fb_ct_all]
  intro k hk
  rw [Nat.testBit_two_pow_sub_one]; simp [hk]
theorem pop_less {n k : Nat} (hn : n ≤ 8) (hk : k < 2 ^ n - 1) : pop k < n := by
  have hp : 0 < 2 ^ n := Nat.two_pow_pos n
  rw [pop_n hn (by omega)]
  have le := fb_ct_le (fun i => k.testBit i) n
  by_cases q : fb_ct (fun i => k.testBit i) n = n
  · exfalso
    have all := fb_ct_all.mp q
    have : k = 2 ^ n - 1 := by
      apply Nat.eq_of_testBit_eq
      intro i
      rw [Nat.testBit_two_pow_sub_one]
      by_cases c : i < n
      · rw [all i c]; simp [c]
      · rw [Nat.testBit_lt_two_pow (Nat.lt_of_lt_of_le (show k < 2 ^ n by omega) (Nat.pow_le_pow_right (by decide) (by omega)))]; simp [c]
    omega
  · omega
def fw (d : ZD) (k : Nat) (b : Option Nat) : Option Nat := match b with
  | none => if alF d k (nA d) 0 = true then none else some k
  | some b => if pop b ≤ pop k then some b else if alF d k (nA d) 0 = true then some b else some k
def fwl (d : ZD) : Nat → Nat → Option Nat → Option Nat
  | 0, _, b => b
  | m + 1, k, b => fwl d m (k + 1) (fw d k b)
def en2 (n : Nat) : Option Nat → Int32
  | none => nI (2 ^ n - 1)
  | some b => nI b
theorem fw_lt {d : ZD} {k : Nat} {b : Option Nat} (h : ∀ c, b = some c → c < k) : ∀ c, fw d k b = some c → c < k + 1 := by
  intro c e
  unfold fw at e
  cases b with
  | none =>
    dsimp only at e
    split at e
    · cases e
    · cases e; omega
  | some b =>
    have := h b rfl
    dsimp only at e
    split at e
    · cases e; omega
    · split at e
      · cases e; omega
      · cases e; omega
theorem m_fw {d : ZD} (hd0 : dOK d) {F : ZF} {A : ZA} {T : Int64} (hm : TM d A) : ∀ (m k n : Nat) (b : Option Nat), k + m = 2 ^ nA d → m < n → (∀ c, b = some c → c < k) → f_X11_clash_75 F A T n (enc b) (nI k) = some (enc (fwl d m k b)) := by
  have hN := hd0.1.2.2.1
  have h256 : 2 ^ nA d ≤ 256 := Nat.pow_le_pow_right (by decide) hN
  have n1 : ¬ (1 : Int32) = 0 := by decide
  have f1 : ¬ (false = true) := by decide
  intro m
  induction m with
  | zero =>
    intro k n b hk hn hb
    obtain ⟨n, rfl⟩ : ∃ n', n = n' + 1 := ⟨n - 1, by omega⟩
    rw [f_X11_clash_75_s, cl0, hm.1.2.2.1, shl1 (by omega), if_pos (nI_le (by omega) (by omega))]
    rfl
  | succ m ih =>
    intro k n b hk hn hb
    obtain ⟨n, rfl⟩ : ∃ n', n = n' + 1 := ⟨n - 1, by omega⟩
    have i := ih (k + 1) n (fw d k b) (by omega) (by omega) (fw_lt hb)
    rw [f_X11_clash_75_s, cl0, hm.1.2.2.1, shl1 (by omega), if_neg (nI_ge (by omega) (by omega))]
    unfold f_X11_clash_104
    rw [m_hc hd0 (by omega) hm, Option.bind_some, nI_1]
    show _ = some (enc (fwl d m (k + 1) (fw d k b)))
    rw [← i]
    cases b with
    | none =>
      rw [if_pos (show enc none = -9 from rfl)]
      show _ = f_X11_clash_75 F A T n (enc (if alF d k (nA d) 0 = true then none else some k)) (nI (k + 1))
      cases c : alF d k (nA d) 0
      · rw [if_neg f1, if_pos rfl, if_neg f1]; rfl
      · rw [if_pos rfl, if_neg n1, if_pos rfl]
    | some b =>
      have hb1 := hb b rfl
      rw [if_neg (show ¬ enc (some b) = -9 from nI_n9 (by omega)), m_many (by omega), Option.bind_some, show f_X11_manyOf (enc (some b)) = some (nI (pop b)) from m_many (by omega), Option.bind_some]
      have p1 := pop_le b
      have p2 := pop_le k
      show _ = f_X11_clash_75 F A T n (enc (if pop b ≤ pop k then some b else if alF d k (nA d) 0 = true then some b else some k)) (nI (k + 1))
      by_cases q : pop b ≤ pop k
      · rw [if_pos (nI_le q (by omega)), if_pos q]
      · rw [if_neg (nI_ge (by omega) (by omega)), if_neg q]
        cases c : alF d k (nA d) 0
        · rw [if_neg f1, if_pos rfl, if_neg f1]; rfl
        · rw [if_pos rfl, if_neg n1, if_pos rfl]
theorem al_full (d : ZD) : alF d (2 ^ nA d - 1) (nA d) 0 = false := by
  cases c : alF d (2 ^ nA d - 1) (nA d) 0
  · rfl
  · obtain ⟨k, j, q1, q2, q3, q4, q5, q6⟩ := (alF_iff _ _ _ _).mp c
    rw [Nat.testBit_two_pow_sub_one] at q4
    simp at q4
    omega
theorem x_fw {d : ZD} (hd0 : dOK d) {F : ZF} {A : ZA} {T : Int64} (hx : TX d F A) (h7 : ∀ k, k < nA d → A 7 k = nI (msk d k (nA d))) : ∀ (m k n : Nat) (b : Option Nat), k + m = 2 ^ nA d → m < n → 0 < m → (∀ c, b = some c → c < k) → f_X10_fewestFalse_14 F A T n (en2 (nA d) b) (nI k) = some (enc (fwl d m k b)) := by
  have hN := hd0.1.2.2.1
  have h256 : 2 ^ nA d ≤ 256 := Nat.pow_le_pow_right (by decide) hN
  have hp : 0 < 2 ^ nA d := Nat.two_pow_pos _
  have n1 : ¬ (1 : Int32) = 0 := by decide
  have f1 : ¬ (false = true) := by decide
  intro m
  induction m with
  | zero => intro k n b hk hn h0 hb; omega
  | succ m ih =>
    intro k n b hk hn h0 hb
    obtain ⟨n, rfl⟩ : ∃ n', n = n' + 1 := ⟨n - 1, by omega⟩
    rw [f_X10_fewestFalse_14_s, hx.1.2.2.1, shl1 (by omega), if_neg (nI_ge (by omega) (by omega)), x_nc hd0 (by omega) hx h7, Option.bind_some, nI_1, bc_pop (by omega)]
    show _ = some (enc (fwl d m (k + 1) (fw d k b)))
    have pk := pop_le k
    -- what comes after
    have aft : ∀ c : Option Nat, fw d k b = c → (∀ e, m = 0 → e = en2 (nA d) c → e = enc c) → f_X10_fewestFalse_14 F A T n (en2 (nA d) c) (nI (k + 1)) = some (enc (fwl d m (k + 1) (fw d k b))) := by
      intro c hc hz
      rw [hc]
      by_cases z : m = 0
      · subst z
        obtain ⟨n, rfl⟩ : ∃ n', n = n' + 1 := ⟨n - 1, by omega⟩
        rw [f_X10_fewestFalse_14_s, hx.1.2.2.1, shl1 (by omega), if_pos (nI_le (by omega) (by omega)), hz _ rfl rfl]
        rfl
      · exact ih (k + 1) n c (by omega) (by omega) (by omega) (by rw [← hc]; exact fw_lt hb)
    cases b with
    | none =>
      rw [show en2 (nA d) none = nI (2 ^ nA d - 1) from rfl, bc_pop (by omega), pop_full hN]
      by_cases z : m = 0
      · have ek : k = 2 ^ nA d - 1 := by omega
        have e1 : fw d k none = some k := by
          show (if alF d k (nA d) 0 = true then none else some k) = some k
          rw [ek, al_full, if_neg f1]
        rw [if_pos (show nI (nA d) ≤ nI (pop k) by rw [ek, pop_full hN]; exact nI_le (Nat.le_refl _) (by omega))]
        have := aft (some k) e1 (fun e _ h => h)
        rw [show en2 (nA d) (some k) = nI (2 ^ nA d - 1) by rw [ek]; rfl] at this
        exact this
      · have lt := pop_less hN (show k < 2 ^ nA d - 1 by omega)
        rw [if_neg (nI_ge (by omega) (by omega))]
        cases c : alF d k (nA d) 0
        · rw [if_neg f1, if_neg n1]
          exact aft (some k) (by show (if alF d k (nA d) 0 = true then none else some k) = some k; rw [c, if_neg f1]) (fun e _ h => h)
        · rw [if_pos rfl, if_pos rfl]
          exact aft none (by show (if alF d k (nA d) 0 = true then none else some k) = none; rw [c, if_pos rfl]) (fun e h _ => absurd h z)
    | some b =>
      have hb1 := hb b rfl
      have pb := pop_le b
      have e0 : fw d k (some b) = if pop b ≤ pop k then some b else if alF d k (nA d) 0 = true then some b else some k := rfl
      rw [show en2 (nA d) (some b) = nI b from rfl, bc_pop (by omega)]
      by_cases q : pop b ≤ pop k
      · rw [if_pos (nI_le q (by omega))]
        exact aft (some b) (by rw [e0, if_pos q]) (fun e _ h => h)
      · rw [if_neg (nI_ge (by omega) (by omega))]
        cases c : alF d k (nA d) 0
        · rw [if_neg f1, if_neg n1]
          exact aft (some k) (by rw [e0, if_neg q, c, if_neg f1]) (fun e _ h => h)
        · rw [if_pos rfl, if_pos rfl]
          exact aft (some b) (by rw [e0, if_neg q, c, if_pos rfl]) (fun e _ h => h)
theorem p_clash : st_clash Rel := by
  rintro a0 U V ⟨a, hok, hx, hm⟩
  have hN := hok.1.1.2.2.1
  have h256 : 2 ^ nA a.1 ≤ 256 := Nat.pow_le_pow_right (by decide) hN
  have hp : 0 < 2 ^ nA a.1 := Nat.two_pow_pos _
  unfold f_X10_clash f_X11_clash
  rw [in_wi]
  by_cases e : f_X10_within a0 (0 : Int32) (1 : Int32) = 0
  · rw [if_pos e, if_pos e]
    exact ⟨_, (_, V), rfl, ⟨rfl, rfl⟩, rfl, a, hok, hx, hm⟩
  · rw [if_neg e, if_neg e]
    obtain ⟨A1, x1, x2, x3⟩ := x_p4 hok.1 (T := U.2.2) (F := U.1) (nA a.1) 0 1000 U.2.1 (by omega) (by omega) hx.1 (fun k hk => absurd hk (Nat.not_lt_zero k))
    have x1 : f_X10_matchClashers U.1 U.2.1 U.2.2 = _ := x1
    have m1 := m_p19 hok.1 (F := V.1) (T := V.2.2) hm.1 (nA a.1) 0 1000 (by omega) (by omega)
    have m1 : f_X11_clash_19 V.1 V.2.1 V.2.2 1000 (0 : Int32) (0 : Int32) = _ := m1
    have m2 := m_fw hok.1 (F := V.1) (T := V.2.2) hm.1 (2 ^ nA a.1) 0 1000 none (by omega) (by omega) (fun c hc => by cases hc)
    have m2 : f_X11_clash_75 V.1 V.2.1 V.2.2 1000 (-9 : Int32) (0 : Int32) = _ := m2
    have tx : TX a.1 U.1 A1 := hx.1.fr (fun k _ _ => rfl) (fun k _ _ => x2 k (by omega))
    have k2 := x_fw hok.1 (T := U.2.2) tx x3 (2 ^ nA a.1) 0 1000 none (by omega) (by omega) hp (fun c hc => by cases hc)
    have k2 : f_X10_fewestFalse U.1 A1 U.2.2 = some (enc (fwl a.1 (2 ^ nA a.1) 0 none)) := by
      unfold f_X10_fewestFalse
      rw [hx.1.1.2.2.1, shl1 (by omega), show (1 : Int32) = nI 1 from rfl, pk_sub (by omega)]
      exact k2
    have ix : IX a (U.1, A1, U.2.2) := hx.sc (fun k hk => rfl) (fun k hk => x2 k (by omega))
    rw [x1, m1, m2, Option.bind_some, pr_eq]
    by_cases z : a0 = 0
    · rw [if_pos z, if_pos z]
      exact ⟨_, (_, V), rfl, ⟨rfl, rfl⟩, rfl, a, hok, ix, hm⟩
    · rw [if_neg z, if_neg z]
      dsimp only
      rw [k2, Option.bind_some]
      exact ⟨_, (_, V), rfl, ⟨rfl, rfl⟩, rfl, a, hok, ix, hm⟩
