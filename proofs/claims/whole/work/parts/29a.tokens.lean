/-! the tokens of a text -/
def rl (P : Nat → Bool) : List Nat → Nat
  | [] => 0
  | c :: t => if P c = true then rl P t + 1 else 0
theorem rl_nil (P : Nat → Bool) : rl P [] = 0 := rfl
theorem rl_y {P : Nat → Bool} {c : Nat} (t : List Nat) (h : P c = true) : rl P (c :: t) = rl P t + 1 := if_pos h
theorem rl_n {P : Nat → Bool} {c : Nat} (t : List Nat) (h : P c = false) : rl P (c :: t) = 0 := if_neg (by rw [h]; decide)
theorem rl_le (P : Nat → Bool) : ∀ l, rl P l ≤ l.length
  | [] => Nat.le_refl 0
  | c :: t => by
    have := rl_le P t
    cases h : P c
    · rw [rl_n t h]; exact Nat.zero_le _
    · rw [rl_y t h]; simp; omega
def isL (c : Nat) : Bool := decide (97 ≤ c) && decide (c ≤ 122)
def isD (c : Nat) : Bool := decide (48 ≤ c) && decide (c ≤ 57)
def isS (c : Nat) : Bool := decide (c = 32)
def vM : Nat → List Nat → Nat
  | v, [] => v
  | v, c :: t => if isD c = true then vM (if v ≤ 99 then 10 * v + c - 48 else v) t else v
def vX : Nat → List Nat → Nat
  | v, [] => v
  | v, c :: t => if isD c = true then vX (if 1000 < v * 10 + c - 48 then 1000 else v * 10 + c - 48) t else v
theorem vM_y {c : Nat} (v : Nat) (t : List Nat) (h : isD c = true) : vM v (c :: t) = vM (if v ≤ 99 then 10 * v + c - 48 else v) t := if_pos h
theorem vM_n {c : Nat} (v : Nat) (t : List Nat) (h : isD c = false) : vM v (c :: t) = v := if_neg (by rw [h]; decide)
theorem vX_y {c : Nat} (v : Nat) (t : List Nat) (h : isD c = true) : vX v (c :: t) = vX (if 1000 < v * 10 + c - 48 then 1000 else v * 10 + c - 48) t := if_pos h
theorem vX_n {c : Nat} (v : Nat) (t : List Nat) (h : isD c = false) : vX v (c :: t) = v := if_neg (by rw [h]; decide)
theorem vM_big : ∀ (t : List Nat) {v : Nat}, 99 < v → vM v t = v
  | [], v, h => rfl
  | c :: t, v, h => by
    cases q : isD c
    · exact vM_n v t q
    · rw [vM_y v t q, if_neg (by omega)]; exact vM_big t h
theorem isD_iff {c : Nat} : isD c = true ↔ 48 ≤ c ∧ c ≤ 57 := by unfold isD; simp
theorem isL_iff {c : Nat} : isL c = true ↔ 97 ≤ c ∧ c ≤ 122 := by unfold isL; simp
def nok (n c : Nat) : Prop := n = 1 ∨ (n = 2 ∧ c ≠ 48)
theorem num_ok {c : Nat} (t : List Nat) (h : isD c = true) : ((¬ 99 < vM 0 (c :: t) ∧ ¬ (c = 48 ∧ 1 < rl isD (c :: t))) ↔ nok (rl isD (c :: t)) c) ∧ (nok (rl isD (c :: t)) c → vX 0 (c :: t) = vM 0 (c :: t) ∧ vM 0 (c :: t) ≤ 99) := by
  have h1 := isD_iff.mp h
  unfold nok
  rw [rl_y t h, vM_y 0 t h, vX_y 0 t h, if_pos (by omega), if_neg (by omega)]
  cases t with
  | nil =>
    rw [rl_nil]
    show (¬ 99 < 10 * 0 + c - 48 ∧ _ ↔ _) ∧ (_ → 0 * 10 + c - 48 = 10 * 0 + c - 48 ∧ 10 * 0 + c - 48 ≤ 99)
    refine ⟨⟨fun _ => Or.inl rfl, fun _ => ⟨by omega, by omega⟩⟩, fun _ => ⟨by omega, by omega⟩⟩
  | cons c2 t =>
    cases h2 : isD c2
    · rw [rl_n t h2, vM_n _ t h2, vX_n _ t h2]
      refine ⟨⟨fun _ => Or.inl rfl, fun _ => ⟨by omega, by omega⟩⟩, fun _ => ⟨by omega, by omega⟩⟩
    · have h3 := isD_iff.mp h2
      rw [rl_y t h2, vM_y _ t h2, vX_y _ t h2, if_pos (by omega), if_neg (by omega)]
      cases t with
      | nil =>
        rw [rl_nil]
        show (¬ 99 < 10 * (10 * 0 + c - 48) + c2 - 48 ∧ _ ↔ _) ∧ (_ → (0 * 10 + c - 48) * 10 + c2 - 48 = 10 * (10 * 0 + c - 48) + c2 - 48 ∧ 10 * (10 * 0 + c - 48) + c2 - 48 ≤ 99)
        refine ⟨⟨fun q => Or.inr ⟨rfl, fun e => q.2 ⟨e, by omega⟩⟩, fun q => ⟨by omega, by omega⟩⟩, fun _ => ⟨by omega, by omega⟩⟩
      | cons c3 t =>
        cases h4 : isD c3
        · rw [rl_n t h4, vM_n _ t h4, vX_n _ t h4]
          refine ⟨⟨fun q => Or.inr ⟨rfl, fun e => q.2 ⟨e, by omega⟩⟩, fun q => ⟨by omega, by omega⟩⟩, fun _ => ⟨by omega, by omega⟩⟩
        · have h5 := isD_iff.mp h4
          rw [rl_y t h4, vM_y _ t h4, if_pos (by omega)]
          refine ⟨⟨fun q => ?_, fun q => by omega⟩, fun q => by omega⟩
          exfalso
          by_cases z : c = 48
          · exact q.2 ⟨z, by omega⟩
          · rw [vM_big t (by omega)] at q
            omega
def sk (tx : List Nat) (p : Nat) : Nat := p + rl isS (tx.drop p)
/-- a token that begins at q: (its sort, its value), its beginning, what follows it. Sorts: 0 the end, 1 letters, 2 a number, 3 a stop, 4 wrong -/
def tq (tx : List Nat) (q : Nat) : (Nat × Nat) × Nat × Nat := match tx[q]? with
  | none => ((0, 0), q, q)
  | some c => if c = 59 then ((3, 0), q, q + 1) else if isL c = true then ((1, if rl isL (tx.drop q) = 1 then c else 0), q, q + rl isL (tx.drop q)) else if isD c = true then (if rl isD (tx.drop q) = 1 ∨ (rl isD (tx.drop q) = 2 ∧ c ≠ 48) then ((2, vM 0 (tx.drop q)), q, q + rl isD (tx.drop q)) else ((4, 0), q, q)) else ((4, 0), q, q)
def tk (tx : List Nat) (p : Nat) : (Nat × Nat) × Nat × Nat := tq tx (sk tx p)
theorem sk_le {tx : List Nat} {p : Nat} (h : p ≤ tx.length) : p ≤ sk tx p ∧ sk tx p ≤ tx.length := by
  unfold sk
  have := rl_le isS (tx.drop p)
  rw [List.length_drop] at this
  omega
theorem drop_nil {α : Type} {l : List α} {i : Nat} (h : l[i]? = none) : l.drop i = [] := List.drop_eq_nil_of_le (List.getElem?_eq_none_iff.mp h)
theorem tq_next {tx : List Nat} {q : Nat} (hq : q ≤ tx.length) : (tq tx q).2.1 = q ∧ q ≤ (tq tx q).2.2 ∧ (tq tx q).2.2 ≤ tx.length ∧ ((tq tx q).1.1 = 1 ∨ (tq tx q).1.1 = 2 ∨ (tq tx q).1.1 = 3 → q < (tq tx q).2.2) ∧ (tq tx q).1.1 ≤ 4 ∧ ((tq tx q).1.1 = 2 → (tq tx q).1.2 ≤ 99) := by
  unfold tq
  cases h : tx[q]? with
  | none => refine ⟨rfl, Nat.le_refl _, hq, ?_, by dsimp only; decide, ?_⟩ <;> simp
  | some c =>
    have hl := l_lt h
    have e := drop_at h
    dsimp only
    by_cases c1 : c = 59
    · rw [if_pos c1]; refine ⟨rfl, Nat.le_succ _, hl, fun _ => Nat.lt_succ_self _, by dsimp only; decide, by simp⟩
    · rw [if_neg c1]
      by_cases c2 : isL c = true
      · rw [if_pos c2]
        have := rl_le isL (tx.drop q)
        rw [List.length_drop] at this
        have e2 : rl isL (tx.drop q) = rl isL (tx.drop (q + 1)) + 1 := by rw [e, rl_y _ c2]
        refine ⟨rfl, by dsimp only; omega, by dsimp only; omega, fun _ => by dsimp only; omega, by dsimp only; decide, by simp⟩
      · rw [if_neg c2]
        by_cases c3 : isD c = true
        · rw [if_pos c3]
          have := rl_le isD (tx.drop q)
          rw [List.length_drop] at this
          by_cases c4 : rl isD (tx.drop q) = 1 ∨ (rl isD (tx.drop q) = 2 ∧ c ≠ 48)
          · rw [if_pos c4]
            refine ⟨rfl, by dsimp only; omega, by dsimp only; omega, fun _ => by dsimp only; omega, by dsimp only; decide, fun _ => ?_⟩
            rw [e] at c4 ⊢
            exact ((num_ok (tx.drop (q + 1)) c3).2 c4).2
          · rw [if_neg c4]; refine ⟨rfl, Nat.le_refl _, hq, ?_, by dsimp only; decide, ?_⟩ <;> simp
        · rw [if_neg c3]; refine ⟨rfl, Nat.le_refl _, hq, ?_, by dsimp only; decide, ?_⟩ <;> simp
theorem tk_next {tx : List Nat} {p : Nat} (hp : p ≤ tx.length) : (tk tx p).2.1 ≤ tx.length ∧ p ≤ (tk tx p).2.2 ∧ (tk tx p).2.2 ≤ tx.length ∧ ((tk tx p).1.1 = 1 ∨ (tk tx p).1.1 = 2 ∨ (tk tx p).1.1 = 3 → p < (tk tx p).2.2) ∧ (tk tx p).1.1 ≤ 4 ∧ ((tk tx p).1.1 = 2 → (tk tx p).1.2 ≤ 99) := by
  obtain ⟨s1, s2⟩ := sk_le hp
  obtain ⟨t1, t2, t3, t4, t5, t6⟩ := tq_next s2
  unfold tk
  exact ⟨by omega, by omega, t3, fun h => by have := t4 h; omega, t5, t6⟩
/-! X reads a token -/
theorem wi_cl {c l h : Nat} (hc : c < 256) (hl : l < 256) (hh : h < 256) : f_X10_within (nI c) (nI l) (nI h) = if (decide (l ≤ c) && decide (c ≤ h)) = true then 1 else 0 := by
  rw [wi_eq]
  by_cases q : l ≤ c ∧ c ≤ h
  · rw [if_pos ⟨nI_le q.1 (by omega), nI_le q.2 (by omega)⟩, if_pos (by simp [q])]
  · rw [if_neg, if_neg (by simpa using q)]
    rintro ⟨a, b⟩
    exact q ⟨(nI_leI (by omega) (by omega)).mp a, (nI_leI (by omega) (by omega)).mp b⟩
theorem wi_L {c : Nat} (hc : c < 256) : f_X10_within (nI c) (97 : Int32) (122 : Int32) = if isL c = true then 1 else 0 := wi_cl (l := 97) (h := 122) hc (by decide) (by decide)
theorem wi_D {c : Nat} (hc : c < 256) : f_X10_within (nI c) (48 : Int32) (57 : Int32) = if isD c = true then 1 else 0 := wi_cl (l := 48) (h := 57) hc (by decide) (by decide)
theorem nI_lit {c k : Nat} (hc : c < 256) (hk : k < 256) : nI c = nI k ↔ c = k := nI_eq (by omega) (by omega)
theorem x_let {tx : List Nat} (ht : xOK tx) {A : ZA} {T : Int64} {x1 : Int32} : ∀ (m p n : Nat) (F : ZF), p + m = tx.length → m < n → TXX tx (F 1) (A 12) → F 2 = nI p → ∃ F', f_X7_takeLetters_10 n x1 F A T = f_X7_takeLetters_53 x1 F' A T ∧ F' 2 = nI (p + rl isL (tx.drop p)) ∧ ∀ k, k ≠ 2 → F' k = F k := by
  have hL := ht.1
  have n1 : ¬ (1 : Int32) = 0 := by decide
  have f1 : ¬ (false = true) := by decide
  intro m
  induction m with
  | zero =>
    intro p n F hp hn hx h2
    obtain ⟨n, rfl⟩ : ∃ n', n = n' + 1 := ⟨n - 1, by omega⟩
    rw [f_X7_takeLetters_10_s, hx.1, h2, if_pos (nI_le (by omega) (by omega)), List.drop_eq_nil_of_le (by omega)]
    exact ⟨F, rfl, by rw [h2]; rfl, fun k hk => rfl⟩
  | succ m ih =>
    intro p n F hp hn hx h2
    obtain ⟨n, rfl⟩ : ∃ n', n = n' + 1 := ⟨n - 1, by omega⟩
    obtain ⟨c, hc, cm⟩ := l_get (show p < tx.length by omega)
    have c256 := ht.2 c cm
    rw [f_X7_takeLetters_10_s, hx.1, h2, if_neg (nI_ge (by omega) (by omega)), if_pos (gok_nI (by omega) (by decide)), nI_clamp (by omega), hx.2 p c hc, wi_L c256, drop_at hc]
    cases q : isL c
    · rw [if_neg f1, if_pos rfl, rl_n _ q]
      exact ⟨F, rfl, h2, fun k hk => rfl⟩
    · rw [if_pos rfl, if_neg n1, rl_y _ q, nI_1]
      obtain ⟨F', e1, e2, e3⟩ := ih (p + 1) n (upd F 2 (nI (p + 1))) (by omega) (by omega) (by rw [upd_ne (by decide)]; exact hx) (upd_same _ _ _)
      exact ⟨F', e1, by rw [e2]; congr 1; omega, fun k hk => by rw [e3 k hk, upd_ne hk]⟩
theorem x_num {tx : List Nat} (ht : xOK tx) {A : ZA} {T : Int64} {x1 : Int32} : ∀ (m p n v : Nat) (F : ZF), p + m = tx.length → m < n → v ≤ 1000 → TXX tx (F 1) (A 12) → F 2 = nI p → F 5 = nI v → ∃ F', f_X7_takeNumber_10 n x1 F A T = f_X7_takeNumber_83 x1 F' A T ∧ F' 2 = nI (p + rl isD (tx.drop p)) ∧ F' 5 = nI (vX v (tx.drop p)) ∧ ∀ k, k ≠ 2 → k ≠ 5 → F' k = F k := by
  have hL := ht.1
  have n1 : ¬ (1 : Int32) = 0 := by decide
  have f1 : ¬ (false = true) := by decide
  intro m
  induction m with
  | zero =>
    intro p n v F hp hn hv hx h2 h5
    obtain ⟨n, rfl⟩ : ∃ n', n = n' + 1 := ⟨n - 1, by omega⟩
    rw [f_X7_takeNumber_10_s, hx.1, h2, if_pos (nI_le (by omega) (by omega)), List.drop_eq_nil_of_le (by omega)]
    exact ⟨F, rfl, by rw [h2]; rfl, by rw [h5]; rfl, fun k _ _ => rfl⟩
  | succ m ih =>
    intro p n v F hp hn hv hx h2 h5
    obtain ⟨n, rfl⟩ : ∃ n', n = n' + 1 := ⟨n - 1, by omega⟩
    obtain ⟨c, hc, cm⟩ := l_get (show p < tx.length by omega)
    have c256 := ht.2 c cm
    have g : gok (nI p) 200 = true := gok_nI (by omega) (by decide)
    rw [f_X7_takeNumber_10_s, hx.1, h2, if_neg (nI_ge (by omega) (by omega)), if_pos g, if_pos g, nI_clamp (by omega), hx.2 p c hc, wi_D c256, drop_at hc]
    cases q : isD c
    · rw [if_neg f1, if_pos rfl, rl_n _ q, vX_n _ _ q]
      exact ⟨F, rfl, h2, h5, fun k _ _ => rfl⟩
    · have hcd := isD_iff.mp q
      have ev : (if (1000 : Int32) < F 5 * 10 + nI c - 48 then (1000 : Int32) else F 5 * 10 + nI c - 48) = nI (if 1000 < v * 10 + c - 48 then 1000 else v * 10 + c - 48) := by
        rw [h5, show (10 : Int32) = nI 10 from rfl, pk_mul, nI_add, show (48 : Int32) = nI 48 from rfl, pk_sub (by omega)]
        by_cases z : 1000 < v * 10 + c - 48
        · have z2 : (1000 : Int32) < nI (v * 10 + c - 48) := nI_lt (a := 1000) z (by omega)
          rw [if_pos z2, if_pos z]; rfl
        · have z2 : ¬ (1000 : Int32) < nI (v * 10 + c - 48) := nI_nlt (a := 1000) (by omega) (by omega)
          rw [if_neg z2, if_neg z]
      rw [if_pos rfl, if_neg n1, rl_y _ q, vX_y _ _ q, ev, upd_ne (show (2 : Nat) ≠ 5 by decide), h2, nI_1]
      obtain ⟨F', e1, e2, e3, e4⟩ := ih (p + 1) n (if 1000 < v * 10 + c - 48 then 1000 else v * 10 + c - 48) (upd (upd F 5 (nI (if 1000 < v * 10 + c - 48 then 1000 else v * 10 + c - 48))) 2 (nI (p + 1))) (by omega) (by omega) (by split <;> omega) (by rw [upd_ne (by decide), upd_ne (by decide)]; exact hx) (upd_same _ _ _) (by rw [upd_ne (by decide), upd_same])
      exact ⟨F', e1, by rw [e2]; congr 1; omega, e3, fun k h1 h2 => by rw [e4 k h1 h2, upd_ne h1, upd_ne h2]⟩
theorem x_sp {tx : List Nat} (ht : xOK tx) {A : ZA} {T : Int64} : ∀ (m p n : Nat) (F : ZF), p + m = tx.length → m < n → TXX tx (F 1) (A 12) → F 2 = nI p → ∃ F', f_X7_nextToken_0 n F A T = f_X7_nextToken_38 F' A T ∧ F' 2 = nI (sk tx p) ∧ ∀ k, k ≠ 2 → F' k = F k := by
  have hL := ht.1
  intro m
  induction m with
  | zero =>
    intro p n F hp hn hx h2
    obtain ⟨n, rfl⟩ : ∃ n', n = n' + 1 := ⟨n - 1, by omega⟩
    unfold sk
    rw [f_X7_nextToken_0_s, hx.1, h2, if_pos (nI_le (by omega) (by omega)), List.drop_eq_nil_of_le (by omega)]
    exact ⟨F, rfl, by rw [h2]; rfl, fun k hk => rfl⟩
  | succ m ih =>
    intro p n F hp hn hx h2
    obtain ⟨n, rfl⟩ : ∃ n', n = n' + 1 := ⟨n - 1, by omega⟩
    obtain ⟨c, hc, cm⟩ := l_get (show p < tx.length by omega)
    have c256 := ht.2 c cm
    unfold sk
    rw [f_X7_nextToken_0_s, hx.1, h2, if_neg (nI_ge (by omega) (by omega)), if_pos (gok_nI (by omega) (by decide)), nI_clamp (by omega), hx.2 p c hc, drop_at hc]
    by_cases q : c = 32
    · have q2 : nI c = (32 : Int32) := by rw [q]; rfl
      rw [if_pos q2, rl_y _ (show isS c = true by simp [isS, q]), nI_1]
      obtain ⟨F', e1, e2, e3⟩ := ih (p + 1) n (upd F 2 (nI (p + 1))) (by omega) (by omega) (by rw [upd_ne (by decide)]; exact hx) (upd_same _ _ _)
      exact ⟨F', e1, by rw [e2]; unfold sk; congr 1; omega, fun k hk => by rw [e3 k hk, upd_ne hk]⟩
    · have q2 : ¬ nI c = (32 : Int32) := fun e => q ((nI_lit (k := 32) c256 (by decide)).mp e)
      rw [if_neg q2, rl_n _ (show isS c = false by simp [isS, q])]
      exact ⟨F, rfl, h2, fun k hk => rfl⟩
theorem x_38 {tx : List Nat} (ht : xOK tx) {A : ZA} {T : Int64} {q : Nat} (hq : q ≤ tx.length) {F : ZF} (hx : TXX tx (F 1) (A 12)) (h2 : F 2 = nI q) : ∃ F', f_X7_nextToken_38 F A T = some (F', A, T) ∧ (∀ k, k ≠ 2 → k ≠ 3 → k ≠ 4 → k ≠ 5 → F' k = F k) ∧ F' 3 = nI (tq tx q).1.1 ∧ F' 4 = nI (tq tx q).2.1 ∧ ((tq tx q).1.1 ≠ 4 → F' 2 = nI (tq tx q).2.2) ∧ ((tq tx q).1.1 = 1 ∨ (tq tx q).1.1 = 2 → F' 5 = nI (tq tx q).1.2) := by
  have hL := ht.1
  have n1 : ¬ (1 : Int32) = 0 := by decide
  have f1 : ¬ (false = true) := by decide
  have u2 : upd (upd F 4 (nI q)) 5 (0 : Int32) 2 = nI q := by rw [upd_ne (by decide), upd_ne (by decide)]; exact h2
  have u1 : upd (upd F 4 (nI q)) 5 (0 : Int32) 1 = nI tx.length := by rw [upd_ne (by decide), upd_ne (by decide)]; exact hx.1
  have u4 : upd (upd F 4 (nI q)) 5 (0 : Int32) 4 = nI q := by rw [upd_ne (by decide), upd_same]
  have u5 : upd (upd F 4 (nI q)) 5 (0 : Int32) 5 = nI 0 := upd_same _ _ _
  have uk : ∀ k, k ≠ 4 → k ≠ 5 → upd (upd F 4 (nI q)) 5 (0 : Int32) k = F k := fun k a b => by rw [upd_ne b, upd_ne a]
  have ux : TXX tx (upd (upd F 4 (nI q)) 5 (0 : Int32) 1) (A 12) := by rw [uk 1 (by decide) (by decide)]; exact hx
  unfold f_X7_nextToken_38
  rw [h2]
  generalize upd (upd F 4 (nI q)) 5 (0 : Int32) = G at u1 u2 u4 u5 uk ux ⊢
  rw [u2, u1]
  unfold tq
  cases h : tx[q]? with
  | none =>
    have hlen := List.getElem?_eq_none_iff.mp h
    rw [if_neg (nI_nlt hlen (by omega))]
    dsimp only
    refine ⟨_, rfl, fun k a b c d => by rw [upd_ne b, uk k c d], upd_same _ _ _, by rw [upd_ne (by decide)]; exact u4, fun _ => by rw [upd_ne (by decide)]; exact u2, fun e => by rcases e with e | e <;> cases e⟩
  | some c =>
    have hlt := l_lt h
    have c256 := ht.2 c (List.mem_of_getElem? h)
    have g : gok (nI q) 200 = true := gok_nI (by omega) (by decide)
    have e := drop_at h
    rw [if_pos (nI_lt hlt (by omega)), if_pos g, if_pos g, if_pos g, nI_clamp (by omega), hx.2 q c h, wi_L c256, wi_D c256]
    dsimp only
    by_cases c1 : c = 59
    · have c1' : nI c = (59 : Int32) := by rw [c1]; rfl
      rw [if_pos c1', if_pos c1, upd_ne (show (2 : Nat) ≠ 3 by decide), u2, nI_1]
      refine ⟨_, rfl, fun k a b c d => by rw [upd_ne a, upd_ne b, uk k c d], by rw [upd_ne (by decide), upd_same]; rfl, by rw [upd_ne (by decide), upd_ne (by decide)]; exact u4, fun _ => upd_same _ _ _, fun e => by rcases e with e | e <;> cases e⟩
    · have c1' : ¬ nI c = (59 : Int32) := fun e => c1 ((nI_lit (k := 59) c256 (by decide)).mp e)
      rw [if_neg c1', if_neg c1]
      cases c2 : isL c
      · rw [if_neg f1, if_pos rfl, if_neg f1]
        cases c3 : isD c
        · rw [if_neg f1, if_pos rfl, if_neg f1]
          refine ⟨_, rfl, fun k a b c d => by rw [upd_ne b, uk k c d], upd_same _ _ _, by rw [upd_ne (by decide)]; exact u4, fun z => absurd rfl z, fun e => by rcases e with e | e <;> cases e⟩
        · rw [if_pos rfl, if_neg n1, if_pos rfl]
          unfold f_X7_takeNumber
          rw [u2, if_pos g, nI_clamp (by omega), hx.2 q c h]
          obtain ⟨F', e1, e2, e3, e4⟩ := x_num ht (T := T) (x1 := nI c) (tx.length - q) q 1000 0 G (by omega) (by omega) (by omega) ux u2 u5
          have nk := num_ok (tx.drop (q + 1)) c3
          rw [← e] at nk
          have hr := rl_le isD (tx.drop q)
          rw [List.length_drop] at hr
          have hr1 : 1 ≤ rl isD (tx.drop q) := by rw [e, rl_y _ c3]; omega
          have k4 : F' 4 = nI q := by rw [e4 4 (by decide) (by decide)]; exact u4
          rw [e1]
          unfold f_X7_takeNumber_83 f_X7_takeNumber_115
          rw [e2, k4, pk_sub (by omega), show q + rl isD (tx.drop q) - q = rl isD (tx.drop q) by omega]
          unfold nok at nk
          have fr : ∀ (y : Int32) (k : Nat), k ≠ 2 → k ≠ 3 → k ≠ 4 → k ≠ 5 → upd F' 3 y k = F k := fun y k a b c d => by rw [upd_ne b, e4 k a d, uk k c d]
          by_cases z : rl isD (tx.drop q) = 1 ∨ (rl isD (tx.drop q) = 2 ∧ c ≠ 48)
          · rw [if_pos z]
            obtain ⟨v1, v2⟩ := nk.2 z
            have z2 : ¬ (2 : Int32) < nI (rl isD (tx.drop q)) := nI_nlt (b := rl isD (tx.drop q)) (a := 2) (by omega) (by omega)
            rw [if_neg z2]
            have go : ∃ F'', (some (upd F' 3 2, A, T)).bind (fun q13 => some (q13.1, q13.2.1, q13.2.2)) = some (F'', A, T) ∧ (∀ k, k ≠ 2 → k ≠ 3 → k ≠ 4 → k ≠ 5 → F'' k = F k) ∧ F'' 3 = nI 2 ∧ F'' 4 = nI q ∧ ((2 : Nat) ≠ 4 → F'' 2 = nI (q + rl isD (tx.drop q))) ∧ ((2 : Nat) = 1 ∨ (2 : Nat) = 2 → F'' 5 = nI (vM 0 (tx.drop q))) := by
              refine ⟨upd F' 3 2, by rw [Option.bind_some], fr 2, upd_same _ _ _, by rw [upd_ne (by decide)]; exact k4, fun _ => by rw [upd_ne (by decide)]; exact e2, fun _ => by rw [upd_ne (by decide), e3, v1]⟩
            by_cases w : rl isD (tx.drop q) = 2
            · have w2 : nI (rl isD (tx.drop q)) = (2 : Int32) := by rw [w]; rfl
              have w3 : ¬ nI c = (48 : Int32) := fun e => by
                have := (nI_lit (k := 48) c256 (by decide)).mp e
                omega
              rw [if_pos w2, if_neg w3]
              exact go
            · have w2 : ¬ nI (rl isD (tx.drop q)) = (2 : Int32) := fun e => w ((nI_eq (b := 2) (by omega) (by decide)).mp e)
              rw [if_neg w2]
              exact go
          · rw [if_neg z]
            have go : ∃ F'', (some (upd F' 3 4, A, T)).bind (fun q13 => some (q13.1, q13.2.1, q13.2.2)) = some (F'', A, T) ∧ (∀ k, k ≠ 2 → k ≠ 3 → k ≠ 4 → k ≠ 5 → F'' k = F k) ∧ F'' 3 = nI 4 ∧ F'' 4 = nI q ∧ ((4 : Nat) ≠ 4 → F'' 2 = nI q) ∧ ((4 : Nat) = 1 ∨ (4 : Nat) = 2 → F'' 5 = nI 0) := by
              refine ⟨upd F' 3 4, by rw [Option.bind_some], fr 4, upd_same _ _ _, by rw [upd_ne (by decide)]; exact k4, fun w => absurd rfl w, fun w => by rcases w with w | w <;> cases w⟩
            by_cases w : 2 < rl isD (tx.drop q)
            · have w2 : (2 : Int32) < nI (rl isD (tx.drop q)) := nI_lt (a := 2) w (by omega)
              rw [if_pos w2]; exact go
            · have w2 : ¬ (2 : Int32) < nI (rl isD (tx.drop q)) := nI_nlt (a := 2) (by omega) (by omega)
              have w4 : rl isD (tx.drop q) = 2 := by omega
              have w5 : nI (rl isD (tx.drop q)) = (2 : Int32) := by rw [w4]; rfl
              have w6 : nI c = (48 : Int32) := by rw [show c = 48 by omega]; rfl
              rw [if_neg w2, if_pos w5, if_pos w6]; exact go
      · rw [if_pos rfl, if_neg n1, if_pos rfl]
        unfold f_X7_takeLetters
        rw [u2, if_pos g, nI_clamp (by omega), hx.2 q c h]
        obtain ⟨F', e1, e2, e3⟩ := x_let ht (T := T) (x1 := nI c) (tx.length - q) q 1000 G (by omega) (by omega) ux u2
        have hr := rl_le isL (tx.drop q)
        rw [List.length_drop] at hr
        rw [e1]
        unfold f_X7_takeLetters_53 f_X7_takeLetters_77
        rw [upd_ne (show (2 : Nat) ≠ 3 by decide), upd_ne (show (4 : Nat) ≠ 3 by decide), e2, e3 4 (by decide), u4, pk_sub (by omega), show q + rl isL (tx.drop q) - q = rl isL (tx.drop q) by omega]
        have fin : ∀ y : Int32, ∃ F'', (some (upd (upd F' 3 1) 5 y, A, T)).bind (fun q15 => some (q15.1, q15.2.1, q15.2.2)) = some (F'', A, T) ∧ (∀ k, k ≠ 2 → k ≠ 3 → k ≠ 4 → k ≠ 5 → F'' k = F k) ∧ F'' 3 = nI 1 ∧ F'' 4 = nI q ∧ ((1 : Nat) ≠ 4 → F'' 2 = nI (q + rl isL (tx.drop q))) ∧ F'' 5 = y := by
          intro y
          refine ⟨upd (upd F' 3 1) 5 y, by rw [Option.bind_some], fun k a b c d => by rw [upd_ne d, upd_ne b, e3 k a, uk k c d], by rw [upd_ne (by decide), upd_same]; rfl, by rw [upd_ne (by decide), upd_ne (by decide), e3 4 (by decide)]; exact u4, fun _ => by rw [upd_ne (by decide), upd_ne (by decide)]; exact e2, upd_same _ _ _⟩
        by_cases z : rl isL (tx.drop q) = 1
        · have z2 : nI (rl isL (tx.drop q)) = (1 : Int32) := by rw [z]; rfl
          rw [if_pos z2]
          obtain ⟨F'', r1, r2, r3, r4, r5, r6⟩ := fin (nI c)
          exact ⟨F'', r1, r2, r3, r4, r5, fun _ => by rw [if_pos z]; exact r6⟩
        · have z2 : ¬ nI (rl isL (tx.drop q)) = (1 : Int32) := fun e => z ((nI_eq (b := 1) (by omega) (by decide)).mp e)
          rw [if_neg z2]
          obtain ⟨F'', r1, r2, r3, r4, r5, r6⟩ := fin 0
          exact ⟨F'', r1, r2, r3, r4, r5, fun _ => by rw [if_neg z]; exact r6⟩
theorem x_tok {tx : List Nat} (ht : xOK tx) {A : ZA} {T : Int64} {p : Nat} (hp : p ≤ tx.length) {F : ZF} (hx : TXX tx (F 1) (A 12)) (h2 : F 2 = nI p) : ∃ F', f_X7_nextToken F A T = some (F', A, T) ∧ (∀ k, k ≠ 2 → k ≠ 3 → k ≠ 4 → k ≠ 5 → F' k = F k) ∧ F' 3 = nI (tk tx p).1.1 ∧ F' 4 = nI (tk tx p).2.1 ∧ ((tk tx p).1.1 ≠ 4 → F' 2 = nI (tk tx p).2.2) ∧ ((tk tx p).1.1 = 1 ∨ (tk tx p).1.1 = 2 → F' 5 = nI (tk tx p).1.2) := by
  have hL := ht.1
  obtain ⟨F1, e1, e2, e3⟩ := x_sp ht (T := T) (tx.length - p) p 1000 F (by omega) (by omega) hx h2
  obtain ⟨F', r1, r2, r3⟩ := x_38 ht (T := T) (sk_le hp).2 (F := F1) (by rw [e3 1 (by decide)]; exact hx) e2
  refine ⟨F', ?_, fun k a b c d => by rw [r2 k a b c d, e3 k a], r3⟩
  unfold f_X7_nextToken
  rw [e1, r1]
