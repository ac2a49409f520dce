/-! the reference reads a token -/
def ch (tx : List Nat) (p : Nat) : Int32 := match tx[p]? with
  | none => -1
  | some c => nI c
theorem ch_n {tx : List Nat} {p : Nat} (h : tx[p]? = none) : ch tx p = -1 := by unfold ch; rw [h]
theorem ch_s {tx : List Nat} {p c : Nat} (h : tx[p]? = some c) : ch tx p = nI c := by unfold ch; rw [h]
theorem m_here {tx : List Nat} (ht : xOK tx) {F : ZF} {A : ZA} {T : Int64} (hm : TXM tx (F 0) (A 1)) {p : Nat} (hp : p ≤ tx.length) (h1 : F 1 = nI p) : f_X11_here F A T = some (ch tx p) := by
  have hL := ht.1
  unfold f_X11_here
  rw [hm.1, h1]
  cases h : tx[p]? with
  | none =>
    rw [if_pos (nI_le (List.getElem?_eq_none_iff.mp h) (by omega)), ch_n h]
  | some c =>
    have hl := l_lt h
    rw [if_neg (nI_ge hl (by omega)), if_pos (gok_nI (by omega) (by decide)), nI_clamp (by omega), hm.2 p c h, ch_s h]
noncomputable def tmn (x1 : Int32) (F : ZF) (A : ZA) (T : Int64) : Option ZS := if (99 : Int32) < (F 4) then (f_X11_next_222 (4 : Int32) F A T) else (if x1 = (48 : Int32) then (if ((F 1) - (F 2)) ≤ (1 : Int32) then (f_X11_next_222 (1 : Int32) F A T) else (f_X11_next_222 (4 : Int32) F A T)) else (f_X11_next_222 (1 : Int32) F A T))
theorem m_nm {tx : List Nat} (ht : xOK tx) {A : ZA} {T : Int64} {x1 : Int32} : ∀ (m p n v : Nat) (F : ZF), p + m = tx.length → m < n → v ≤ 1000 → TXM tx (F 0) (A 1) → F 1 = nI p → F 4 = nI v → ∃ F', f_X11_next_126 n x1 F A T = tmn x1 F' A T ∧ F' 1 = nI (p + rl isD (tx.drop p)) ∧ F' 4 = nI (vM v (tx.drop p)) ∧ ∀ k, k ≠ 1 → k ≠ 4 → F' k = F k := by
  have hL := ht.1
  have n1 : ¬ (1 : Int32) = 0 := by decide
  have f1 : ¬ (false = true) := by decide
  intro m
  induction m with
  | zero =>
    intro p n v F hp hn hv hx h2 h5
    obtain ⟨n, rfl⟩ : ∃ n', n = n' + 1 := ⟨n - 1, by omega⟩
    have hnone : tx[p]? = none := List.getElem?_eq_none_iff.mpr (by omega)
    have w : f_X10_within (-1 : Int32) (48 : Int32) (57 : Int32) = 0 := by decide
    rw [f_X11_next_126_s, m_here ht hx (by omega) h2, Option.bind_some, ch_n hnone, in_wi, w, if_pos rfl, drop_nil hnone]
    exact ⟨F, rfl, by rw [h2]; rfl, by rw [h5]; rfl, fun k _ _ => rfl⟩
  | succ m ih =>
    intro p n v F hp hn hv hx h2 h5
    obtain ⟨n, rfl⟩ : ∃ n', n = n' + 1 := ⟨n - 1, by omega⟩
    obtain ⟨c, hc, cm⟩ := l_get (show p < tx.length by omega)
    have c256 := ht.2 c cm
    rw [f_X11_next_126_s, m_here ht hx (by omega) h2, Option.bind_some, Option.bind_some, ch_s hc, in_wi, wi_D c256, drop_at hc]
    cases q : isD c
    · rw [if_neg f1, if_pos rfl, rl_n _ q, vM_n _ _ q]
      exact ⟨F, rfl, h2, h5, fun k _ _ => rfl⟩
    · have hcd := isD_iff.mp q
      rw [if_pos rfl, if_neg n1, rl_y _ q, vM_y _ _ q]
      unfold f_X11_next_172
      have go : ∀ w : Nat, w ≤ 1000 → ∃ F', f_X11_next_126 n x1 (upd (upd F 4 (nI w)) 1 (upd F 4 (nI w) 1 + 1)) A T = tmn x1 F' A T ∧ F' 1 = nI (p + (rl isD (tx.drop (p + 1)) + 1)) ∧ F' 4 = nI (vM w (tx.drop (p + 1))) ∧ ∀ k, k ≠ 1 → k ≠ 4 → F' k = F k := by
        intro w hw
        rw [upd_ne (show (1 : Nat) ≠ 4 by decide), h2, nI_1]
        obtain ⟨F', e1, e2, e3, e4⟩ := ih (p + 1) n w (upd (upd F 4 (nI w)) 1 (nI (p + 1))) (by omega) (by omega) hw (by rw [upd_ne (by decide), upd_ne (by decide)]; exact hx) (upd_same _ _ _) (by rw [upd_ne (by decide), upd_same])
        exact ⟨F', e1, by rw [e2]; congr 1; omega, e3, fun k a b => by rw [e4 k a b, upd_ne a, upd_ne b]⟩
      by_cases z : v ≤ 99
      · have z2 : F 4 ≤ (99 : Int32) := by rw [h5]; exact nI_le (b := 99) z (by decide)
        have ev : (10 : Int32) * F 4 + nI c - 48 = nI (10 * v + c - 48) := by
          rw [h5, show (10 : Int32) = nI 10 from rfl, pk_mul, nI_add, show (48 : Int32) = nI 48 from rfl, pk_sub (by omega)]
        rw [if_pos z2, if_pos z, ev]
        exact go _ (by omega)
      · have z2 : ¬ F 4 ≤ (99 : Int32) := by rw [h5]; exact nI_ge (a := 99) (by omega) (by omega)
        rw [if_neg z2, if_neg z, h5]
        exact go _ hv
noncomputable def tml (x1 : Int32) (F : ZF) (A : ZA) (T : Int64) : Option ZS := if ((F 1) - (F 2)) = (1 : Int32) then (f_X11_next_109 x1 F A T) else (f_X11_next_109 (4 : Int32) F A T)
theorem m_lt {tx : List Nat} (ht : xOK tx) {A : ZA} {T : Int64} {x1 : Int32} : ∀ (m p n : Nat) (F : ZF), p + m = tx.length → m < n → TXM tx (F 0) (A 1) → F 1 = nI p → ∃ F', f_X11_next_63 n x1 F A T = tml x1 F' A T ∧ F' 1 = nI (p + rl isL (tx.drop p)) ∧ ∀ k, k ≠ 1 → F' k = F k := by
  have hL := ht.1
  have n1 : ¬ (1 : Int32) = 0 := by decide
  have f1 : ¬ (false = true) := by decide
  intro m
  induction m with
  | zero =>
    intro p n F hp hn hx h2
    obtain ⟨n, rfl⟩ : ∃ n', n = n' + 1 := ⟨n - 1, by omega⟩
    have hnone : tx[p]? = none := List.getElem?_eq_none_iff.mpr (by omega)
    have w : f_X10_within (-1 : Int32) (97 : Int32) (122 : Int32) = 0 := by decide
    rw [f_X11_next_63_s, m_here ht hx (by omega) h2, Option.bind_some, ch_n hnone, in_wi, w, if_pos rfl, drop_nil hnone]
    exact ⟨F, rfl, by rw [h2]; rfl, fun k _ => rfl⟩
  | succ m ih =>
    intro p n F hp hn hx h2
    obtain ⟨n, rfl⟩ : ∃ n', n = n' + 1 := ⟨n - 1, by omega⟩
    obtain ⟨c, hc, cm⟩ := l_get (show p < tx.length by omega)
    have c256 := ht.2 c cm
    rw [f_X11_next_63_s, m_here ht hx (by omega) h2, Option.bind_some, ch_s hc, in_wi, wi_L c256, drop_at hc]
    cases q : isL c
    · rw [if_neg f1, if_pos rfl, rl_n _ q]
      exact ⟨F, rfl, h2, fun k _ => rfl⟩
    · rw [if_pos rfl, if_neg n1, rl_y _ q, h2, nI_1]
      obtain ⟨F', e1, e2, e3⟩ := ih (p + 1) n (upd F 1 (nI (p + 1))) (by omega) (by omega) (by rw [upd_ne (by decide)]; exact hx) (upd_same _ _ _)
      exact ⟨F', e1, by rw [e2]; congr 1; omega, fun k a => by rw [e3 k a, upd_ne a]⟩
def srt (t : Nat × Nat) : Nat := if t.1 = 0 then 3 else if t.1 = 1 then (if t.2 = 0 then 4 else t.2) else if t.1 = 2 then 1 else if t.1 = 3 then 2 else 4
/-- the reference has read the token t -/
def RQ (t : (Nat × Nat) × Nat × Nat) (F : ZF) : Prop := F 2 = nI t.2.1 ∧ F 3 = nI (srt t.1) ∧ (t.1.1 = 2 → F 4 = nI t.1.2) ∧ (t.1.1 ≠ 4 → F 1 = nI t.2.2)
theorem m_q {tx : List Nat} (ht : xOK tx) {A : ZA} {T : Int64} {q : Nat} (hq : q ≤ tx.length) {F : ZF} (hm : TXM tx (F 0) (A 1)) (h1 : F 1 = nI q) (n : Nat) (hns : ∀ c, tx[q]? = some c → c ≠ 32) : ∃ F', f_X11_next_0 (n + 1) F A T = some (F', A, T) ∧ (∀ k, k ≠ 1 → k ≠ 2 → k ≠ 3 → k ≠ 4 → F' k = F k) ∧ RQ (tq tx q) F' := by
  have hL := ht.1
  have n1 : ¬ (1 : Int32) = 0 := by decide
  have f1 : ¬ (false = true) := by decide
  have u1 : upd (upd F 2 (nI q)) 4 (0 : Int32) 1 = nI q := by rw [upd_ne (by decide), upd_ne (by decide)]; exact h1
  have u2 : upd (upd F 2 (nI q)) 4 (0 : Int32) 2 = nI q := by rw [upd_ne (by decide), upd_same]
  have u4 : upd (upd F 2 (nI q)) 4 (0 : Int32) 4 = nI 0 := upd_same _ _ _
  have uk : ∀ k, k ≠ 2 → k ≠ 4 → upd (upd F 2 (nI q)) 4 (0 : Int32) k = F k := fun k a b => by rw [upd_ne b, upd_ne a]
  have ux : TXM tx (upd (upd F 2 (nI q)) 4 (0 : Int32) 0) (A 1) := by rw [uk 0 (by decide) (by decide)]; exact hm
  rw [f_X11_next_0_s, m_here ht hm hq h1, Option.bind_some, h1, m_here ht ux hq u1, Option.bind_some]
  generalize upd (upd F 2 (nI q)) 4 (0 : Int32) = G at u1 u2 u4 uk ux ⊢
  unfold RQ tq
  cases h : tx[q]? with
  | none =>
    rw [ch_n h, if_neg (show ¬ (-1 : Int32) = 32 by decide), if_neg (show ¬ (0 : Int32) ≤ -1 by decide)]
    dsimp only
    exact ⟨_, rfl, fun k a b c d => by rw [upd_ne c, uk k b d], by rw [upd_ne (by decide)]; exact u2, upd_same _ _ _, fun e => (by cases e), fun _ => by rw [upd_ne (by decide)]; exact u1⟩
  | some c =>
    have hlt := l_lt h
    have c256 := ht.2 c (List.mem_of_getElem? h)
    have e := drop_at h
    have c32 : ¬ nI c = (32 : Int32) := fun e => hns c h ((nI_lit (k := 32) c256 (by decide)).mp e)
    have c0 : (0 : Int32) ≤ nI c := nI_pos' (by omega)
    rw [ch_s h, if_neg c32, if_pos c0, in_wi, in_wi, wi_L c256, wi_D c256]
    dsimp only
    by_cases c1 : c = 59
    · have c2 : isL c = false := by rw [c1]; decide
      have c3 : isD c = false := by rw [c1]; decide
      have c1' : nI c = (59 : Int32) := by rw [c1]; rfl
      rw [c2, c3, if_neg f1, if_pos rfl, if_neg f1, if_pos rfl, if_pos c1', if_pos c1, u1, nI_1]
      unfold f_X11_next_250
      exact ⟨_, rfl, fun k a b c d => by rw [upd_ne c, upd_ne a, uk k b d], by rw [upd_ne (by decide), upd_ne (by decide)]; exact u2, upd_same _ _ _, fun e => (by cases e), fun _ => by rw [upd_ne (by decide), upd_same]⟩
    · have c1' : ¬ nI c = (59 : Int32) := fun e => c1 ((nI_lit (k := 59) c256 (by decide)).mp e)
      rw [if_neg c1', if_neg c1]
      cases c2 : isL c
      · rw [if_neg f1, if_pos rfl, if_neg f1]
        cases c3 : isD c
        · rw [if_neg f1, if_pos rfl, if_neg f1]
          unfold f_X11_next_250
          exact ⟨_, rfl, fun k a b c d => by rw [upd_ne c, upd_ne a, uk k b d], by rw [upd_ne (by decide), upd_ne (by decide)]; exact u2, upd_same _ _ _, fun e => (by cases e), fun z => absurd rfl z⟩
        · rw [if_pos rfl, if_neg n1, if_pos rfl]
          obtain ⟨F', e1, e2, e3, e4⟩ := m_nm ht (T := T) (x1 := nI c) (tx.length - q) q 1000 0 G (by omega) (by omega) (by omega) ux u1 u4
          have nk := num_ok (tx.drop (q + 1)) c3
          rw [← e] at nk
          have hr := rl_le isD (tx.drop q)
          rw [List.length_drop] at hr
          have hr1 : 1 ≤ rl isD (tx.drop q) := by rw [e, rl_y _ c3]; omega
          have k2 : F' 2 = nI q := by rw [e4 2 (by decide) (by decide)]; exact u2
          have fr : ∀ (y : Int32) (k : Nat), k ≠ 1 → k ≠ 2 → k ≠ 3 → k ≠ 4 → upd F' 3 y k = F k := fun y k a b c d => by rw [upd_ne c, e4 k a d, uk k b d]
          have vb : vM 0 (tx.drop q) ≤ 1000 := by
            have : ∀ (l : List Nat) (v : Nat), v ≤ 1000 → vM v l ≤ 1000 := by
              intro l
              induction l with
              | nil => intro v hv; exact hv
              | cons c t ih =>
                intro v hv
                cases hd : isD c
                · rw [vM_n v t hd]; exact hv
                · have := isD_iff.mp hd
                  rw [vM_y v t hd]
                  apply ih
                  split <;> omega
            exact this _ 0 (by omega)
          rw [e1]
          unfold tmn f_X11_next_222
          rw [e2, e3, k2, pk_sub (by omega), show q + rl isD (tx.drop q) - q = rl isD (tx.drop q) by omega]
          unfold nok at nk
          have bad : ∃ F'', some (upd F' 3 4, A, T) = some (F'', A, T) ∧ (∀ k, k ≠ 1 → k ≠ 2 → k ≠ 3 → k ≠ 4 → F'' k = F k) ∧ F'' 2 = nI q ∧ F'' 3 = nI (srt (4, 0)) ∧ ((4 : Nat) = 2 → F'' 4 = nI 0) ∧ ((4 : Nat) ≠ 4 → F'' 1 = nI q) :=
            ⟨upd F' 3 4, rfl, fr 4, by rw [upd_ne (by decide)]; exact k2, upd_same _ _ _, fun e => (by cases e), fun z => absurd rfl z⟩
          have good : ∃ F'', some (upd F' 3 1, A, T) = some (F'', A, T) ∧ (∀ k, k ≠ 1 → k ≠ 2 → k ≠ 3 → k ≠ 4 → F'' k = F k) ∧ F'' 2 = nI q ∧ F'' 3 = nI (srt (2, vM 0 (tx.drop q))) ∧ ((2 : Nat) = 2 → F'' 4 = nI (vM 0 (tx.drop q))) ∧ ((2 : Nat) ≠ 4 → F'' 1 = nI (q + rl isD (tx.drop q))) :=
            ⟨upd F' 3 1, rfl, fr 1, by rw [upd_ne (by decide)]; exact k2, upd_same _ _ _, fun _ => by rw [upd_ne (by decide)]; exact e3, fun _ => by rw [upd_ne (by decide)]; exact e2⟩
          by_cases z : rl isD (tx.drop q) = 1 ∨ (rl isD (tx.drop q) = 2 ∧ c ≠ 48)
          · rw [if_pos z]
            obtain ⟨v1, v2⟩ := nk.1.mpr z
            have z2 : ¬ (99 : Int32) < nI (vM 0 (tx.drop q)) := nI_nlt (b := vM 0 (tx.drop q)) (a := 99) (by omega) (by omega)
            rw [if_neg z2]
            by_cases w : c = 48
            · have w2 : nI c = (48 : Int32) := by rw [w]; rfl
              have w3 : nI (rl isD (tx.drop q)) ≤ (1 : Int32) := nI_le (b := 1) (by omega) (by decide)
              rw [if_pos w2, if_pos w3]; exact good
            · have w2 : ¬ nI c = (48 : Int32) := fun e => w ((nI_lit (k := 48) c256 (by decide)).mp e)
              rw [if_neg w2]; exact good
          · rw [if_neg z]
            by_cases w : 99 < vM 0 (tx.drop q)
            · have w2 : (99 : Int32) < nI (vM 0 (tx.drop q)) := nI_lt (a := 99) w (by omega)
              rw [if_pos w2]; exact bad
            · have w2 : ¬ (99 : Int32) < nI (vM 0 (tx.drop q)) := nI_nlt (b := vM 0 (tx.drop q)) (a := 99) (by omega) (by omega)
              have w4 : c = 48 ∧ 1 < rl isD (tx.drop q) := by
                by_cases y : c = 48 ∧ 1 < rl isD (tx.drop q)
                · exact y
                · exact absurd (nk.1.mp ⟨w, y⟩) z
              have w5 : nI c = (48 : Int32) := by rw [w4.1]; rfl
              have w6 : ¬ nI (rl isD (tx.drop q)) ≤ (1 : Int32) := nI_ge (a := 1) w4.2 (by omega)
              rw [if_neg w2, if_pos w5, if_neg w6]; exact bad
      · rw [if_pos rfl, if_neg n1, if_pos rfl]
        have hcl := isL_iff.mp c2
        obtain ⟨F', e1, e2, e3⟩ := m_lt ht (T := T) (x1 := nI c) (tx.length - q) q 1000 G (by omega) (by omega) ux u1
        have hr := rl_le isL (tx.drop q)
        rw [List.length_drop] at hr
        have k2 : F' 2 = nI q := by rw [e3 2 (by decide)]; exact u2
        rw [e1]
        unfold tml f_X11_next_109
        rw [e2, k2, pk_sub (by omega), show q + rl isL (tx.drop q) - q = rl isL (tx.drop q) by omega]
        have fr : ∀ (y : Int32) (k : Nat), k ≠ 1 → k ≠ 2 → k ≠ 3 → k ≠ 4 → upd F' 3 y k = F k := fun y k a b c d => by rw [upd_ne c, e3 k a, uk k b d]
        by_cases z : rl isL (tx.drop q) = 1
        · have z2 : nI (rl isL (tx.drop q)) = (1 : Int32) := by rw [z]; rfl
          rw [if_pos z2]
          refine ⟨upd F' 3 (nI c), rfl, fr _, by rw [upd_ne (by decide)]; exact k2, ?_, fun e => (by cases e), fun _ => by rw [upd_ne (by decide)]; exact e2⟩
          rw [upd_same, if_pos z]
          show nI c = nI (if (1 : Nat) = 0 then 3 else if (1 : Nat) = 1 then (if c = 0 then 4 else c) else if (1 : Nat) = 2 then 1 else if (1 : Nat) = 3 then 2 else 4)
          rw [if_neg (show ¬ (1 : Nat) = 0 by decide), if_pos rfl, if_neg (show ¬ c = 0 by omega)]
        · have z2 : ¬ nI (rl isL (tx.drop q)) = (1 : Int32) := fun e => z ((nI_eq (b := 1) (by omega) (by decide)).mp e)
          rw [if_neg z2]
          refine ⟨upd F' 3 4, rfl, fr _, by rw [upd_ne (by decide)]; exact k2, ?_, fun e => (by cases e), fun _ => by rw [upd_ne (by decide)]; exact e2⟩
          rw [upd_same, if_neg z]
          rfl
theorem m_tok {tx : List Nat} (ht : xOK tx) {A : ZA} {T : Int64} : ∀ (m p n : Nat) (F : ZF), p + m = tx.length → m < n → TXM tx (F 0) (A 1) → F 1 = nI p → ∃ F', f_X11_next_0 n F A T = some (F', A, T) ∧ (∀ k, k ≠ 1 → k ≠ 2 → k ≠ 3 → k ≠ 4 → F' k = F k) ∧ RQ (tk tx p) F' := by
  have hL := ht.1
  intro m
  induction m with
  | zero =>
    intro p n F hp hn hx h2
    obtain ⟨n, rfl⟩ : ∃ n', n = n' + 1 := ⟨n - 1, by omega⟩
    have hnone : tx[p]? = none := List.getElem?_eq_none_iff.mpr (by omega)
    have e : sk tx p = p := by unfold sk; rw [drop_nil hnone]; rfl
    unfold tk
    rw [e]
    exact m_q ht (by omega) hx h2 n (fun c hc => by rw [hnone] at hc; cases hc)
  | succ m ih =>
    intro p n F hp hn hx h2
    obtain ⟨n, rfl⟩ : ∃ n', n = n' + 1 := ⟨n - 1, by omega⟩
    obtain ⟨c, hc, cm⟩ := l_get (show p < tx.length by omega)
    have c256 := ht.2 c cm
    by_cases q : c = 32
    · have q2 : nI c = (32 : Int32) := by rw [q]; rfl
      have e : sk tx p = sk tx (p + 1) := by unfold sk; rw [drop_at hc, rl_y _ (show isS c = true by simp [isS, q])]; omega
      rw [f_X11_next_0_s, m_here ht hx (by omega) h2, Option.bind_some, ch_s hc, if_pos q2, h2, nI_1]
      unfold tk
      rw [e]
      obtain ⟨F', e1, e2, e3⟩ := ih (p + 1) n (upd F 1 (nI (p + 1))) (by omega) (by omega) (by rw [upd_ne (by decide)]; exact hx) (upd_same _ _ _)
      exact ⟨F', e1, fun k a b c d => by rw [e2 k a b c d, upd_ne a], e3⟩
    · have e : sk tx p = p := by unfold sk; rw [drop_at hc, rl_n _ (show isS c = false by simp [isS, q])]; rfl
      unfold tk
      rw [e]
      exact m_q ht (by omega) hx h2 n (fun c' hc' => by rw [hc] at hc'; cases hc'; exact q)
theorem m_next {tx : List Nat} (ht : xOK tx) {A : ZA} {T : Int64} {p : Nat} (hp : p ≤ tx.length) {F : ZF} (hm : TXM tx (F 0) (A 1)) (h1 : F 1 = nI p) : ∃ F', f_X11_next F A T = some (F', A, T) ∧ (∀ k, k ≠ 1 → k ≠ 2 → k ≠ 3 → k ≠ 4 → F' k = F k) ∧ RQ (tk tx p) F' := by
  have hL := ht.1
  exact m_tok ht (tx.length - p) p 1000 F (by omega) (by omega) hm h1
