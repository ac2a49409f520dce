/-! the reference's rows -/
theorem m_rS {tx : List Nat} (ht : xOK tx) {st : PS} (hs : sOK st) (hm : may 115 st = true) {p : Nat} {F : ZF} {A : ZA} {T : Int64} (hx : TXM tx (F 0) (A 1)) (hq : MS tx (.inr ([], p)) F) (hD : DM st F A) : ∃ F' A', f_X11_readRow (nI 115) F A T = some (F', A', T) ∧ MS tx (itr tx 115 (nS st.1) (due 115 (nS st.1)) (.inr ([], p))) F' ∧ LH A A' ∧ (∀ k, k = 0 ∨ 9 ≤ k → F' k = F k) ∧ ∀ vs p', itr tx 115 (nS st.1) (due 115 (nS st.1)) (.inr ([], p)) = .inr (vs, p') → DM (add 115 st vs) F' A' := by
  have m1 : nS st.1 < 6 := by simpa [may] using hm
  obtain ⟨⟨⟨t0, t1, t2, t3, t4⟩, tg, tf, tmm, ta⟩, h8, h6, h7⟩ := hD
  obtain ⟨v, F1, r1, r2, r3, r4⟩ := m_num ht (c := 115) (n := nS st.1) (l := 0) (h := 20) (T := T) hx hq (fun vs p e => by cases e; exact wi_lit (i := 0) (l := 0) (h := 21) rfl rfl rfl (by decide) (by decide) rfl (by decide))
  unfold f_X11_readRow
  rw [if_pos (show nI 115 = (115 : Int32) from rfl), r1, Option.bind_some, cl1]
  dsimp only
  rw [t0, show (6 : Int32) = nI 6 from rfl, nI_add, if_pos (gok_nI (by omega) (by decide)), nI_clamp (by omega), zst_ne (show (2 : Nat) ≠ 3 by decide), t0, nI_1]
  refine ⟨F1, _, rfl, r2, (LH.z A v (by omega)).trans (LH.z _ _ (by omega)), fun k hk => r3 k (by omega) (by omega) (by omega) (by omega) (by omega), fun vs p' e => ?_⟩
  have e : stp tx 115 (nS st.1) (.inr ([], p)) = .inr (vs, p') := e
  have hv := r4 vs p' e
  obtain ⟨vs0, p0, x, e0, rfl⟩ := stp_inr e
  cases e0
  have hv : v = nI x := by rw [hv]; rfl
  have ev : ([] ++ [x]).getD 0 0 = x := rfl
  show DM (adS st.1 (([] ++ [x]).getD 0 0), st.2) F1 _
  rw [ev, hv]
  refine ⟨⟨⟨?_, ?_, ?_, ?_, ?_⟩, fun s hs' => ?_, tf, tmm, ta⟩, ?_, ?_, ?_⟩
  · rw [zst_same, upd_same]; rfl
  · exact t1
  · exact t2
  · exact t3
  · exact t4
  · have hs' : s < nS st.1 + 1 := hs'
    show zst (zst A 3 (6 + nS st.1) (nI x)) 2 1 (nI (nS st.1 + 1)) 3 (6 + s) = nI (upn (gr st.1) (nS st.1) x s)
    rw [zst_ne (by decide), zst_same]
    by_cases q : s = nS st.1
    · subst q; rw [upd_same, upn_same]
    · rw [upd_ne (by omega), upn_ne q]; exact tg s (by omega)
  · rw [r3 8 (by decide) (by decide) (by decide) (by decide) (by decide)]; exact h8
  · rw [r3 6 (by decide) (by decide) (by decide) (by decide) (by decide)]; exact h6
  · rw [r3 7 (by decide) (by decide) (by decide) (by decide) (by decide)]; exact h7
theorem m_rD {tx : List Nat} (ht : xOK tx) {st : PS} (hs : sOK st) {p : Nat} {F : ZF} {A : ZA} {T : Int64} (hx : TXM tx (F 0) (A 1)) (hq : MS tx (.inr ([], p)) F) (hD : DM st F A) : ∃ F' A', f_X11_readRow (nI 100) F A T = some (F', A', T) ∧ MS tx (itr tx 100 (nS st.1) (due 100 (nS st.1)) (.inr ([], p))) F' ∧ LH A A' ∧ (∀ k, k = 0 ∨ 9 ≤ k → F' k = F k) ∧ ∀ vs p', itr tx 100 (nS st.1) (due 100 (nS st.1)) (.inr ([], p)) = .inr (vs, p') → DM (add 100 st vs) F' A' := by
  obtain ⟨t, h8, h6, h7⟩ := hD
  obtain ⟨v, F1, r1, r2, r3, r4⟩ := m_num ht (c := 100) (n := nS st.1) (l := 0) (h := 60) (T := T) hx hq (fun vs p e => by cases e; exact wi_lit (i := 0) (l := 0) (h := 61) rfl rfl rfl (by decide) (by decide) rfl (by decide))
  unfold f_X11_readRow
  rw [if_neg (show ¬ nI 100 = (115 : Int32) by decide), if_neg (show ¬ nI 100 = (102 : Int32) by decide), if_neg (show ¬ nI 100 = (97 : Int32) by decide), if_neg (show ¬ nI 100 = (116 : Int32) by decide), r1, Option.bind_some]
  dsimp only
  refine ⟨_, A, rfl, MS.fr r2 (fun k hk => by rw [upd_ne (by omega), upd_ne (by omega)]), LH.refl A, fun k hk => by rw [upd_ne (by omega), upd_ne (by omega), r3 k (by omega) (by omega) (by omega) (by omega) (by omega)], fun vs p' e => ?_⟩
  have e : stp tx 100 (nS st.1) (.inr ([], p)) = .inr (vs, p') := e
  have hv := r4 vs p' e
  obtain ⟨vs0, p0, x, e0, rfl⟩ := stp_inr e
  cases e0
  have hv : v = nI x := by rw [hv]; rfl
  show DM (st.1, (st.2.1.1, true), ([] ++ [x]).getD 0 0) _ A
  refine ⟨t, ?_, ?_, ?_⟩
  · rw [upd_ne (by decide), upd_same, hv]; rfl
  · rw [upd_ne (by decide), upd_ne (by decide), r3 6 (by decide) (by decide) (by decide) (by decide) (by decide)]; exact h6
  · rw [upd_same]; rfl
theorem m_rT {tx : List Nat} (ht : xOK tx) {st : PS} (hs : sOK st) {p : Nat} {F : ZF} {A : ZA} {T : Int64} (hx : TXM tx (F 0) (A 1)) (hq : MS tx (.inr ([], p)) F) (hD : DM st F A) : ∃ F' A', f_X11_readRow (nI 116) F A T = some (F', A', T) ∧ MS tx (itr tx 116 (nS st.1) (due 116 (nS st.1)) (.inr ([], p))) F' ∧ LH A A' ∧ (∀ k, k = 0 ∨ 9 ≤ k → F' k = F k) ∧ ∀ vs p', itr tx 116 (nS st.1) (due 116 (nS st.1)) (.inr ([], p)) = .inr (vs, p') → DM (add 116 st vs) F' A' := by
  obtain ⟨⟨⟨t0, t1, t2, t3, t4⟩, tg, tf, tmm, ta⟩, h8, h6, h7⟩ := hD
  obtain ⟨v0, F1, a1, a2, a3, a4⟩ := m_num ht (c := 116) (n := nS st.1) (l := 0) (h := 23) (T := T) hx hq (fun vs p e => by cases e; exact wi_lit (i := 0) (l := 0) (h := 24) rfl rfl rfl (by decide) (by decide) rfl (by decide))
  have x1 : TXM tx (F1 0) (zst A 13 1 v0 1) := by rw [a3 0 (by decide) (by decide) (by decide) (by decide) (by decide), zst_ne (by decide)]; exact hx
  have hp := hq.2.2
  obtain ⟨v1, F2, b1, b2, b3, b4⟩ := m_num ht (c := 116) (n := nS st.1) (l := v0) (h := 23) (T := T) x1 a2 (fun vs p' e => by
    have hv := a4 vs p' e
    have vo := (itr_ok 1 [] p vs p' e hp (fun i hi => absurd hi (Nat.not_lt_zero i))).1
    obtain ⟨vs0, p0, x, e0, rfl⟩ := stp_inr e
    cases e0
    have := (vOK_at vo (i := 0) (by simp)).2
    have hx24 : x < 24 := this
    exact wi_lit (i := 1) (l := x) (h := 24) rfl rfl rfl (by omega) (by decide) (by rw [hv]; rfl) (by decide))
  unfold f_X11_readRow
  rw [if_neg (show ¬ nI 116 = (115 : Int32) by decide), if_neg (show ¬ nI 116 = (102 : Int32) by decide), if_neg (show ¬ nI 116 = (97 : Int32) by decide), if_pos (show nI 116 = (116 : Int32) from rfl), a1, Option.bind_some, cl1]
  dsimp only
  rw [zst_same, upd_same, b1, Option.bind_some]
  dsimp only
  refine ⟨_, _, rfl, MS.fr b2 (fun k hk => by rw [upd_ne (by omega)]), (LH.z A v0 (by omega)).trans (LH.z _ _ (by omega)), fun k hk => by rw [upd_ne (by omega), b3 k (by omega) (by omega) (by omega) (by omega) (by omega), a3 k (by omega) (by omega) (by omega) (by omega) (by omega)], fun vs p' e => ?_⟩
  have e : stp tx 116 (nS st.1) (stp tx 116 (nS st.1) (.inr ([], p))) = .inr (vs, p') := e
  have hv1 := b4 vs p' e
  obtain ⟨vs1, p1, y, e1, rfl⟩ := stp_inr e
  have hv0 := a4 vs1 p1 e1
  obtain ⟨vs0, p0, x, e0, rfl⟩ := stp_inr e1
  cases e0
  have hv0 : v0 = nI x := by rw [hv0]; rfl
  have hv1 : v1 = nI y := by rw [hv1]; rfl
  show DM (adT st.1 ([x] ++ [y]), (true, st.2.1.2), st.2.2) _ _
  rw [hv0, hv1]
  refine ⟨⟨⟨?_, ?_, ?_, ?_, ?_⟩, tg, tf, tmm, ta⟩, ?_, ?_, ?_⟩
  · exact t0
  · exact t1
  · exact t2
  · rw [zst_ne (by decide), zst_same, upd_same]; rfl
  · rw [zst_same, upd_same]; rfl
  · rw [upd_ne (by decide), b3 8 (by decide) (by decide) (by decide) (by decide) (by decide), a3 8 (by decide) (by decide) (by decide) (by decide) (by decide)]; exact h8
  · rw [upd_same]; rfl
  · rw [upd_ne (by decide), b3 7 (by decide) (by decide) (by decide) (by decide) (by decide), a3 7 (by decide) (by decide) (by decide) (by decide) (by decide)]; exact h7
theorem m_rA {tx : List Nat} (ht : xOK tx) {st : PS} (hs : sOK st) (hm : may 97 st = true) {p : Nat} {F : ZF} {A : ZA} {T : Int64} (hx : TXM tx (F 0) (A 1)) (hq : MS tx (.inr ([], p)) F) (hD : DM st F A) : ∃ F' A', f_X11_readRow (nI 97) F A T = some (F', A', T) ∧ MS tx (itr tx 97 (nS st.1) (due 97 (nS st.1)) (.inr ([], p))) F' ∧ LH A A' ∧ (∀ k, k = 0 ∨ 9 ≤ k → F' k = F k) ∧ ∀ vs p', itr tx 97 (nS st.1) (due 97 (nS st.1)) (.inr ([], p)) = .inr (vs, p') → DM (add 97 st vs) F' A' := by
  have m1 : nA st.1 < 8 := by simpa [may] using hm
  have hS := hs.1.1.1
  obtain ⟨⟨⟨t0, t1, t2, t3, t4⟩, tg, tf, tmm, ta⟩, h8, h6, h7⟩ := hD
  have hp := hq.2.2
  obtain ⟨v0, F1, a1, a2, a3, a4⟩ := m_num ht (c := 97) (n := nS st.1) (l := 0) (h := nI (nS st.1) - 1) (T := T) hx hq (fun vs p e => by cases e; exact wi_lit (i := 0) (l := 0) (h := nS st.1) rfl rfl rfl (by decide) (by omega) rfl rfl)
  have x1 : TXM tx (F1 0) (zst A 9 (8 + nA st.1) v0 1) := by rw [a3 0 (by decide) (by decide) (by decide) (by decide) (by decide), zst_ne (by decide)]; exact hx
  obtain ⟨v1, F2, b1, b2, b3, b4⟩ := m_num ht (c := 97) (n := nS st.1) (l := 0) (h := 3) (T := T) x1 a2 (fun vs p' e => by
    obtain ⟨vs0, p0, x, e0, rfl⟩ := stp_inr e
    cases e0
    exact wi_lit (i := 1) (l := 0) (h := 4) rfl rfl rfl (by decide) (by decide) rfl (by decide))
  have x2 : TXM tx (F2 0) (zst (zst A 9 (8 + nA st.1) v0) 10 (8 + nA st.1) v1 1) := by rw [b3 0 (by decide) (by decide) (by decide) (by decide) (by decide), zst_ne (by decide)]; exact x1
  obtain ⟨v2, F3, c1, c2, c3, c4⟩ := m_num ht (c := 97) (n := nS st.1) (l := 0) (h := 23) (T := T) x2 b2 (fun vs p' e => by
    obtain ⟨vs1, p1, y, e1, rfl⟩ := stp_inr e
    obtain ⟨vs0, p0, x, e0, rfl⟩ := stp_inr e1
    cases e0
    exact wi_lit (i := 2) (l := 0) (h := 24) rfl rfl rfl (by decide) (by decide) rfl (by decide))
  have x3 : TXM tx (F3 0) (zst (zst (zst A 9 (8 + nA st.1) v0) 10 (8 + nA st.1) v1) 11 (8 + nA st.1) v2 1) := by rw [c3 0 (by decide) (by decide) (by decide) (by decide) (by decide), zst_ne (by decide)]; exact x2
  obtain ⟨v3, F4, d1, d2, d3, d4⟩ := m_num ht (c := 97) (n := nS st.1) (l := v2) (h := 23) (T := T) x3 c2 (fun vs p' e => by
    have hv := c4 vs p' e
    have vo := (itr_ok 3 [] p vs p' e hp (fun i hi => absurd hi (Nat.not_lt_zero i))).1
    obtain ⟨vs2, p2, z, e2, rfl⟩ := stp_inr e
    obtain ⟨vs1, p1, y, e1, rfl⟩ := stp_inr e2
    obtain ⟨vs0, p0, x, e0, rfl⟩ := stp_inr e1
    cases e0
    have := (vOK_at vo (i := 2) (by simp)).2
    have hz24 : z < 24 := this
    exact wi_lit (i := 3) (l := z) (h := 24) rfl rfl rfl (by omega) (by decide) (by rw [hv]; rfl) (by decide))
  have g : gok (nI (8 + nA st.1)) 16 = true := gok_nI (by omega) (by decide)
  unfold f_X11_readRow
  rw [if_neg (show ¬ nI 97 = (115 : Int32) by decide), if_neg (show ¬ nI 97 = (102 : Int32) by decide), if_pos (show nI 97 = (97 : Int32) from rfl), cl1, t0, a1, Option.bind_some]
  dsimp only
  rw [t2, show (8 : Int32) = nI 8 from rfl, nI_add, if_pos g, nI_clamp (by omega), b1, Option.bind_some]
  dsimp only
  rw [if_pos g, c1, Option.bind_some]
  dsimp only
  rw [if_pos g, if_pos g, zst_same, upd_same, d1, Option.bind_some]
  dsimp only
  rw [if_pos g]
  have e8 : zst (zst (zst (zst A 9 (8 + nA st.1) v0) 10 (8 + nA st.1) v1) 11 (8 + nA st.1) v2) 12 (8 + nA st.1) v3 8 1 = nI (nA st.1) := by
    rw [zst_ne (by decide), zst_ne (by decide), zst_ne (by decide), zst_ne (by decide)]; exact t2
  rw [e8, nI_1]
  refine ⟨F4, _, rfl, d2, (((((LH.z A v0 (by omega)).trans (LH.z _ v1 (by omega))).trans (LH.z _ v2 (by omega))).trans (LH.z _ v3 (by omega))).trans (LH.z _ _ (by omega))), fun k hk => by rw [d3 k (by omega) (by omega) (by omega) (by omega) (by omega), c3 k (by omega) (by omega) (by omega) (by omega) (by omega), b3 k (by omega) (by omega) (by omega) (by omega) (by omega), a3 k (by omega) (by omega) (by omega) (by omega) (by omega)], fun vs p' e => ?_⟩
  have e : stp tx 97 (nS st.1) (stp tx 97 (nS st.1) (stp tx 97 (nS st.1) (stp tx 97 (nS st.1) (.inr ([], p))))) = .inr (vs, p') := e
  have hv3 := d4 vs p' e
  obtain ⟨vs3, p3, w, e3, rfl⟩ := stp_inr e
  have hv2 := c4 vs3 p3 e3
  obtain ⟨vs2, p2, z, e2, rfl⟩ := stp_inr e3
  have hv1 := b4 vs2 p2 e2
  obtain ⟨vs1, p1, y, e1, rfl⟩ := stp_inr e2
  have hv0 := a4 vs1 p1 e1
  obtain ⟨vs0, p0, x, e0, rfl⟩ := stp_inr e1
  cases e0
  have hv0 : v0 = nI x := by rw [hv0]; rfl
  have hv1 : v1 = nI y := by rw [hv1]; rfl
  have hv2 : v2 = nI z := by rw [hv2]; rfl
  have hv3 : v3 = nI w := by rw [hv3]; rfl
  show DM (adA st.1 ([x] ++ [y] ++ [z] ++ [w]), st.2) F4 _
  rw [hv0, hv1, hv2, hv3]
  refine ⟨⟨⟨?_, ?_, ?_, ?_, ?_⟩, ?_, ?_, ?_, fun a ha => ?_⟩, ?_, ?_, ?_⟩
  · exact t0
  · exact t1
  · rw [zst_same, upd_same]; rfl
  · exact t3
  · exact t4
  · exact tg
  · exact tf
  · exact tmm
  · have ha : a < nA st.1 + 1 := ha
    show zst (zst (zst (zst (zst A 9 (8 + nA st.1) (nI x)) 10 (8 + nA st.1) (nI y)) 11 (8 + nA st.1) (nI z)) 12 (8 + nA st.1) (nI w)) 8 1 (nI (nA st.1 + 1)) 9 (8 + a) = nI (upn (wh st.1) (nA st.1) x a) ∧ zst (zst (zst (zst (zst A 9 (8 + nA st.1) (nI x)) 10 (8 + nA st.1) (nI y)) 11 (8 + nA st.1) (nI z)) 12 (8 + nA st.1) (nI w)) 8 1 (nI (nA st.1 + 1)) 10 (8 + a) = nI (upn (pl st.1) (nA st.1) y a) ∧ zst (zst (zst (zst (zst A 9 (8 + nA st.1) (nI x)) 10 (8 + nA st.1) (nI y)) 11 (8 + nA st.1) (nI z)) 12 (8 + nA st.1) (nI w)) 8 1 (nI (nA st.1 + 1)) 11 (8 + a) = nI (upn (fm st.1) (nA st.1) z a) ∧ zst (zst (zst (zst (zst A 9 (8 + nA st.1) (nI x)) 10 (8 + nA st.1) (nI y)) 11 (8 + nA st.1) (nI z)) 12 (8 + nA st.1) (nI w)) 8 1 (nI (nA st.1 + 1)) 12 (8 + a) = nI (upn (tt st.1) (nA st.1) w a)
    rw [zst_ne (show (9 : Nat) ≠ 8 by decide), zst_ne (show (10 : Nat) ≠ 8 by decide), zst_ne (show (11 : Nat) ≠ 8 by decide), zst_ne (show (12 : Nat) ≠ 8 by decide), zst_same, zst_ne (show (9 : Nat) ≠ 12 by decide), zst_ne (show (10 : Nat) ≠ 12 by decide), zst_ne (show (11 : Nat) ≠ 12 by decide), zst_same, zst_ne (show (9 : Nat) ≠ 11 by decide), zst_ne (show (10 : Nat) ≠ 11 by decide), zst_same, zst_ne (show (9 : Nat) ≠ 10 by decide), zst_same, zst_ne (show (12 : Nat) ≠ 11 by decide), zst_ne (show (12 : Nat) ≠ 10 by decide), zst_ne (show (12 : Nat) ≠ 9 by decide), zst_ne (show (11 : Nat) ≠ 10 by decide), zst_ne (show (11 : Nat) ≠ 9 by decide), zst_ne (show (10 : Nat) ≠ 9 by decide)]
    by_cases q : a = nA st.1
    · subst q; rw [upd_same, upd_same, upd_same, upd_same, upn_same, upn_same, upn_same, upn_same]; exact ⟨rfl, rfl, rfl, rfl⟩
    · rw [upd_ne (by omega), upd_ne (by omega), upd_ne (by omega), upd_ne (by omega), upn_ne q, upn_ne q, upn_ne q, upn_ne q]; exact ta a (by omega)
  · rw [d3 8 (by decide) (by decide) (by decide) (by decide) (by decide), c3 8 (by decide) (by decide) (by decide) (by decide) (by decide), b3 8 (by decide) (by decide) (by decide) (by decide) (by decide), a3 8 (by decide) (by decide) (by decide) (by decide) (by decide)]; exact h8
  · rw [d3 6 (by decide) (by decide) (by decide) (by decide) (by decide), c3 6 (by decide) (by decide) (by decide) (by decide) (by decide), b3 6 (by decide) (by decide) (by decide) (by decide) (by decide), a3 6 (by decide) (by decide) (by decide) (by decide) (by decide)]; exact h6
  · rw [d3 7 (by decide) (by decide) (by decide) (by decide) (by decide), c3 7 (by decide) (by decide) (by decide) (by decide) (by decide), b3 7 (by decide) (by decide) (by decide) (by decide) (by decide), a3 7 (by decide) (by decide) (by decide) (by decide) (by decide)]; exact h7
/-! a fact: what it moves whom -/
theorem mvN_app {d : ZD} {vs : List Nat} {x s : Nat} (h : s < nS d → 2 + s < vs.length) : mvN d (vs ++ [x]) s = mvN d vs s := by
  unfold mvN
  by_cases q : s < nS d
  · rw [if_pos q, if_pos q, getD_app (h q)]
  · rw [if_neg q, if_neg q]
theorem m_rf38 {tx : List Nat} (ht : xOK tx) {d : ZD} (hS : nS d ≤ 6) (hN : nF d < 8) {T : Int64} : ∀ (m j w : Nat) (s : RS) (F : ZF) (A : ZA), j + m = 6 → m < w → TXM tx (F 0) (A 1) → MS tx s F → A 2 1 = nI (nS d) → (∀ vs p, s = .inr (vs, p) → (vs.length = 2 + (if j ≤ nS d then j else nS d) ∧ ∀ j, vs.getD j 0 ≤ 99) ∧ ∀ i, i < j → A 7 (48 + 6 * nF d + i) = Int32.ofInt (mvN d vs i)) → ∃ F' A', f_X11_readFact_38 w (nI (8 + nF d)) (nI j) F A T = some (F', A', T) ∧ MS tx (itr tx 102 (nS d) (nS d - j) s) F' ∧ (∀ vs p, itr tx 102 (nS d) (nS d - j) s = .inr (vs, p) → ∀ i, i < 6 → A' 7 (48 + 6 * nF d + i) = Int32.ofInt (mvN d vs i)) ∧ (∀ k, k ≠ 4 → k ≠ 7 → A' k = A k) ∧ A' 4 = upd (A 4) 1 (A 4 1 + 1) ∧ (∀ i, i < 48 + 6 * nF d → A' 7 i = A 7 i) ∧ ∀ k, k ≠ 1 → k ≠ 2 → k ≠ 3 → k ≠ 4 → k ≠ 5 → F' k = F k := by
  intro m
  induction m with
  | zero =>
    intro j w s F A hj hw hx hs h2 hI
    obtain ⟨w, rfl⟩ : ∃ w', w = w' + 1 := ⟨w - 1, by omega⟩
    have e : j = 6 := by omega
    subst e
    rw [f_X11_readFact_38_s, if_pos (show (6 : Int32) ≤ nI 6 by decide), cl1, show nS d - 6 = 0 by omega]
    refine ⟨F, _, rfl, hs, fun vs p e i hi => ?_, fun k a b => zst_ne a _ _, zst_same _ _ _ _, fun i _ => by rw [zst_ne (by decide)], fun k _ _ _ _ _ => rfl⟩
    rw [zst_ne (by decide)]; exact (hI vs p e).2 i hi
  | succ m ih =>
    intro j w s F A hj hw hx hs h2 hI
    obtain ⟨w, rfl⟩ : ∃ w', w = w' + 1 := ⟨w - 1, by omega⟩
    have c6 : ¬ (6 : Int32) ≤ nI j := nI_ge (b := 6) (by omega) (by decide)
    have ix : (6 : Int32) * nI (8 + nF d) + nI j = nI (48 + 6 * nF d + j) := by
      rw [show (6 : Int32) = nI 6 from rfl, pk_mul, nI_add]; congr 1; omega
    have g : gok (nI (48 + 6 * nF d + j)) 96 = true := gok_nI (by omega) (by decide)
    rw [f_X11_readFact_38_s, if_neg c6, cl1, h2, ix]
    -- after a value is written
    have go : ∀ (y : Int32) (s1 : RS) (F1 : ZF), itr tx 102 (nS d) (nS d - (j + 1)) s1 = itr tx 102 (nS d) (nS d - j) s → MS tx s1 F1 → (∀ k, k ≠ 1 → k ≠ 2 → k ≠ 3 → k ≠ 4 → k ≠ 5 → F1 k = F k) → (∀ vs p, s1 = .inr (vs, p) → (vs.length = 2 + (if j + 1 ≤ nS d then j + 1 else nS d) ∧ ∀ j, vs.getD j 0 ≤ 99) ∧ y = Int32.ofInt (mvN d vs j) ∧ ∀ i, i < j → A 7 (48 + 6 * nF d + i) = Int32.ofInt (mvN d vs i)) → ∃ F' A', f_X11_readFact_78 (f_X11_readFact_38 w) (nI (8 + nF d)) (nI j) y (nI (48 + 6 * nF d + j)) F1 A T = some (F', A', T) ∧ MS tx (itr tx 102 (nS d) (nS d - j) s) F' ∧ (∀ vs p, itr tx 102 (nS d) (nS d - j) s = .inr (vs, p) → ∀ i, i < 6 → A' 7 (48 + 6 * nF d + i) = Int32.ofInt (mvN d vs i)) ∧ (∀ k, k ≠ 4 → k ≠ 7 → A' k = A k) ∧ A' 4 = upd (A 4) 1 (A 4 1 + 1) ∧ (∀ i, i < 48 + 6 * nF d → A' 7 i = A 7 i) ∧ ∀ k, k ≠ 1 → k ≠ 2 → k ≠ 3 → k ≠ 4 → k ≠ 5 → F' k = F k := by
      intro y s1 F1 ei hs1 hF hI1
      unfold f_X11_readFact_78
      rw [if_pos g, nI_clamp (by omega), nI_1]
      obtain ⟨F', A', r1, r2, r3, r4, r5, r6, r7⟩ := ih (j + 1) w s1 F1 (zst A 7 (48 + 6 * nF d + j) y) (by omega) (by omega) (by rw [hF 0 (by decide) (by decide) (by decide) (by decide) (by decide), zst_ne (by decide)]; exact hx) hs1 (by rw [zst_ne (by decide)]; exact h2) (fun vs p e => by
        obtain ⟨q1, q2, q3⟩ := hI1 vs p e
        refine ⟨q1, fun i hi => ?_⟩
        rw [zst_same]
        by_cases q : i = j
        · subst q; rw [upd_same]; exact q2
        · rw [upd_ne (by omega)]; exact q3 i (by omega))
      rw [ei] at r2 r3
      refine ⟨F', A', r1, r2, r3, fun k a b => by rw [r4 k a b, zst_ne b], by rw [r5, zst_ne (by decide)], fun i hi => by rw [r6 i hi, zst_same, upd_ne (by omega)], fun k a b c d e => by rw [r7 k a b c d e, hF k a b c d e]⟩
    by_cases q : nS d ≤ j
    · rw [if_pos (nI_le q (by omega))]
      refine go 0 s F (by rw [show nS d - (j + 1) = 0 by omega, show nS d - j = 0 by omega]) hs (fun k _ _ _ _ _ => rfl) (fun vs p e => ?_)
      obtain ⟨⟨l1, l3⟩, l2⟩ := hI vs p e
      refine ⟨⟨?_, l3⟩, ?_, l2⟩
      · rw [l1]
        split <;> split <;> omega
      · unfold mvN; rw [if_neg (by omega)]; rfl
    · rw [if_neg (nI_ge (by omega) (by omega))]
      obtain ⟨v, F1, a1, a2, a3, a4⟩ := m_num ht (c := 102) (n := nS d) (l := 0) (h := 18) (T := T) hx hs (fun vs p e => by
        have l1 := (hI vs p e).1.1
        rw [if_pos (by omega)] at l1
        refine wi_lit (i := 2 + j) (l := 0) (h := 19) ?_ ?_ l1 (by decide) (by decide) rfl (by decide)
        · unfold lo; rw [if_neg (by omega), if_neg (by omega), if_neg (by omega)]
        · unfold hi; rw [if_neg (by decide), if_pos rfl, if_neg (by omega), if_neg (by omega)])
      rw [a1, Option.bind_some]
      dsimp only
      refine go (v - 9) (stp tx 102 (nS d) s) F1 (by rw [show nS d - j = nS d - (j + 1) + 1 by omega]; rfl) a2 a3 (fun vs p e => ?_)
      have hv := a4 vs p e
      cases s with
      | inl q => cases e
      | inr t =>
        obtain ⟨vs0, p0⟩ := t
        by_cases z : (tk tx p0).1.1 = 2 ∧ okv 102 (nS d) vs0 (tk tx p0).1.2 = true
        · rw [stp_y z] at e
          cases e
          obtain ⟨⟨l1, l3⟩, l2⟩ := hI vs0 p0 rfl
          rw [if_pos (by omega)] at l1
          have x99 : (tk tx p0).1.2 ≤ 99 := (tk_next hs.2.2).2.2.2.2.2 z.1
          rw [List.length_append, List.length_singleton, Nat.add_sub_cancel, getD_last] at hv
          refine ⟨⟨by rw [List.length_append, List.length_singleton, l1, if_pos (by omega)]; omega, fun i => ?_⟩, ?_, fun i hi => ?_⟩
          · rcases Nat.lt_trichotomy i vs0.length with h | h | h
            · rw [getD_app h]; exact l3 i
            · subst h; rw [getD_last]; exact x99
            · rw [List.getD_eq_getElem?_getD, List.getElem?_eq_none_iff.mpr (by rw [List.length_append, List.length_singleton]; omega)]; exact Nat.zero_le _
          · rw [hv]
            unfold mvN
            rw [if_pos (by omega), ← l1, getD_last]
            exact of_sub x99
          · rw [mvN_app (fun _ => by omega)]; exact l2 i hi
        · rw [stp_n z] at e; cases e
theorem m_rF {tx : List Nat} (ht : xOK tx) {st : PS} (hs : sOK st) (hm : may 102 st = true) {p : Nat} {F : ZF} {A : ZA} {T : Int64} (hx : TXM tx (F 0) (A 1)) (hq : MS tx (.inr ([], p)) F) (hD : DM st F A) : ∃ F' A', f_X11_readRow (nI 102) F A T = some (F', A', T) ∧ MS tx (itr tx 102 (nS st.1) (due 102 (nS st.1)) (.inr ([], p))) F' ∧ LH A A' ∧ (∀ k, k = 0 ∨ 9 ≤ k → F' k = F k) ∧ ∀ vs p', itr tx 102 (nS st.1) (due 102 (nS st.1)) (.inr ([], p)) = .inr (vs, p') → DM (add 102 st vs) F' A' := by
  have m1 : nF st.1 < 8 := by simpa [may] using hm
  have hS := hs.1.1.1
  have hp := hq.2.2
  obtain ⟨⟨⟨t0, t1, t2, t3, t4⟩, tg, tf, tmm, ta⟩, h8, h6, h7⟩ := hD
  obtain ⟨v0, F1, a1, a2, a3, a4⟩ := m_num ht (c := 102) (n := nS st.1) (l := 1) (h := 9) (T := T) hx hq (fun vs p e => by cases e; exact wi_lit (i := 0) (l := 1) (h := 10) rfl rfl rfl (by decide) (by decide) rfl (by decide))
  have x1 : TXM tx (F1 0) (zst A 5 (8 + nF st.1) v0 1) := by rw [a3 0 (by decide) (by decide) (by decide) (by decide) (by decide), zst_ne (by decide)]; exact hx
  obtain ⟨v1, F2, b1, b2, b3, b4⟩ := m_num ht (c := 102) (n := nS st.1) (l := 0) (h := 10) (T := T) x1 a2 (fun vs p' e => by
    obtain ⟨vs0, p0, x, e0, rfl⟩ := stp_inr e
    cases e0
    exact wi_lit (i := 1) (l := 0) (h := 11) rfl rfl rfl (by decide) (by decide) rfl (by decide))
  have x2 : TXM tx (F2 0) (zst (zst A 5 (8 + nF st.1) v0) 6 (8 + nF st.1) v1 1) := by rw [b3 0 (by decide) (by decide) (by decide) (by decide) (by decide), zst_ne (by decide)]; exact x1
  obtain ⟨F3, A3, c1, c2, c3, c4, c5, c6, c7⟩ := m_rf38 ht hS m1 (T := T) 6 0 1000 (stp tx 102 (nS st.1) (stp tx 102 (nS st.1) (.inr ([], p)))) F2 (zst (zst A 5 (8 + nF st.1) v0) 6 (8 + nF st.1) v1) (by omega) (by omega) x2 b2 (by rw [zst_ne (by decide), zst_ne (by decide)]; exact t0) (fun vs p' e => by
    have vo := (itr_ok 2 [] p vs p' e hp (fun i hi => absurd hi (Nat.not_lt_zero i))).1
    obtain ⟨vs1, p1, y, e1, rfl⟩ := stp_inr e
    obtain ⟨vs0, p0, x, e0, rfl⟩ := stp_inr e1
    cases e0
    have k0 : x < 10 := (vOK_at vo (i := 0) (by simp)).2
    have k1 : y < 11 := (vOK_at vo (i := 1) (by simp)).2
    refine ⟨⟨by rw [if_pos (Nat.zero_le _)]; rfl, fun j => ?_⟩, fun i hi => absurd hi (Nat.not_lt_zero i)⟩
    rcases (show j = 0 ∨ j = 1 ∨ 2 ≤ j by omega) with rfl | rfl | h
    · show x ≤ 99; omega
    · show y ≤ 99; omega
    · rw [List.getD_eq_getElem?_getD, List.getElem?_eq_none_iff.mpr h]; exact Nat.zero_le _)
  have g : gok (nI (8 + nF st.1)) 16 = true := gok_nI (by omega) (by decide)
  have ed : itr tx 102 (nS st.1) (due 102 (nS st.1)) (.inr ([], p)) = itr tx 102 (nS st.1) (nS st.1 - 0) (stp tx 102 (nS st.1) (stp tx 102 (nS st.1) (.inr ([], p)))) := by
    show itr tx 102 (nS st.1) (2 + nS st.1) (.inr ([], p)) = _
    rw [show 2 + nS st.1 = (nS st.1 - 0) + 1 + 1 by omega]; rfl
  rw [ed]
  have c1 : f_X11_readFact_38 1000 (nI (8 + nF st.1)) (0 : Int32) F2 (zst (zst A 5 (8 + nF st.1) v0) 6 (8 + nF st.1) v1) T = _ := c1
  have hf : f_X11_readFact F A T = some (F3, A3, T) := by
    unfold f_X11_readFact
    rw [a1, Option.bind_some, cl1]
    dsimp only
    rw [t1, show (8 : Int32) = nI 8 from rfl, nI_add, if_pos g, nI_clamp (by omega), b1, Option.bind_some, if_pos g]
    dsimp only
    exact c1
  unfold f_X11_readRow
  rw [if_neg (show ¬ nI 102 = (115 : Int32) by decide), if_pos (show nI 102 = (102 : Int32) from rfl), hf, Option.bind_some]
  have e4 : ∀ i, A3 4 i = if i = 1 then nI (nF st.1 + 1) else A 4 i := by
    intro i
    rw [c5, zst_ne (show (4 : Nat) ≠ 6 by decide), zst_ne (show (4 : Nat) ≠ 5 by decide), t1, nI_1]
    by_cases q : i = 1
    · subst q; rw [upd_same, if_pos rfl]
    · rw [upd_ne q, if_neg q]
  have ek : ∀ k, k ≠ 4 → k ≠ 7 → k ≠ 5 → k ≠ 6 → A3 k = A k := fun k a b c d => by rw [c4 k a b, zst_ne d, zst_ne c]
  have e5 : A3 5 = upd (A 5) (8 + nF st.1) v0 := by rw [c4 5 (by decide) (by decide), zst_ne (by decide), zst_same]
  have e6 : A3 6 = upd (A 6) (8 + nF st.1) v1 := by rw [c4 6 (by decide) (by decide), zst_same, zst_ne (by decide)]
  have e7 : ∀ i, i < 48 + 6 * nF st.1 → A3 7 i = A 7 i := fun i hi => by rw [c6 i hi, zst_ne (by decide), zst_ne (by decide)]
  have fF : ∀ k, k ≠ 1 → k ≠ 2 → k ≠ 3 → k ≠ 4 → k ≠ 5 → F3 k = F k := fun k a b c d e => by rw [c7 k a b c d e, b3 k a b c d e, a3 k a b c d e]
  refine ⟨F3, A3, rfl, c2, ⟨fun k hk => ek k (by omega) (by omega) (by omega) (by omega), fun k hk => ?_, fun i hi => by rw [ek 3 (by decide) (by decide) (by decide) (by decide)], fun k hk i hi => ?_, fun i hi => e7 i (by omega)⟩, fun k hk => fF k (by omega) (by omega) (by omega) (by omega) (by omega), fun vs p' e => ?_⟩
  · by_cases q : k = 4
    · subst q; rw [e4, if_neg (by decide)]
    · rw [ek k q (by omega) (by omega) (by omega)]
  · by_cases q : k = 5
    · subst q; rw [e5, upd_ne (by omega)]
    · by_cases q2 : k = 6
      · subst q2; rw [e6, upd_ne (by omega)]
      · rw [ek k (by omega) (by omega) q q2]
  · have hmv := c3 vs p' e
    -- the first two values
    have two : ∃ x y, v0 = nI x ∧ v1 = nI y ∧ vs.getD 0 0 = x ∧ vs.getD 1 0 = y := by
      have hne : ∃ vs2 p2, stp tx 102 (nS st.1) (stp tx 102 (nS st.1) (.inr ([], p))) = .inr (vs2, p2) := by
        cases hst : stp tx 102 (nS st.1) (stp tx 102 (nS st.1) (.inr ([], p))) with
        | inl q => rw [hst, itr_inl] at e; cases e
        | inr t => exact ⟨t.1, t.2, rfl⟩
      obtain ⟨vs2, p2, h2⟩ := hne
      have hv1 := b4 vs2 p2 h2
      have pre : ∀ (m : Nat) (us : List Nat) (q : Nat) (us' : List Nat) (q' : Nat), itr tx 102 (nS st.1) m (.inr (us, q)) = .inr (us', q') → ∀ i, i < us.length → us'.getD i 0 = us.getD i 0 := by
        intro m
        induction m with
        | zero => intro us q us' q' h i hi; cases h; rfl
        | succ m ih =>
          intro us q us' q' h i hi
          have h : itr tx 102 (nS st.1) m (stp tx 102 (nS st.1) (.inr (us, q))) = .inr (us', q') := h
          by_cases z : (tk tx q).1.1 = 2 ∧ okv 102 (nS st.1) us (tk tx q).1.2 = true
          · rw [stp_y z] at h
            rw [ih _ _ _ _ h i (by rw [List.length_append]; omega), getD_app hi]
          · rw [stp_n z, itr_inl] at h; cases h
      rw [h2] at e
      have pr2 := pre _ _ _ _ _ e
      obtain ⟨vs1, p1, y, e1, rfl⟩ := stp_inr h2
      have hv0 := a4 vs1 p1 e1
      obtain ⟨vs0, p0, x, e0, rfl⟩ := stp_inr e1
      cases e0
      exact ⟨x, y, by rw [hv0]; rfl, by rw [hv1]; rfl, pr2 0 (by simp), pr2 1 (by simp)⟩
    obtain ⟨x, y, hx0, hy1, gx, gy⟩ := two
    show DM (adF st.1 vs, st.2) F3 A3
    refine ⟨⟨⟨?_, ?_, ?_, ?_, ?_⟩, fun s hs' => ?_, fun f hf' => ?_, fun f hf' s hs' => ?_, fun a ha => ?_⟩, ?_, ?_, ?_⟩
    · rw [ek 2 (by decide) (by decide) (by decide) (by decide)]; exact t0
    · rw [e4, if_pos rfl]; rfl
    · rw [ek 8 (by decide) (by decide) (by decide) (by decide)]; exact t2
    · rw [ek 13 (by decide) (by decide) (by decide) (by decide)]; exact t3
    · rw [ek 14 (by decide) (by decide) (by decide) (by decide)]; exact t4
    · rw [ek 3 (by decide) (by decide) (by decide) (by decide)]; exact tg s hs'
    · have hf' : f < nF st.1 + 1 := hf'
      show A3 5 (8 + f) = nI (upn (co st.1) (nF st.1) (vs.getD 0 0) f) ∧ A3 6 (8 + f) = nI (upn (tr st.1) (nF st.1) (vs.getD 1 0) f)
      rw [e5, e6, gx, gy]
      by_cases q : f = nF st.1
      · subst q; rw [upd_same, upd_same, upn_same, upn_same]; exact ⟨hx0, hy1⟩
      · rw [upd_ne (by omega), upd_ne (by omega), upn_ne q, upn_ne q]; exact tf f (by omega)
    · have hf' : f < nF st.1 + 1 := hf'
      show A3 7 (48 + 6 * f + s) = Int32.ofInt (if f = nF st.1 then mvN st.1 vs s else mv st.1 f s)
      by_cases q : f = nF st.1
      · subst q; rw [if_pos rfl]; exact hmv s hs'
      · rw [if_neg q, e7 _ (by omega)]; exact tmm f (by omega) s hs'
    · rw [ek 9 (by decide) (by decide) (by decide) (by decide), ek 10 (by decide) (by decide) (by decide) (by decide), ek 11 (by decide) (by decide) (by decide) (by decide), ek 12 (by decide) (by decide) (by decide) (by decide)]; exact ta a ha
    · rw [fF 8 (by decide) (by decide) (by decide) (by decide) (by decide)]; exact h8
    · rw [fF 6 (by decide) (by decide) (by decide) (by decide) (by decide)]; exact h6
    · rw [fF 7 (by decide) (by decide) (by decide) (by decide) (by decide)]; exact h7
theorem m_row {tx : List Nat} (ht : xOK tx) {c : Nat} {st : PS} (hs : sOK st) (hm : may c st = true) {p : Nat} {F : ZF} {A : ZA} {T : Int64} (hx : TXM tx (F 0) (A 1)) (hq : MS tx (.inr ([], p)) F) (hD : DM st F A) : ∃ F' A', f_X11_readRow (nI c) F A T = some (F', A', T) ∧ MS tx (itr tx c (nS st.1) (due c (nS st.1)) (.inr ([], p))) F' ∧ LH A A' ∧ (∀ k, k = 0 ∨ 9 ≤ k → F' k = F k) ∧ ∀ vs p', itr tx c (nS st.1) (due c (nS st.1)) (.inr ([], p)) = .inr (vs, p') → DM (add c st vs) F' A' := by
  rcases may_c hm with rfl | rfl | rfl | rfl | rfl
  · exact m_rA ht hs hm hx hq hD
  · exact m_rD ht hs hx hq hD
  · exact m_rF ht hs hm hx hq hD
  · exact m_rS ht hs hm hx hq hD
  · exact m_rT ht hs hx hq hD
