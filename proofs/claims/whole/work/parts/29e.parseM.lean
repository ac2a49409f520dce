/-! the reference reads a row -/
def MS (tx : List Nat) : RS → ZF → Prop
  | .inl q, F => F 5 = nI q ∧ q ≤ 200
  | .inr (_, p), F => F 5 = -9 ∧ RQ (tk tx p) F ∧ p ≤ tx.length
theorem tk_let {tx : List Nat} {p : Nat} (h : (tk tx p).1.1 = 1) : (tk tx p).1.2 = 0 ∨ (97 ≤ (tk tx p).1.2 ∧ (tk tx p).1.2 ≤ 122) := by
  unfold tk tq at h ⊢
  cases e : tx[sk tx p]? with
  | none => rw [e] at h; cases h
  | some c =>
    rw [e] at h
    dsimp only at h ⊢
    by_cases c1 : c = 59
    · rw [if_pos c1] at h; cases h
    · rw [if_neg c1] at h ⊢
      by_cases c2 : isL c = true
      · rw [if_pos c2]
        dsimp only
        by_cases c3 : rl isL (tx.drop (sk tx p)) = 1
        · rw [if_pos c3]; exact Or.inr (isL_iff.mp c2)
        · rw [if_neg c3]; exact Or.inl rfl
      · rw [if_neg c2] at h
        by_cases c3 : isD c = true
        · rw [if_pos c3] at h
          by_cases c4 : rl isD (tx.drop (sk tx p)) = 1 ∨ (rl isD (tx.drop (sk tx p)) = 2 ∧ c ≠ 48)
          · rw [if_pos c4] at h; cases h
          · rw [if_neg c4] at h; cases h
        · rw [if_neg c3] at h; cases h
theorem srt_le {tx : List Nat} {p : Nat} (hp : p ≤ tx.length) : srt (tk tx p).1 ≤ 122 ∧ ((tk tx p).1.1 = 0 ↔ srt (tk tx p).1 = 3) ∧ ((tk tx p).1.1 = 2 ↔ srt (tk tx p).1 = 1) ∧ ((tk tx p).1.1 = 3 ↔ srt (tk tx p).1 = 2) := by
  have h4 := (tk_next hp).2.2.2.2.1
  have hl := fun h => tk_let (tx := tx) (p := p) h
  unfold srt
  rcases (show (tk tx p).1.1 = 0 ∨ (tk tx p).1.1 = 1 ∨ (tk tx p).1.1 = 2 ∨ (tk tx p).1.1 = 3 ∨ (tk tx p).1.1 = 4 by omega) with e | e | e | e | e
  · rw [e]; simp
  · have := hl e
    rw [e, if_neg (by decide), if_pos rfl]
    split <;> omega
  · rw [e]; simp
  · rw [e]; simp
  · rw [e]; simp
theorem n9_ne {q : Nat} (h : q ≤ 200) : ¬ nI q = (-9 : Int32) := nI_n9 (by omega)
/-- what is due is there, or is not -/
theorem m_due {tx : List Nat} (ht : xOK tx) {vs : List Nat} {p : Nat} {F : ZF} {A : ZA} {T : Int64} (hm : TXM tx (F 0) (A 1)) (hs : MS tx (.inr (vs, p)) F) {y : Int32} {b : Bool} (hy : y = if b = true then 1 else 0) (hb : b = true → (tk tx p).1.1 ≠ 4) : ∃ F', f_X11_due y F A T = some (F 4, F', A, T) ∧ (∀ k, k ≠ 1 → k ≠ 2 → k ≠ 3 → k ≠ 4 → k ≠ 5 → F' k = F k) ∧ (b = false → F' 5 = nI (tk tx p).2.1) ∧ (b = true → F' 5 = -9 ∧ RQ (tk tx (tk tx p).2.2) F') := by
  obtain ⟨h5, ⟨q2, q3, q4, q1⟩, hp⟩ := hs
  unfold f_X11_due
  rw [if_pos h5, hy]
  cases b
  · rw [if_neg (show ¬ (false = true) by decide), if_pos rfl]
    refine ⟨_, rfl, fun k _ _ _ _ a => upd_ne a _, fun _ => by rw [upd_same]; exact q2, fun e => by cases e⟩
  · rw [if_pos rfl, if_neg (show ¬ (1 : Int32) = 0 by decide)]
    obtain ⟨F', r1, r2, r3⟩ := m_next ht (T := T) (tk_next hp).2.2.1 hm (q1 (hb rfl))
    rw [r1, Option.bind_some]
    exact ⟨F', rfl, fun k a b c d _ => r2 k a b c d, fun e => (by cases e), fun _ => ⟨by rw [r2 5 (by decide) (by decide) (by decide) (by decide)]; exact h5, r3⟩⟩
theorem stp_y {tx : List Nat} {c n : Nat} {vs : List Nat} {p : Nat} (h : (tk tx p).1.1 = 2 ∧ okv c n vs (tk tx p).1.2 = true) : stp tx c n (.inr (vs, p)) = .inr (vs ++ [(tk tx p).1.2], (tk tx p).2.2) := if_pos h
theorem stp_n {tx : List Nat} {c n : Nat} {vs : List Nat} {p : Nat} (h : ¬ ((tk tx p).1.1 = 2 ∧ okv c n vs (tk tx p).1.2 = true)) : stp tx c n (.inr (vs, p)) = .inl (tk tx p).2.1 := if_neg h
theorem stp_inr {tx : List Nat} {c n : Nat} {s : RS} {vs : List Nat} {p : Nat} (h : stp tx c n s = .inr (vs, p)) : ∃ vs0 p0 x, s = .inr (vs0, p0) ∧ vs = vs0 ++ [x] := by
  cases s with
  | inl q => cases h
  | inr t =>
    obtain ⟨vs0, p0⟩ := t
    by_cases z : (tk tx p0).1.1 = 2 ∧ okv c n vs0 (tk tx p0).1.2 = true
    · rw [stp_y z] at h; cases h; exact ⟨vs0, p0, _, rfl, rfl⟩
    · rw [stp_n z] at h; cases h
theorem m_num {tx : List Nat} (ht : xOK tx) {c n : Nat} {l h : Int32} {s : RS} {F : ZF} {A : ZA} {T : Int64} (hm : TXM tx (F 0) (A 1)) (hs : MS tx s F) (hR : ∀ vs p, s = .inr (vs, p) → ∀ v, v ≤ 99 → f_X10_within (nI v) l h = if okv c n vs v = true then 1 else 0) : ∃ v F', f_X11_number l h F A T = some (v, F', A, T) ∧ MS tx (stp tx c n s) F' ∧ (∀ k, k ≠ 1 → k ≠ 2 → k ≠ 3 → k ≠ 4 → k ≠ 5 → F' k = F k) ∧ ∀ vs p, stp tx c n s = .inr (vs, p) → v = nI (vs.getD (vs.length - 1) 0) := by
  have hL := ht.1
  cases s with
  | inl q =>
    obtain ⟨h5, hq⟩ := hs
    have dd : ∀ y : Int32, f_X11_number_26 y F A T = some (F 4, F, A, T) := by
      intro y
      unfold f_X11_number_26 f_X11_due
      rw [if_neg (show ¬ F 5 = -9 by rw [h5]; exact n9_ne hq), Option.bind_some]
    refine ⟨F 4, F, ?_, ⟨h5, hq⟩, fun k _ _ _ _ _ => rfl, fun vs p e => by cases e⟩
    unfold f_X11_number
    rw [dd, dd]
    split
    · split <;> rfl
    · rfl
  | inr t =>
    obtain ⟨vs, p⟩ := t
    have hs0 := hs
    obtain ⟨h5, ⟨q2, q3, q4, q1⟩, hp⟩ := hs
    obtain ⟨s1, s2, s3, s4⟩ := srt_le hp
    obtain ⟨k1, k2, k3, k4, k5, k6⟩ := tk_next hp
    have key : f_X11_number l h F A T = f_X11_number_26 (if (decide ((tk tx p).1.1 = 2) && okv c n vs (tk tx p).1.2) = true then 1 else 0) F A T := by
      unfold f_X11_number
      by_cases z : (tk tx p).1.1 = 2
      · have z2 : F 3 = (1 : Int32) := by rw [q3, s3.mp z]; rfl
        rw [if_pos z2, in_wi, q4 z, hR vs p rfl _ (k6 z)]
        cases y : okv c n vs (tk tx p).1.2
        · rw [if_neg (show ¬ (false = true) by decide), if_pos rfl, Bool.and_false, if_neg (show ¬ (false = true) by decide)]
        · rw [if_pos rfl, if_neg (show ¬ (1 : Int32) = 0 by decide), Bool.and_true, if_pos (by simpa using z)]
      · have z2 : ¬ F 3 = (1 : Int32) := fun y => z (s3.mpr ((nI_eq (b := 1) (by omega) (by decide)).mp (by rw [← q3]; exact y)))
        rw [if_neg z2, if_neg (by simp [z])]
    have hb4 : (decide ((tk tx p).1.1 = 2) && okv c n vs (tk tx p).1.2) = true → (tk tx p).1.1 ≠ 4 := by
      intro e
      have : (tk tx p).1.1 = 2 := by simp at e; exact e.1
      omega
    obtain ⟨F', r1, r2, r3, r4⟩ := m_due ht (T := T) (y := if (decide ((tk tx p).1.1 = 2) && okv c n vs (tk tx p).1.2) = true then 1 else 0) hm hs0 rfl hb4
    rw [key]
    unfold f_X11_number_26
    rw [r1, Option.bind_some]
    by_cases z : (tk tx p).1.1 = 2 ∧ okv c n vs (tk tx p).1.2 = true
    · have zb : (decide ((tk tx p).1.1 = 2) && okv c n vs (tk tx p).1.2) = true := by simp [z.1, z.2]
      rw [stp_y z]
      refine ⟨F 4, F', rfl, ⟨(r4 zb).1, (r4 zb).2, k3⟩, r2, fun vs' p' e => ?_⟩
      cases e
      rw [List.length_append, List.length_singleton, Nat.add_sub_cancel, getD_last]
      exact q4 z.1
    · have zb : (decide ((tk tx p).1.1 = 2) && okv c n vs (tk tx p).1.2) = false := by
        cases w : (decide ((tk tx p).1.1 = 2) && okv c n vs (tk tx p).1.2)
        · rfl
        · exact absurd (by simpa using w) z
      rw [stp_n z]
      exact ⟨F 4, F', rfl, ⟨r3 zb, by omega⟩, r2, fun vs' p' e => by cases e⟩
/-! the draft of the reference: the further halves -/
def TM2 (d : ZD) (A : ZA) : Prop := (A 2 1 = nI (nS d) ∧ A 4 1 = nI (nF d) ∧ A 8 1 = nI (nA d) ∧ A 13 1 = nI (dF d) ∧ A 14 1 = nI (dT d)) ∧ (∀ s, s < nS d → A 3 (6 + s) = nI (gr d s)) ∧ (∀ f, f < nF d → A 5 (8 + f) = nI (co d f) ∧ A 6 (8 + f) = nI (tr d f)) ∧ (∀ f, f < nF d → ∀ s, s < 6 → A 7 (48 + 6 * f + s) = Int32.ofInt (mv d f s)) ∧ (∀ a, a < nA d → A 9 (8 + a) = nI (wh d a) ∧ A 10 (8 + a) = nI (pl d a) ∧ A 11 (8 + a) = nI (fm d a) ∧ A 12 (8 + a) = nI (tt d a))
def DM (st : PS) (F : ZF) (A : ZA) : Prop := TM2 st.1 A ∧ F 8 = nI st.2.2 ∧ F 6 = (if st.2.1.1 = true then 1 else 0) ∧ F 7 = (if st.2.1.2 = true then 1 else 0)
/-- the nearer halves stay -/
def LH (A A' : ZA) : Prop := (∀ k, (k = 1 ∨ 15 ≤ k) → A' k = A k) ∧ (∀ k, (k = 2 ∨ k = 4 ∨ k = 8 ∨ k = 13 ∨ k = 14) → A' k 0 = A k 0) ∧ (∀ i, i < 6 → A' 3 i = A 3 i) ∧ (∀ k, (k = 5 ∨ k = 6 ∨ k = 9 ∨ k = 10 ∨ k = 11 ∨ k = 12) → ∀ i, i < 8 → A' k i = A k i) ∧ ∀ i, i < 48 → A' 7 i = A 7 i
theorem LH.refl (A : ZA) : LH A A := ⟨fun _ _ => rfl, fun _ _ => rfl, fun _ _ => rfl, fun _ _ _ _ => rfl, fun _ _ => rfl⟩
theorem LH.trans {A B C : ZA} (h : LH A B) (g : LH B C) : LH A C := ⟨fun k hk => by rw [g.1 k hk, h.1 k hk], fun k hk => by rw [g.2.1 k hk, h.2.1 k hk], fun i hi => by rw [g.2.2.1 i hi, h.2.2.1 i hi], fun k hk i hi => by rw [g.2.2.2.1 k hk i hi, h.2.2.2.1 k hk i hi], fun i hi => by rw [g.2.2.2.2 i hi, h.2.2.2.2 i hi]⟩
theorem LH.z (A : ZA) {k i : Nat} (x : Int32) (h : (k = 2 ∨ k = 4 ∨ k = 8 ∨ k = 13 ∨ k = 14) ∧ 1 ≤ i ∨ k = 3 ∧ 6 ≤ i ∨ (k = 5 ∨ k = 6 ∨ k = 9 ∨ k = 10 ∨ k = 11 ∨ k = 12) ∧ 8 ≤ i ∨ k = 7 ∧ 48 ≤ i) : LH A (zst A k i x) := by
  have e : ∀ k' i', (k' ≠ k ∨ i' ≠ i) → zst A k i x k' i' = A k' i' := by
    intro k' i' hh
    by_cases q : k' = k
    · subst q
      rw [zst_same, upd_ne]
      rcases hh with hh | hh
      · exact absurd rfl hh
      · exact hh
    · rw [zst_ne q]
  refine ⟨fun k' hk => ?_, fun k' hk => e _ _ (by omega), fun i' hi => e _ _ (by omega), fun k' hk i' hi => e _ _ (by omega), fun i' hi => e _ _ (by omega)⟩
  rw [zst_ne (by omega)]
theorem LH.tm {d : ZD} (hd0 : dOK d) {A A' : ZA} (h : LH A A') (hm : TM d A) : TM d A' := by
  obtain ⟨d1, d2, d3, d4, d5⟩ := hd0.1
  obtain ⟨⟨m1, m2, m3, m4, m5⟩, mg, mf, mm, ma⟩ := hm
  refine ⟨⟨?_, ?_, ?_, ?_, ?_⟩, fun s hs => ?_, fun f hf => ?_, fun f hf s hs => ?_, fun a ha => ?_⟩
  · rw [h.2.1 2 (by omega)]; exact m1
  · rw [h.2.1 4 (by omega)]; exact m2
  · rw [h.2.1 8 (by omega)]; exact m3
  · rw [h.2.1 13 (by omega)]; exact m4
  · rw [h.2.1 14 (by omega)]; exact m5
  · rw [h.2.2.1 s (by omega)]; exact mg s hs
  · rw [h.2.2.2.1 5 (by omega) f (by omega), h.2.2.2.1 6 (by omega) f (by omega)]; exact mf f hf
  · rw [h.2.2.2.2 _ (by omega)]; exact mm f hf s hs
  · rw [h.2.2.2.1 9 (by omega) a (by omega), h.2.2.2.1 10 (by omega) a (by omega), h.2.2.2.1 11 (by omega) a (by omega), h.2.2.2.1 12 (by omega) a (by omega)]; exact ma a ha
theorem MS.fr {tx : List Nat} {s : RS} {F F' : ZF} (h : MS tx s F) (e : ∀ k, 1 ≤ k ∧ k ≤ 5 → F' k = F k) : MS tx s F' := by
  cases s with
  | inl q => exact ⟨by rw [e 5 (by omega)]; exact h.1, h.2⟩
  | inr t =>
    obtain ⟨h5, ⟨q2, q3, q4, q1⟩, hp⟩ := h
    exact ⟨by rw [e 5 (by omega)]; exact h5, ⟨by rw [e 2 (by omega)]; exact q2, by rw [e 3 (by omega)]; exact q3, fun z => by rw [e 4 (by omega)]; exact q4 z, fun z => by rw [e 1 (by omega)]; exact q1 z⟩, hp⟩
theorem wi_lit {c n i l h : Nat} {vs : List Nat} (hl : lo c vs = l) (hh : hi c n i = h) (hv : vs.length = i) (l99 : l ≤ 99) (h99 : h ≤ 99) {x y : Int32} (hx : x = nI l) (hy : y = nI h - 1) : ∀ v, v ≤ 99 → f_X10_within (nI v) x y = if okv c n vs v = true then 1 else 0 := by
  intro v hv'
  rw [hx, hy, wi_ok (by omega) (by omega) (by omega)]
  unfold okv
  rw [hl, hv, hh]
