/-! proof, cleared, innocent, books -/
theorem cntX {a : ZQ} {U : ZS} (hok : aOK a) (hx : IX a U) : ∃ A', f_X5_countHours (U.1 11) U.1 U.2.1 U.2.2 = some (upd U.1 9 (nI (nS a.1)), A', U.2.2) ∧ IX a (upd U.1 9 (nI (nS a.1)), A', U.2.2) ∧ ∀ j, j < nS a.1 → A' 16 j = nI (hrs a.1 (hs a) j) := by
  have e11 : U.1 11 = nI (hs a) := hx.2.1.2.1
  rw [e11]
  obtain ⟨A', e1, e2, e3⟩ := x_count hok.1 (T := U.2.2) hx.1 (hs_lt hok)
  exact ⟨A', e1, hx.sc (fun k hk => upd_ne (by omega) _) (fun k hk => e2 k (by omega)), e3⟩
theorem chX {a : ZQ} {U : ZS} (hok : aOK a) (hx : IX a U) {s p q : Nat} (hs' : s < nS a.1) (hq : q ≤ 20) (hp : p ≤ q) (x : Int32) : ∃ F' A', f_X10_cheapest (nI s) (nI p) (nI q) x U.1 U.2.1 U.2.2 = some (enc (chp a.1 (hs a) (fs a) s p q x (2 ^ nF a.1) 0 none), F', A', U.2.2) ∧ IX a (F', A', U.2.2) := by
  obtain ⟨A1, c1, c2, c3⟩ := cntX hok hx
  have h256 := p2_256 hok.1
  obtain ⟨F', A', e1, e2, e3⟩ := x_ch hok.1 hok.2.1.1.1 hs' hq hp (x := x) (T := U.2.2) (2 ^ nF a.1) 0 1000 none 0 (upd U.1 9 (nI (nS a.1))) A1 (by omega) (by omega) c2.1 (upd_same _ _ _) c2.2.1.1 c3 (fun b' hb' => by cases hb')
  refine ⟨F', A', ?_, c2.sc (fun k hk => e2 k (by omega)) (fun k hk => e3 k (by omega))⟩
  unfold f_X10_cheapest
  rw [c1, Option.bind_some]
  exact e1
theorem chM {a : ZQ} {V : ZS} (hok : aOK a) (hm : IM a V) {s p q : Nat} (hs' : s < nS a.1) (hq : q ≤ 20) (hp : p ≤ q) (x : Int32) : ∃ F' A', f_X11_cheapest (nI s) (nI p) (nI q) x V.1 V.2.1 V.2.2 = some (enc (chp a.1 (hs a) (fs a) s p q x (2 ^ nF a.1) 0 none), F', A', V.2.2) ∧ IM a (F', A', V.2.2) := by
  have h256 := p2_256 hok.1
  obtain ⟨F', A', e1, e2, e3⟩ := m_ch hok.1 (hs_lt hok) hok.2.1.1.1 hs' hq hp (x := x) (T := V.2.2) (2 ^ nF a.1) 0 1000 none V.1 V.2.1 (by omega) (by omega) hm.1 hm.2.1.1 hm.2.1.2.1 (fun b' hb' => by cases hb')
  exact ⟨F', A', e1, hm.sc (fun k hk => e2 k (by omega)) (fun k hk => e3 k (by omega))⟩
theorem p_proof : st_proof Rel := by
  rintro a0 a1 a2 a3 U V ⟨a, hok, hx, hm⟩
  have hS := hok.1.1.1
  have h256 := p2_256 hok.1
  have n1 : ¬ (1 : Int32) = 0 := by decide
  unfold f_X10_proof f_X11_proof
  rw [share_eq, in_wi]
  unfold f_X10_isSuspect f_X11_isSuspect
  rw [in_wi, cl0, hx.1.1.1, hm.1.1.1]
  rcases one_of a0 (n := nS a.1) (by omega) with ⟨e, -⟩ | ⟨e, s, hs', rfl⟩
  · rw [e, if_pos rfl, if_pos rfl, if_pos rfl]
    exact ⟨_, _, rfl, rfl, rfl, a, hok, hx, hm⟩
  · rw [e, if_neg n1, if_neg n1]
    rcases frac_of a1 a2 with e | ⟨e, p, q, q1, q2, hp, rfl, rfl⟩
    · rw [e, if_pos rfl, if_pos rfl]
      exact ⟨_, _, rfl, rfl, rfl, a, hok, hx, hm⟩
    · rw [e, if_neg n1, if_neg n1]
      rcases two_of a3 (n := 1) (by decide) with ⟨e, -⟩ | ⟨e, c, hc, rfl⟩
      · have e : f_X10_within a3 (0 : Int32) (1 : Int32) = 0 := e
        rw [e, if_pos rfl, if_pos rfl]
        exact ⟨_, _, rfl, rfl, rfl, a, hok, hx, hm⟩
      · have e : f_X10_within (nI c) (0 : Int32) (1 : Int32) = 1 := e
        obtain ⟨F1, A1, x1, x2⟩ := chX hok hx hs' q2 hp 1
        obtain ⟨F2, A2, m1, m2⟩ := chM hok hm hs' q2 hp 1
        rw [e, if_neg n1, if_neg n1, x1, m1, Option.bind_some, Option.bind_some]
        unfold f_X10_costOrSet
        cases hb : chp a.1 (hs a) (fs a) s p q 1 (2 ^ nF a.1) 0 none with
        | none =>
          have e9 : enc none = -9 := rfl
          simp only [e9, if_true, Option.bind_some]
          exact ⟨_, _, rfl, rfl, rfl, a, hok, x2, m2⟩
        | some b =>
          have hlt := chp_lt a.1 (hs a) (fs a) s p q 1 (2 ^ nF a.1) 0 none (fun b' hb' => by cases hb') b hb
          have e9 : ¬ enc (some b) = -9 := nI_n9 (by omega)
          by_cases c1 : nI c = (1 : Int32)
          · simp only [e9, if_false, c1, if_true, Option.bind_some]
            exact ⟨_, _, rfl, rfl, rfl, a, hok, x2, m2⟩
          · have k1 : f_X1_costOf (enc (some b)) F1 A1 U.2.2 = some (nI (cst a.1 b)) := x_cost hok.1 (by omega) x2.1
            have k2 : f_X11_costOf (enc (some b)) F2 A2 V.2.2 = some (nI (cst a.1 b)) := m_cost hok.1 (by omega) m2.1
            simp only [e9, if_false, c1, k1, k2, Option.bind_some]
            exact ⟨_, _, rfl, rfl, rfl, a, hok, x2, m2⟩
theorem p_cleared : st_cleared Rel := by
  rintro a0 a1 a2 a3 U V ⟨a, hok, hx, hm⟩
  have hS := hok.1.1.1
  have h256 := p2_256 hok.1
  have n1 : ¬ (1 : Int32) = 0 := by decide
  unfold f_X10_cleared f_X11_cleared
  rw [share_eq, in_wi]
  unfold f_X10_isSuspect f_X11_isSuspect
  rw [in_wi, cl0, hx.1.1.1, hm.1.1.1]
  rcases one_of a0 (n := nS a.1) (by omega) with ⟨e, -⟩ | ⟨e, s, hs', rfl⟩
  · rw [e, if_pos rfl, if_pos rfl, if_pos rfl]
    exact ⟨_, _, rfl, rfl, rfl, a, hok, hx, hm⟩
  · rw [e, if_neg n1, if_neg n1]
    rcases frac_of a1 a2 with e | ⟨e, p, q, q1, q2, hp, rfl, rfl⟩
    · rw [e, if_pos rfl, if_pos rfl]
      exact ⟨_, _, rfl, rfl, rfl, a, hok, hx, hm⟩
    · rw [e, if_neg n1, if_neg n1]
      rcases two_of a3 (n := 1) (by decide) with ⟨e, -⟩ | ⟨e, c, hc, rfl⟩
      · have e : f_X10_within a3 (0 : Int32) (1 : Int32) = 0 := e
        rw [e, if_pos rfl, if_pos rfl]
        exact ⟨_, _, rfl, rfl, rfl, a, hok, hx, hm⟩
      · have e : f_X10_within (nI c) (0 : Int32) (1 : Int32) = 1 := e
        obtain ⟨F1, A1, x1, x2⟩ := chX hok hx hs' q2 hp 0
        obtain ⟨F2, A2, m1, m2⟩ := chM hok hm hs' q2 hp 0
        rw [e, if_neg n1, if_neg n1, x1, m1, Option.bind_some, Option.bind_some]
        unfold f_X10_costOrSet
        cases hb : chp a.1 (hs a) (fs a) s p q 0 (2 ^ nF a.1) 0 none with
        | none =>
          have e9 : enc none = -9 := rfl
          simp only [e9, if_true, Option.bind_some]
          exact ⟨_, _, rfl, rfl, rfl, a, hok, x2, m2⟩
        | some b =>
          have hlt := chp_lt a.1 (hs a) (fs a) s p q 0 (2 ^ nF a.1) 0 none (fun b' hb' => by cases hb') b hb
          have e9 : ¬ enc (some b) = -9 := nI_n9 (by omega)
          by_cases c1 : nI c = (1 : Int32)
          · simp only [e9, if_false, c1, if_true, Option.bind_some]
            exact ⟨_, _, rfl, rfl, rfl, a, hok, x2, m2⟩
          · have k1 : f_X1_costOf (enc (some b)) F1 A1 U.2.2 = some (nI (cst a.1 b)) := x_cost hok.1 (by omega) x2.1
            have k2 : f_X11_costOf (enc (some b)) F2 A2 V.2.2 = some (nI (cst a.1 b)) := m_cost hok.1 (by omega) m2.1
            simp only [e9, if_false, c1, k1, k2, Option.bind_some]
            exact ⟨_, _, rfl, rfl, rfl, a, hok, x2, m2⟩
/-! how often one is guilty of nothing -/
def inn (d : ZD) (hd s k : Nat) : Nat := fb_ct (fun set => decide (hld d hd set s = 0)) k
theorem x_inn {d : ZD} (hd0 : dOK d) {hd s : Nat} (hs : s < nS d) {F : ZF} {A : ZA} {T : Int64} (hx : TX d F A) (h16 : A 16 s = nI (hrs d hd s)) : ∀ (m k n : Nat), k + m = 2 ^ nF d → m < n → f_X10_innocent_32 n (nI s) (nI (inn d hd s k)) (nI k) F A T = some (nI (inn d hd s (2 ^ nF d)), F, A, T) := by
  have h256 := p2_256 hd0
  have hN := hd0.1.2.1
  intro m
  induction m with
  | zero =>
    intro k n hk hn
    obtain ⟨n, rfl⟩ : ∃ n', n = n' + 1 := ⟨n - 1, by omega⟩
    rw [f_X10_innocent_32_s, hx.1.2.1, shl1 (by omega), if_pos (nI_le (by omega) (by omega)), show k = 2 ^ nF d by omega]
  | succ m ih =>
    intro k n hk hn
    obtain ⟨n, rfl⟩ : ∃ n', n = n' + 1 := ⟨n - 1, by omega⟩
    have i := ih (k + 1) n (by omega) (by omega)
    unfold inn at i ⊢
    rw [fb_ct_succ] at i
    have hl := hld_le hd0 hd k hs
    rw [f_X10_innocent_32_s, hx.1.2.1, shl1 (by omega), if_neg (nI_ge (by omega) (by omega)), x_heldBy hd0 hx (by omega) hs h16, Option.bind_some, nI_1, nI_1]
    by_cases c : hld d hd k s = 0
    · rw [if_pos (by rw [c]; rfl)]
      rw [if_pos (by simp [c])] at i
      exact i
    · rw [if_neg (fun e => c ((nI_z (by omega)).mp e))]
      rw [if_neg (by simp [c]), Nat.add_zero] at i
      exact i
theorem m_inn {d : ZD} (hd0 : dOK d) {hd s : Nat} (hh : hd < 256) (hs : s < nS d) {F : ZF} {A : ZA} {T : Int64} (hm : TM d A) (h15 : A 15 1 = nI hd) : ∀ (m k n : Nat), k + m = 2 ^ nF d → m < n → f_X11_innocent_14 F A T n (nI s) (nI (inn d hd s k)) (nI k) = some (nI (inn d hd s (2 ^ nF d))) := by
  have h256 := p2_256 hd0
  have hN := hd0.1.2.1
  intro m
  induction m with
  | zero =>
    intro k n hk hn
    obtain ⟨n, rfl⟩ : ∃ n', n = n' + 1 := ⟨n - 1, by omega⟩
    rw [f_X11_innocent_14_s, cl0, hm.1.2.1, shl1 (by omega), if_pos (nI_le (by omega) (by omega)), show k = 2 ^ nF d by omega]
  | succ m ih =>
    intro k n hk hn
    obtain ⟨n, rfl⟩ : ∃ n', n = n' + 1 := ⟨n - 1, by omega⟩
    have i := ih (k + 1) n (by omega) (by omega)
    unfold inn at i ⊢
    rw [fb_ct_succ] at i
    have hl := hld_le hd0 hd k hs
    rw [f_X11_innocent_14_s, cl0, hm.1.2.1, shl1 (by omega), if_neg (nI_ge (by omega) (by omega)), m_heldBy hd0 hm hh h15 (by omega) hs, Option.bind_some]
    unfold f_X11_innocent_41
    rw [nI_1, nI_1]
    by_cases c : hld d hd k s = 0
    · rw [if_pos (by rw [c]; rfl)]
      rw [if_pos (by simp [c])] at i
      exact i
    · rw [if_neg (fun e => c ((nI_z (by omega)).mp e))]
      rw [if_neg (by simp [c])] at i
      rw [show (0 : Int32) = nI 0 from rfl, nI_add]
      exact i
theorem p_innocent : st_innocent Rel := by
  rintro a0 U V ⟨a, hok, hx, hm⟩
  have hS := hok.1.1.1
  have h256 := p2_256 hok.1
  have n1 : ¬ (1 : Int32) = 0 := by decide
  unfold f_X10_innocent f_X11_innocent f_X10_isSuspect f_X11_isSuspect
  rw [in_wi, cl0, hx.1.1.1, hm.1.1.1]
  rcases one_of a0 (n := nS a.1) (by omega) with ⟨e, -⟩ | ⟨e, s, hs', rfl⟩
  · rw [e, if_pos rfl, if_pos rfl]
    exact ⟨_, (_, V), rfl, ⟨rfl, rfl⟩, rfl, a, hok, hx, hm⟩
  · obtain ⟨A1, c1, c2, c3⟩ := cntX hok hx
    have kx := x_inn hok.1 hs' (T := U.2.2) c2.1 (c3 s hs') (2 ^ nF a.1) 0 1000 (by omega) (by omega)
    have km := m_inn hok.1 (hs_lt hok) hs' (F := V.1) (T := V.2.2) hm.1 hm.2.1.2.1 (2 ^ nF a.1) 0 1000 (by omega) (by omega)
    have kx : f_X10_innocent_32 1000 (nI s) (0 : Int32) (0 : Int32) (upd U.1 9 (nI (nS a.1))) A1 U.2.2 = _ := kx
    have km : f_X11_innocent_14 V.1 V.2.1 V.2.2 1000 (nI s) (0 : Int32) (0 : Int32) = _ := km
    rw [e, if_neg n1, if_neg n1, c1, km, Option.bind_some]
    dsimp only
    rw [kx]
    exact ⟨_, (_, V), rfl, ⟨rfl, rfl⟩, rfl, a, hok, c2, hm⟩
/-! books -/
def ctD (P : Nat → Bool) : Nat → Nat → Nat
  | _, 0 => 0
  | k, m + 1 => ctD P (k + 1) m + (if P k then 1 else 0)
def lsU (P : Nat → Bool) : Nat → Int32
  | 0 => -9
  | k + 1 => if P k = true then (if fb_ct P k = 0 then nI k else lsU P k) else lsU P k
def lsD (P : Nat → Bool) : Nat → Nat → Int32
  | _, 0 => -9
  | k, m + 1 => if P k = true then nI k else lsD P (k + 1) m
def anU (P : Nat → Bool) : Nat → Nat
  | 0 => 255
  | k + 1 => if P k = true then anU P k &&& k else anU P k
def anD (P : Nat → Bool) : Nat → Nat → Nat
  | _, 0 => 255
  | k, m + 1 => if P k = true then anD P (k + 1) m &&& k else anD P (k + 1) m
theorem ctD_eq (P : Nat → Bool) : ∀ m k, fb_ct P k + ctD P k m = fb_ct P (k + m)
  | 0, k => rfl
  | m + 1, k => by
    have := ctD_eq P m (k + 1)
    rw [fb_ct_succ] at this
    show fb_ct P k + (ctD P (k + 1) m + (if P k then 1 else 0)) = fb_ct P (k + (m + 1))
    rw [show k + (m + 1) = k + 1 + m by omega, ← this]
    omega
theorem lsU_0 (P : Nat → Bool) : ∀ k, fb_ct P k = 0 → lsU P k = -9
  | 0, _ => rfl
  | k + 1, h => by
    rw [fb_ct_succ] at h
    have hp : ¬ P k = true := fun e => by rw [if_pos e] at h; omega
    rw [if_neg hp] at h
    show (if P k = true then (if fb_ct P k = 0 then nI k else lsU P k) else lsU P k) = -9
    rw [if_neg hp]
    exact lsU_0 P k h
theorem lsD_eq (P : Nat → Bool) : ∀ m k, lsU P (k + m) = if fb_ct P k = 0 then lsD P k m else lsU P k
  | 0, k => by
    by_cases c : fb_ct P k = 0
    · rw [if_pos c]; exact lsU_0 P k c
    · rw [if_neg c]; rfl
  | m + 1, k => by
    have := lsD_eq P m (k + 1)
    rw [show k + (m + 1) = k + 1 + m by omega, this, fb_ct_succ]
    show (if fb_ct P k + (if P k = true then 1 else 0) = 0 then lsD P (k + 1) m else if P k = true then (if fb_ct P k = 0 then nI k else lsU P k) else lsU P k) = if fb_ct P k = 0 then (if P k = true then nI k else lsD P (k + 1) m) else lsU P k
    cases hp : P k
    · simp
    · simp
theorem anU_lt (P : Nat → Bool) : ∀ k, anU P k < 256
  | 0 => by show 255 < 256; decide
  | k + 1 => by
    have := anU_lt P k
    show (if P k = true then anU P k &&& k else anU P k) < 256
    split
    · exact Nat.lt_of_le_of_lt Nat.and_le_left this
    · exact this
theorem anD_lt (P : Nat → Bool) : ∀ m k, anD P k m < 256
  | 0, k => by show 255 < 256; decide
  | m + 1, k => by
    have := anD_lt P m (k + 1)
    show (if P k = true then anD P (k + 1) m &&& k else anD P (k + 1) m) < 256
    split
    · exact Nat.lt_of_le_of_lt Nat.and_le_left this
    · exact this
theorem and255 {x : Nat} (h : x < 256) : x &&& 255 = x := by
  have := Nat.and_two_pow_sub_one_eq_mod x 8
  rw [show 2 ^ 8 - 1 = 255 from rfl] at this
  rw [this]; omega
theorem anD_eq (P : Nat → Bool) : ∀ m k, anU P k &&& anD P k m = anU P (k + m)
  | 0, k => and255 (anU_lt P k)
  | m + 1, k => by
    have := anD_eq P m (k + 1)
    rw [show k + (m + 1) = k + 1 + m by omega, ← this]
    show anU P k &&& (if P k = true then anD P (k + 1) m &&& k else anD P (k + 1) m) = (if P k = true then anU P k &&& k else anU P k) &&& anD P (k + 1) m
    cases hp : P k
    · simp
    · rw [if_pos rfl, if_pos rfl, Nat.and_assoc, Nat.and_comm k]
theorem anD_0 (P : Nat → Bool) (m : Nat) : anD P 0 m = anU P m := by
  have := anD_eq P m 0
  rw [Nat.zero_add] at this
  rw [← this]
  show _ = 255 &&& anD P 0 m
  rw [Nat.and_comm]; exact (and255 (anD_lt P m 0)).symm
theorem drop_at {α : Type} {l : List α} {i : Nat} {t : α} (h : l[i]? = some t) : l.drop i = t :: l.drop (i + 1) := by
  obtain ⟨h1, h2⟩ := List.getElem?_eq_some_iff.mp h
  rw [List.drop_eq_getElem_cons h1, h2]
def ftP (d : ZD) (hd D set : Nat) (t : Nat × Nat) : Bool := decide (srv d hd set D t.1 = t.2)
def fts (d : ZD) (hd D : Nat) (l : List (Nat × Nat)) (set : Nat) : Bool := l.all (ftP d hd D set)
theorem x_ft {d : ZD} (hd0 : dOK d) {hd D set : Nat} (hD : D ≤ 60) {l : List (Nat × Nat)} (hl : lOK d l) {F : ZF} {A : ZA} {T : Int64} (hx : LX l (F 0) (A 8) (A 9)) (h15 : ∀ j, j < nS d → A 15 j = nI (srv d hd set D j)) : ∀ (m i n : Nat), i + m = l.length → m < n → f_X10_fitsBook_28 n (nI i) F A T = some ((if (l.drop i).all (ftP d hd D set) = true then 1 else 0), F, A, T) := by
  have hS := hd0.1.1
  have h6 := hl.1
  intro m
  induction m with
  | zero =>
    intro i n hi hn
    obtain ⟨n, rfl⟩ : ∃ n', n = n' + 1 := ⟨n - 1, by omega⟩
    rw [f_X10_fitsBook_28_s, hx.1, if_pos (nI_le (by omega) (by omega)), List.drop_eq_nil_of_le (by omega)]
    rfl
  | succ m ih =>
    intro i n hi hn
    obtain ⟨n, rfl⟩ : ∃ n', n = n' + 1 := ⟨n - 1, by omega⟩
    obtain ⟨t, ht, tm⟩ := l_get (show i < l.length by omega)
    obtain ⟨t1, t2⟩ := hx.2 i t ht
    obtain ⟨o1, o2⟩ := hl.2 t tm
    have hsv := srv_le hd0 (hd := hd) (set := set) (D := D) o1
    rw [f_X10_fitsBook_28_s, hx.1, if_neg (nI_ge (by omega) (by omega)), if_pos (gok_nI (by omega) (by decide)), if_pos (gok_nI (by omega) (by decide)), nI_clamp (by omega), t1, t2, if_pos (gok_nI (by omega) (by decide)), nI_clamp (by omega), h15 _ o1, nI_1, drop_at ht, List.all_cons]
    by_cases c : srv d hd set D t.1 = t.2
    · rw [if_pos (by rw [c]), ih (i + 1) n (by omega) (by omega)]
      rw [show ftP d hd D set t = true by simp [ftP, c], Bool.true_and]
    · rw [if_neg (fun e => c ((nI_eq (by omega) (by omega)).mp e)), show ftP d hd D set t = false by simp [ftP, c], Bool.false_and]
      rfl
theorem m_ft {d : ZD} (hd0 : dOK d) {hd D set : Nat} (hD : D ≤ 60) {l : List (Nat × Nat)} (hl : lOK d l) {F : ZF} {A : ZA} {T : Int64} (hm : LX l (F 10) (A 19) (A 20)) (h18 : ∀ j, j < nS d → A 18 j = nI (srv d hd set D j)) (K : Int32 → Int32 → Int32 → Int32 → Int32 → ZF → ZA → Int64 → Option (Int32 × ZS)) (x1 x2 x3 x4 x5 : Int32) : ∀ (m i n : Nat) (b : Bool), i + m = l.length → m < n → f_X11_books_54 K n x1 x2 x3 x4 x5 (if b = true then 1 else 0) (nI i) F A T = f_X11_books_114 K x1 x3 x4 x5 (if (b && (l.drop i).all (ftP d hd D set)) = true then 1 else 0) (if (b && (l.drop i).all (ftP d hd D set)) = true then 1 else 0) x2 F A T := by
  have hS := hd0.1.1
  have h6 := hl.1
  have n1 : ¬ (1 : Int32) = 0 := by decide
  have f1 : ¬ (false = true) := by decide
  intro m
  induction m with
  | zero =>
    intro i n b hi hn
    obtain ⟨n, rfl⟩ : ∃ n', n = n' + 1 := ⟨n - 1, by omega⟩
    rw [f_X11_books_54_s, hm.1, if_pos (nI_le (by omega) (by omega)), List.drop_eq_nil_of_le (by omega), List.all_nil, Bool.and_true]
    cases b
    · rw [if_neg f1, if_pos rfl]
    · rw [if_pos rfl, if_neg n1]
  | succ m ih =>
    intro i n b hi hn
    obtain ⟨n, rfl⟩ : ∃ n', n = n' + 1 := ⟨n - 1, by omega⟩
    obtain ⟨t, ht, tm⟩ := l_get (show i < l.length by omega)
    obtain ⟨t1, t2⟩ := hm.2 i t ht
    obtain ⟨o1, o2⟩ := hl.2 t tm
    have hsv := srv_le hd0 (hd := hd) (set := set) (D := D) o1
    have i0 := ih (i + 1) n false (by omega) (by omega)
    have i1 := ih (i + 1) n true (by omega) (by omega)
    rw [if_neg f1] at i0
    rw [if_pos rfl] at i1
    rw [f_X11_books_54_s, hm.1, if_neg (nI_ge (by omega) (by omega)), if_pos (gok_nI (by omega) (by decide)), if_pos (gok_nI (by omega) (by decide)), nI_clamp (by omega), t1, t2, if_pos (gok_nI (by omega) (by decide)), nI_clamp (by omega), h18 _ o1, nI_1, drop_at ht, List.all_cons]
    cases b
    · rw [if_neg f1, if_pos rfl, i0, Bool.false_and, Bool.false_and]
    · rw [if_pos rfl, if_neg n1]
      by_cases c : srv d hd set D t.1 = t.2
      · rw [if_pos (by rw [c]), i1, show ftP d hd D set t = true by simp [ftP, c], Bool.true_and, Bool.true_and]
      · rw [if_neg (fun e => c ((nI_eq (by omega) (by omega)).mp e)), i0, show ftP d hd D set t = false by simp [ftP, c], Bool.false_and]; rfl
def bkF (P : Nat → Bool) (N : Nat) (x1 : Int32) : Int32 := if x1 = 0 then nI (fb_ct P N) else if x1 = 1 then lsU P N else if fb_ct P N = 0 then -9 else nI (anU P N)
theorem x_bk {d : ZD} (hd0 : dOK d) {hd D : Nat} (hD : D ≤ 60) {l : List (Nat × Nat)} (hl : lOK d l) {x1 : Int32} {T : Int64} : ∀ (m k n : Nat) (F : ZF) (A : ZA), k + m = 2 ^ nF d → m < n → TX d F A → F 9 = nI (nS d) → F 12 = nI D → (∀ j, j < nS d → A 16 j = nI (hrs d hd j)) → LX l (F 0) (A 8) (A 9) → ∃ F' A', f_X10_books_41 n x1 (nI (fb_ct (fts d hd D l) k)) (lsU (fts d hd D l) k) (if fb_ct (fts d hd D l) k = 0 then -9 else nI (anU (fts d hd D l) k)) (nI k) F A T = some (bkF (fts d hd D l) (2 ^ nF d) x1, F', A', T) ∧ (∀ j, j ≠ 8 → F' j = F j) ∧ ∀ j, j ≠ 14 → j ≠ 15 → j ≠ 17 → A' j = A j := by
  have h256 := p2_256 hd0
  have hN := hd0.1.2.1
  have n1 : ¬ (1 : Int32) = 0 := by decide
  have f1 : ¬ (false = true) := by decide
  intro m
  induction m with
  | zero =>
    intro k n F A hk hn hx h9 h12 h16 hlx
    obtain ⟨n, rfl⟩ : ∃ n', n = n' + 1 := ⟨n - 1, by omega⟩
    have e : k = 2 ^ nF d := by omega
    subst e
    rw [f_X10_books_41_s, hx.1.2.1, shl1 (by omega), if_pos (nI_le (by omega) (by omega))]
    refine ⟨F, A, ?_, fun j hj => rfl, fun j _ _ _ => rfl⟩
    unfold bkF
    by_cases c0 : x1 = 0
    · rw [if_pos c0, if_pos c0]
    · rw [if_neg c0, if_neg c0]
      by_cases c1 : x1 = 1
      · rw [if_pos c1, if_pos c1]
      · rw [if_neg c1, if_neg c1]
  | succ m ih =>
    intro k n F A hk hn hx h9 h12 h16 hlx
    obtain ⟨n, rfl⟩ : ∃ n', n = n' + 1 := ⟨n - 1, by omega⟩
    obtain ⟨F1, A1, w1, w2, w3, w4, w5⟩ := x_weigh hd0 (T := T) (show k < 256 by omega) hx h9 h16
    obtain ⟨A2, v1, v2, v3⟩ := x_sentence hd0 hD (F := F1) (A := A1) (T := T) w2 (by rw [w3 _ (by decide)]; exact h9) w5
    have hl2 : LX l (F1 0) (A2 8) (A2 9) := by rw [w3 _ (by decide), v2 _ (by decide) (by decide), v2 _ (by decide) (by decide), w4 _ (by decide), w4 _ (by decide)]; exact hlx
    have ft := x_ft hd0 hD hl (T := T) hl2 v3 l.length 0 1000 (by omega) (by have := hl.1; omega)
    have hfb : f_X10_fitsBook (nI k) F A T = some ((if fts d hd D l k = true then 1 else 0), F1, A2, T) := by
      unfold f_X10_fitsBook
      rw [w1, Option.bind_some]
      dsimp only
      rw [w3 12 (by decide), h12, v1, Option.bind_some]
      exact ft
    have i := ih (k + 1) n F1 A2 (by omega) (by omega) (hx.fr (fun j _ _ => w3 j (by omega)) (fun j _ _ => by rw [v2 j (by omega) (by omega), w4 j (by omega)])) (by rw [w3 _ (by decide)]; exact h9) (by rw [w3 _ (by decide)]; exact h12) (fun j hj => by rw [v2 _ (by decide) (by decide), w4 _ (by decide)]; exact h16 j hj) hl2
    obtain ⟨F', A', i1, i2, i3⟩ := i
    have cl := fb_ct_le (fts d hd D l) k
    rw [f_X10_books_41_s, hx.1.2.1, shl1 (by omega), if_neg (nI_ge (by omega) (by omega)), hfb, Option.bind_some]
    refine ⟨F', A', ?_, fun j hj => by rw [i2 j hj, w3 j hj], fun j q1 q2 q3 => by rw [i3 j q1 q2 q3, v2 j q2 q3, w4 j q1]⟩
    rw [← i1, fb_ct_succ]
    dsimp only
    cases hp : fts d hd D l k
    · have e1 : lsU (fts d hd D l) (k + 1) = lsU (fts d hd D l) k := by
        show (if fts d hd D l k = true then _ else _) = _
        rw [hp, if_neg f1]
      have e2 : anU (fts d hd D l) (k + 1) = anU (fts d hd D l) k := by
        show (if fts d hd D l k = true then _ else _) = _
        rw [hp, if_neg f1]
      rw [if_neg f1, if_pos rfl, if_neg f1, Nat.add_zero, e1, e2, nI_1]
    · have e1 : lsU (fts d hd D l) (k + 1) = if fb_ct (fts d hd D l) k = 0 then nI k else lsU (fts d hd D l) k := by
        show (if fts d hd D l k = true then _ else _) = _
        rw [hp, if_pos rfl]
      have e2 : anU (fts d hd D l) (k + 1) = anU (fts d hd D l) k &&& k := by
        show (if fts d hd D l k = true then _ else _) = _
        rw [hp, if_pos rfl]
      rw [if_pos rfl, if_neg n1, if_pos rfl, e1, e2]
      unfold f_X10_books_78
      rw [if_neg (show ¬ fb_ct (fts d hd D l) k + 1 = 0 by omega), nI_1, nI_1]
      by_cases c : fb_ct (fts d hd D l) k = 0
      · have ha : anU (fts d hd D l) k &&& k = k := by
          have : ∀ j, fb_ct (fts d hd D l) j = 0 → anU (fts d hd D l) j = 255 := by
            intro j
            induction j with
            | zero => intro _; rfl
            | succ j ihj =>
              intro hj
              rw [fb_ct_succ] at hj
              have hpj : ¬ fts d hd D l j = true := fun e => by rw [if_pos e] at hj; omega
              show (if fts d hd D l j = true then _ else _) = _
              rw [if_neg hpj]
              exact ihj (by omega)
          rw [this k c, Nat.and_comm]; exact and255 (by omega)
        rw [if_pos (by rw [c]; rfl), if_pos c, ha, c, fa_and, Nat.and_self]
      · rw [if_neg (fun e => c ((nI_z (by omega)).mp e)), if_neg c, if_neg c, fa_and]
theorem m_bk {d : ZD} (hd0 : dOK d) {hd D : Nat} (hh : hd < 256) (hD : D ≤ 60) {l : List (Nat × Nat)} (hl : lOK d l) {x1 : Int32} {T : Int64} : ∀ (k m n : Nat) (F : ZF) (A : ZA), k + m = 2 ^ nF d → k < n → TM d A → A 15 1 = nI hd → A 15 2 = nI D → LX l (F 10) (A 19) (A 20) → ∃ F' A', f_X11_books_33 n x1 (nI (ctD (fts d hd D l) k m)) (lsD (fts d hd D l) k m) (nI (anD (fts d hd D l) k m)) (nI k - 1) F A T = some (bkF (fts d hd D l) (2 ^ nF d) x1, F', A', T) ∧ (∀ j, j ≠ 9 → F' j = F j) ∧ ∀ j, j ≠ 17 → j ≠ 18 → A' j = A j := by
  have h256 := p2_256 hd0
  have hN := hd0.1.2.1
  have n1 : ¬ (1 : Int32) = 0 := by decide
  have f1 : ¬ (false = true) := by decide
  intro k
  induction k with
  | zero =>
    intro m n F A hk hn hm h1 h2 hlx
    obtain ⟨n, rfl⟩ : ∃ n', n = n' + 1 := ⟨n - 1, by omega⟩
    have e : m = 2 ^ nF d := by omega
    subst e
    refine ⟨F, A, ?_, fun j hj => rfl, fun j _ _ => rfl⟩
    have c := ctD_eq (fts d hd D l) (2 ^ nF d) 0
    have ls := lsD_eq (fts d hd D l) (2 ^ nF d) 0
    rw [Nat.zero_add, show fb_ct (fts d hd D l) 0 = 0 from rfl, Nat.zero_add] at c
    rw [Nat.zero_add, show fb_ct (fts d hd D l) 0 = 0 from rfl, if_pos rfl] at ls
    rw [f_X11_books_33_s, if_pos (show nI 0 - 1 < (0 : Int32) by decide), c, ← ls, anD_0]
    have cl := fb_ct_le (fts d hd D l) (2 ^ nF d)
    unfold bkF
    by_cases c0 : x1 = 0
    · rw [if_pos c0, if_pos c0]
    · rw [if_neg c0, if_neg c0]
      by_cases z : fb_ct (fts d hd D l) (2 ^ nF d) = 0
      · rw [if_pos (by rw [z]; rfl), if_pos z, lsU_0 _ _ z]
        by_cases c1 : x1 = 1
        · rw [if_pos c1]
        · rw [if_neg c1]
      · rw [if_neg (fun e => z ((nI_z (by omega)).mp e)), if_neg z]
        by_cases c1 : x1 = 1
        · rw [if_pos c1, if_pos c1]
        · rw [if_neg c1, if_neg c1]
  | succ k ih =>
    intro m n F A hk hn hm h1 h2 hlx
    obtain ⟨n, rfl⟩ : ∃ n', n = n' + 1 := ⟨n - 1, by omega⟩
    have c0 : ¬ nI k < (0 : Int32) := nI_nlt (a := k) (b := 0) (by omega) (by omega)
    rw [f_X11_books_33_s, nI_m1, if_neg c0]
    obtain ⟨F1, A1, w1, w2, w3, w4, w5⟩ := m_hold hd0 (F := F) (T := T) hh (show k < 256 by omega) hm h1
    have t1 : TM d A1 := hm.fr (fun j _ _ => w4 j (by omega))
    obtain ⟨A2, v1, v2, v3⟩ := m_serve hd0 hD (F := F1) (T := T) t1 w2 (by rw [w4 _ (by decide)]; exact h2) w5
    have hl2 : LX l (F1 10) (A2 19) (A2 20) := by rw [w3 _ (by decide), v2 _ (by decide), v2 _ (by decide), w4 _ (by decide), w4 _ (by decide)]; exact hlx
    have ft := m_ft hd0 hD hl (T := T) hl2 v3 (f_X11_books_33 n) x1 (nI (ctD (fts d hd D l) (k + 1) m)) (lsD (fts d hd D l) (k + 1) m) (nI (anD (fts d hd D l) (k + 1) m)) (nI k) l.length 0 1000 true (by omega) (by have := hl.1; omega)
    rw [if_pos rfl, Bool.true_and] at ft
    rw [w1, Option.bind_some]
    dsimp only
    rw [v1, Option.bind_some]
    dsimp only
    have ft : f_X11_books_54 (f_X11_books_33 n) 1000 x1 (nI (ctD (fts d hd D l) (k + 1) m)) (lsD (fts d hd D l) (k + 1) m) (nI (anD (fts d hd D l) (k + 1) m)) (nI k) 1 0 F1 A2 T = f_X11_books_114 (f_X11_books_33 n) x1 (lsD (fts d hd D l) (k + 1) m) (nI (anD (fts d hd D l) (k + 1) m)) (nI k) (if fts d hd D l k = true then 1 else 0) (if fts d hd D l k = true then 1 else 0) (nI (ctD (fts d hd D l) (k + 1) m)) F1 A2 T := ft
    rw [ft]
    obtain ⟨F', A', i1, i2, i3⟩ := ih (m + 1) n F1 A2 (by omega) (by omega) (t1.fr (fun j _ _ => v2 j (by omega))) (by rw [v2 _ (by decide), w4 _ (by decide)]; exact h1) (by rw [v2 _ (by decide), w4 _ (by decide)]; exact h2) hl2
    refine ⟨F', A', ?_, fun j hj => by rw [i2 j hj, w3 j hj], fun j q1 q2 => by rw [i3 j q1 q2, v2 j q2, w4 j q1]⟩
    rw [← i1]
    unfold f_X11_books_114 f_X11_books_127 f_X11_books_143
    have d1 : ctD (fts d hd D l) k (m + 1) = ctD (fts d hd D l) (k + 1) m + (if fts d hd D l k then 1 else 0) := rfl
    have d2 : lsD (fts d hd D l) k (m + 1) = if fts d hd D l k = true then nI k else lsD (fts d hd D l) (k + 1) m := rfl
    have d3 : anD (fts d hd D l) k (m + 1) = if fts d hd D l k = true then anD (fts d hd D l) (k + 1) m &&& k else anD (fts d hd D l) (k + 1) m := rfl
    rw [d1, d2, d3, add_m1]
    cases hp : fts d hd D l k
    · rw [if_neg f1, if_pos rfl, if_pos rfl, if_neg f1, if_neg f1, if_neg f1, show (0 : Int32) = nI 0 from rfl, nI_add, show (255 : Int32) = nI 255 from rfl, fa_and, and255 (anD_lt _ _ _)]
    · rw [if_pos rfl, if_neg n1, if_neg n1, if_pos rfl, if_pos rfl, if_pos rfl, nI_1, fa_and]
theorem p_books : st_books Rel := by
  rintro a0 U V ⟨a, hok, hx, hm⟩
  have h256 := p2_256 hok.1
  have hN := hok.1.1.2.1
  have n1 : ¬ (1 : Int32) = 0 := by decide
  unfold f_X10_books f_X11_books
  rw [in_wi, cl0, hm.1.1.2.1, shl1 (by omega)]
  by_cases e : f_X10_within a0 (0 : Int32) (2 : Int32) = 0
  · rw [if_pos e, if_pos e]
    exact ⟨_, _, rfl, rfl, rfl, a, hok, hx, hm⟩
  · rw [if_neg e, if_neg e]
    obtain ⟨A1, c1, c2, c3⟩ := cntX hok hx
    obtain ⟨F3, A3, x1, x2, x3⟩ := x_bk hok.1 (hd := hs a) (ds_le hok) hok.2.2.2.1 (x1 := a0) (T := U.2.2) (2 ^ nF a.1) 0 1000 (upd U.1 9 (nI (nS a.1))) A1 (by omega) (by omega) c2.1 (upd_same _ _ _) c2.2.1.2.2.1 c3 c2.2.2.2.1
    obtain ⟨F4, A4, m1, m2, m3⟩ := m_bk hok.1 (hs_lt hok) (ds_le hok) hok.2.2.2.1 (x1 := a0) (T := V.2.2) (2 ^ nF a.1) 0 1000 V.1 V.2.1 (by omega) (by omega) hm.1 hm.2.1.2.1 hm.2.1.2.2.1 hm.2.2.2.1
    rw [c1, Option.bind_some]
    have x1 : f_X10_books_41 1000 a0 (0 : Int32) (-9 : Int32) (-9 : Int32) (0 : Int32) (upd U.1 9 (nI (nS a.1))) A1 U.2.2 = _ := x1
    have m1 : f_X11_books_33 1000 a0 (0 : Int32) (-9 : Int32) (255 : Int32) (nI (2 ^ nF a.1) - 1) V.1 V.2.1 V.2.2 = _ := m1
    dsimp only
    rw [x1, m1]
    exact ⟨_, _, rfl, rfl, rfl, a, hok, c2.sc (fun k hk => x2 k (by omega)) (fun k hk => x3 k (by omega) (by omega) (by omega)), hm.sc (fun k hk => m2 k (by omega)) (fun k hk => m3 k (by omega) (by omega))⟩
