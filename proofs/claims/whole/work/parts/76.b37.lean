/-! STAGE B: a FORM more -/
theorem xC_isForm_ok {X : zz_S} (N : yN X) (f a b : Int) : xC_isForm f a b X = some (yi (yfv f a b), X) := by
  have r8 : zz_r (9 - 1) = 8 := yy_r (by omega) (by omega)
  have z0 : zz_h X 2 1 0 = 59 := N.z2 0 (by decide)
  have z1 : zz_h X 2 1 1 = 23 := N.z2 1 (by decide)
  have z2 : zz_h X 2 1 2 = 23 := N.z2 2 (by decide)
  have z3 : zz_h X 2 1 3 = 6 := N.z2 3 (by decide)
  have z4 : zz_h X 2 1 4 = 6 := N.z2 4 (by decide)
  have z5 : zz_h X 2 1 5 = 31 := N.z2 5 (by decide)
  have z6 : zz_h X 2 1 6 = 0 := N.z2 6 (by decide)
  have z7 : zz_h X 2 1 7 = 5 := N.z2 7 (by decide)
  have z8 : zz_h X 2 1 8 = 12 := N.z2 8 (by decide)
  unfold xC_isForm
  rw [ya_2, r8, x_isWithin_ok, Option.bind_some]
  dsimp only
  by_cases f0 : f = 0
  · subst f0
    rw [if_pos (show (0 : Int) ≤ 0 ∧ (0 : Int) ≤ 8 by decide), if_neg yy_10]
    unfold xC_isForm_52 xC_isForm_76
    by_cases ca : 0 ≤ a ∧ a ≤ 59
    · rw [yi_pos (show yfv 0 a b by unfold yfv; omega)]
      simp [zz_b, ya_2, x_isWithin_ok, z0, ca]
    · rw [yi_neg (show ¬ yfv 0 a b by unfold yfv; omega)]
      simp [zz_b, ya_2, x_isWithin_ok, z0, ca]
  by_cases f1 : f = 1
  · subst f1
    rw [if_pos (show (0 : Int) ≤ 1 ∧ (1 : Int) ≤ 8 by decide), if_neg yy_10]
    unfold xC_isForm_52 xC_isForm_76
    by_cases ca : 0 ≤ a ∧ a ≤ 23
    · rw [yi_pos (show yfv 1 a b by unfold yfv; omega)]
      simp [zz_b, ya_2, x_isWithin_ok, z1, ca]
    · rw [yi_neg (show ¬ yfv 1 a b by unfold yfv; omega)]
      simp [zz_b, ya_2, x_isWithin_ok, z1, ca]
  by_cases f2 : f = 2
  · subst f2
    rw [if_pos (show (0 : Int) ≤ 2 ∧ (2 : Int) ≤ 8 by decide), if_neg yy_10]
    unfold xC_isForm_52 xC_isForm_76
    by_cases ca : 0 ≤ a ∧ a ≤ 23
    · by_cases cb : a ≤ b ∧ b ≤ 23
      · rw [yi_pos (show yfv 2 a b by unfold yfv; omega)]
        simp [zz_b, ya_2, x_isWithin_ok, z2, ca, cb]
      · rw [yi_neg (show ¬ yfv 2 a b by unfold yfv; omega)]
        simp [zz_b, ya_2, x_isWithin_ok, z2, ca, cb]
    · rw [yi_neg (show ¬ yfv 2 a b by unfold yfv; omega)]
      simp [zz_b, ya_2, x_isWithin_ok, z2, ca]
  by_cases f3 : f = 3
  · subst f3
    rw [if_pos (show (0 : Int) ≤ 3 ∧ (3 : Int) ≤ 8 by decide), if_neg yy_10]
    unfold xC_isForm_52 xC_isForm_76
    by_cases ca : 0 ≤ a ∧ a ≤ 6
    · rw [yi_pos (show yfv 3 a b by unfold yfv; omega)]
      simp [zz_b, ya_2, x_isWithin_ok, z3, ca]
    · rw [yi_neg (show ¬ yfv 3 a b by unfold yfv; omega)]
      simp [zz_b, ya_2, x_isWithin_ok, z3, ca]
  by_cases f4 : f = 4
  · subst f4
    rw [if_pos (show (0 : Int) ≤ 4 ∧ (4 : Int) ≤ 8 by decide), if_neg yy_10]
    unfold xC_isForm_52 xC_isForm_76
    by_cases ca : 0 ≤ a ∧ a ≤ 6
    · by_cases cb : 0 ≤ b ∧ b ≤ 6
      · rw [yi_pos (show yfv 4 a b by unfold yfv; omega)]
        simp [zz_b, ya_2, x_isWithin_ok, z4, ca, cb]
      · rw [yi_neg (show ¬ yfv 4 a b by unfold yfv; omega)]
        simp [zz_b, ya_2, x_isWithin_ok, z4, ca, cb]
    · rw [yi_neg (show ¬ yfv 4 a b by unfold yfv; omega)]
      simp [zz_b, ya_2, x_isWithin_ok, z4, ca]
  by_cases f5 : f = 5
  · subst f5
    rw [if_pos (show (0 : Int) ≤ 5 ∧ (5 : Int) ≤ 8 by decide), if_neg yy_10]
    unfold xC_isForm_52 xC_isForm_76
    by_cases ca : 1 ≤ a ∧ a ≤ 31
    · rw [yi_pos (show yfv 5 a b by unfold yfv; omega)]
      simp [zz_b, ya_2, x_isWithin_ok, z5, ca]
    · rw [yi_neg (show ¬ yfv 5 a b by unfold yfv; omega)]
      simp [zz_b, ya_2, x_isWithin_ok, z5, ca]
  by_cases f6 : f = 6
  · subst f6
    rw [if_pos (show (0 : Int) ≤ 6 ∧ (6 : Int) ≤ 8 by decide), if_neg yy_10]
    unfold xC_isForm_52 xC_isForm_76
    rw [yi_pos (show yfv 6 a b by unfold yfv; omega)]
    simp
  by_cases f7 : f = 7
  · subst f7
    rw [if_pos (show (0 : Int) ≤ 7 ∧ (7 : Int) ≤ 8 by decide), if_neg yy_10]
    unfold xC_isForm_52 xC_isForm_76
    by_cases ca : 1 ≤ a ∧ a ≤ 5
    · by_cases cb : 0 ≤ b ∧ b ≤ 6
      · rw [yi_pos (show yfv 7 a b by unfold yfv; omega)]
        simp [zz_b, ya_2, x_isWithin_ok, z7, ca, cb]
      · rw [yi_neg (show ¬ yfv 7 a b by unfold yfv; omega)]
        simp [zz_b, ya_2, x_isWithin_ok, z7, ca, cb]
    · rw [yi_neg (show ¬ yfv 7 a b by unfold yfv; omega)]
      simp [zz_b, ya_2, x_isWithin_ok, z7, ca]
  by_cases f8 : f = 8
  · subst f8
    rw [if_pos (show (0 : Int) ≤ 8 ∧ (8 : Int) ≤ 8 by decide), if_neg yy_10]
    unfold xC_isForm_52 xC_isForm_76
    by_cases ca : 1 ≤ a ∧ a ≤ 12
    · rw [yi_pos (show yfv 8 a b by unfold yfv; omega)]
      simp [zz_b, ya_2, x_isWithin_ok, z8, ca]
    · rw [yi_neg (show ¬ yfv 8 a b by unfold yfv; omega)]
      simp [zz_b, ya_2, x_isWithin_ok, z8, ca]
  rw [if_neg (show ¬ (0 ≤ f ∧ f ≤ 8) by omega), if_pos rfl, yi_neg (show ¬ yfv f a b by unfold yfv; omega)]
theorem m_isForm_ok (M : zz_S) (f a b : Int) : m_isForm f a b M = some (yi (yfv f a b), M) := by
  unfold m_isForm
  simp only [m_in_ok, Option.bind_some]
  by_cases f0 : f = 0
  · subst f0
    by_cases ca : 0 ≤ a ∧ a ≤ 59
    · rw [yi_pos (show yfv 0 a b by unfold yfv; omega)]
      simp [ca]
    · rw [yi_neg (show ¬ yfv 0 a b by unfold yfv; omega)]
      simp [ca]
  by_cases f1 : f = 1
  · subst f1
    by_cases ca : 0 ≤ a ∧ a ≤ 23
    · rw [yi_pos (show yfv 1 a b by unfold yfv; omega)]
      simp [ca]
    · rw [yi_neg (show ¬ yfv 1 a b by unfold yfv; omega)]
      simp [ca]
  by_cases f2 : f = 2
  · subst f2
    by_cases ca : 0 ≤ a ∧ a ≤ 23
    · by_cases cb : 0 ≤ b ∧ b ≤ 23
      · by_cases cc : a ≤ b
        · rw [yi_pos (show yfv 2 a b by unfold yfv; omega)]
          simp [ca, cb, cc]
        · rw [yi_neg (show ¬ yfv 2 a b by unfold yfv; omega)]
          simp [ca, cb, cc]
      · rw [yi_neg (show ¬ yfv 2 a b by unfold yfv; omega)]
        simp [ca, cb]
    · rw [yi_neg (show ¬ yfv 2 a b by unfold yfv; omega)]
      simp [ca]
  by_cases f3 : f = 3
  · subst f3
    by_cases ca : 0 ≤ a ∧ a ≤ 6
    · rw [yi_pos (show yfv 3 a b by unfold yfv; omega)]
      simp [ca]
    · rw [yi_neg (show ¬ yfv 3 a b by unfold yfv; omega)]
      simp [ca]
  by_cases f4 : f = 4
  · subst f4
    by_cases ca : 0 ≤ a ∧ a ≤ 6
    · by_cases cb : 0 ≤ b ∧ b ≤ 6
      · rw [yi_pos (show yfv 4 a b by unfold yfv; omega)]
        simp [ca, cb]
      · rw [yi_neg (show ¬ yfv 4 a b by unfold yfv; omega)]
        simp [ca, cb]
    · rw [yi_neg (show ¬ yfv 4 a b by unfold yfv; omega)]
      simp [ca]
  by_cases f5 : f = 5
  · subst f5
    by_cases ca : 1 ≤ a ∧ a ≤ 31
    · rw [yi_pos (show yfv 5 a b by unfold yfv; omega)]
      simp [ca]
    · rw [yi_neg (show ¬ yfv 5 a b by unfold yfv; omega)]
      simp [ca]
  by_cases f6 : f = 6
  · subst f6
    rw [yi_pos (show yfv 6 a b by unfold yfv; omega)]
    simp
  by_cases f7 : f = 7
  · subst f7
    by_cases ca : 1 ≤ a ∧ a ≤ 5
    · by_cases cb : 0 ≤ b ∧ b ≤ 6
      · rw [yi_pos (show yfv 7 a b by unfold yfv; omega)]
        simp [ca, cb]
      · rw [yi_neg (show ¬ yfv 7 a b by unfold yfv; omega)]
        simp [ca, cb]
    · rw [yi_neg (show ¬ yfv 7 a b by unfold yfv; omega)]
      simp [ca]
  by_cases f8 : f = 8
  · subst f8
    by_cases ca : 1 ≤ a ∧ a ≤ 12
    · rw [yi_pos (show yfv 8 a b by unfold yfv; omega)]
      simp [ca]
    · rw [yi_neg (show ¬ yfv 8 a b by unfold yfv; omega)]
      simp [ca]
  rw [yi_neg (show ¬ yfv f a b by unfold yfv; omega)]
  simp [f0, f1, f2, f3, f4, f5, f6, f7, f8]
def yri (a b v : Int) : Prop := (a ≤ b ∧ a ≤ v ∧ v ≤ b) ∨ (b < a ∧ (a ≤ v ∨ v ≤ b))
theorem xC_ring_loop {a b sz : Int} (X : zz_S) (hs : sz ≤ 31) : ∀ (k n v : Nat) (set : Int), (v : Int) + k = sz → k < n → (∀ w : Nat, yb set w = true ↔ w < v ∧ yri a b w) → ∃ s, xC_ring_5 n a b sz set v X = some (s, X) ∧ ∀ w : Nat, (yb s w = true ↔ (w : Int) < sz ∧ yri a b w) := by
  intro k
  induction k with
  | zero =>
    intro n v set a1 b1 h
    obtain ⟨n, rfl⟩ : ∃ q, n = q + 1 := ⟨n - 1, by omega⟩
    refine ⟨set, ?_, fun w => ?_⟩
    · rw [xC_ring_5, if_neg (by omega)]
    · rw [h w]
      exact ⟨fun z => ⟨by omega, z.2⟩, fun z => ⟨by omega, z.2⟩⟩
  | succ k ih =>
    intro n v set a1 b1 h
    obtain ⟨n, rfl⟩ : ∃ q, n = q + 1 := ⟨n - 1, by omega⟩
    have r : zz_r ((v : Int) + 1) = ((v + 1 : Nat) : Int) := by rw [yy_r (by omega) (by omega)]; omega
    have yes : yri a b v → ∃ s, xC_ring_5 n a b sz (zz_or set (zz_shl 1 v)) ((v + 1 : Nat) : Int) X = some (s, X) ∧ ∀ w : Nat, (yb s w = true ↔ (w : Int) < sz ∧ yri a b w) := by
      intro hy
      refine ih n (v + 1) _ (by omega) (by omega) fun w => ?_
      rw [yb_or, Bool.or_eq_true, h w, yb_shl (by omega) (by omega), decide_eq_true_eq]
      constructor
      · rintro (z | z)
        · exact ⟨by omega, z.2⟩
        · refine ⟨by omega, ?_⟩
          rw [← z]
          exact hy
      · intro z
        by_cases c : (v : Int) = w
        · exact Or.inr c
        · exact Or.inl ⟨by omega, z.2⟩
    have no : ¬ yri a b v → ∃ s, xC_ring_5 n a b sz set ((v + 1 : Nat) : Int) X = some (s, X) ∧ ∀ w : Nat, (yb s w = true ↔ (w : Int) < sz ∧ yri a b w) := by
      intro hy
      refine ih n (v + 1) _ (by omega) (by omega) fun w => ?_
      rw [h w]
      constructor
      · intro z
        exact ⟨by omega, z.2⟩
      · intro z
        refine ⟨?_, z.2⟩
        by_cases c : w = v
        · rw [c] at z
          exact absurd z.2 hy
        · omega
    rw [xC_ring_5, if_pos (by omega)]
    unfold xC_ring_32 xC_ring_48
    rw [r]
    by_cases c1 : a ≤ b
    · rw [if_pos c1]
      by_cases c2 : (v : Int) < a
      · rw [if_pos c2]
        exact no (by unfold yri; omega)
      · rw [if_neg c2]
        by_cases c3 : (v : Int) ≤ b
        · rw [if_pos c3]
          exact yes (by unfold yri; omega)
        · rw [if_neg c3]
          exact no (by unfold yri; omega)
    · rw [if_neg c1]
      by_cases c2 : (v : Int) < a
      · rw [if_pos c2]
        by_cases c3 : (v : Int) ≤ b
        · rw [if_pos c3]
          exact yes (by unfold yri; omega)
        · rw [if_neg c3]
          exact no (by unfold yri; omega)
      · rw [if_neg c2]
        exact yes (by unfold yri; omega)
theorem xC_ring_ok (a b sz : Int) (X : zz_S) (h0 : 0 ≤ sz) (hs : sz ≤ 31) : ∃ s, xC_ring a b sz X = some (s, X) ∧ ∀ w : Nat, (yb s w = true ↔ (w : Int) < sz ∧ yri a b w) := by
  have fu := yy_fu
  exact xC_ring_loop X hs sz.toNat zz_fu 0 0 (by omega) (by omega) (fun w => by
    rw [yb_zero]
    exact ⟨fun z => absurd z (by decide), fun z => by omega⟩)
theorem yfa.add {q : Int → Int → Int → Int → Prop} {t v f a b : Int} {M M' : zz_S} (hn : 0 ≤ zz_h M 64 1 t) (h0 : zz_h M' 64 1 t = zz_h M 64 1 t + 1)
    (e1 : ∀ i, 0 ≤ i → i ≤ zz_h M 64 1 t → zz_h M' 65 1 (4 * t + i) = (if i = zz_h M 64 1 t then f else zz_h M 65 1 (4 * t + i)) ∧ zz_h M' 66 1 (4 * t + i) = (if i = zz_h M 64 1 t then a else zz_h M 66 1 (4 * t + i)) ∧ zz_h M' 67 1 (4 * t + i) = (if i = zz_h M 64 1 t then b else zz_h M 67 1 (4 * t + i))) :
    yfa q t M' v ↔ yfa q t M v ∧ q f a b v := by
  unfold yfa
  rw [h0]
  constructor
  · intro z
    constructor
    · intro i i1 i2
      have := z i i1 (by omega)
      obtain ⟨g1, g2, g3⟩ := e1 i i1 (by omega)
      rw [g1, g2, g3, if_neg (by omega), if_neg (by omega), if_neg (by omega)] at this
      exact this
    · have := z (zz_h M 64 1 t) hn (by omega)
      obtain ⟨g1, g2, g3⟩ := e1 (zz_h M 64 1 t) hn (by omega)
      rw [g1, g2, g3, if_pos rfl, if_pos rfl, if_pos rfl] at this
      exact this
  · rintro ⟨z, w⟩ i i1 i2
    obtain ⟨g1, g2, g3⟩ := e1 i i1 (by omega)
    rw [g1, g2, g3]
    by_cases c : i = zz_h M 64 1 t
    · rw [if_pos c, if_pos c, if_pos c]
      exact w
    · rw [if_neg c, if_neg c, if_neg c]
      exact z i i1 (by omega)
/-- one form more: what each mask must do -/
theorem yE.add {t f a b : Int} {X M X' M' : zz_S} (E : yE t X M) (hn : zz_h M 64 1 t < 4) (hv : yfv f a b) (h0 : zz_h M' 64 1 t = zz_h M 64 1 t + 1)
    (e1 : ∀ i, 0 ≤ i → i ≤ zz_h M 64 1 t → zz_h M' 65 1 (4 * t + i) = (if i = zz_h M 64 1 t then f else zz_h M 65 1 (4 * t + i)) ∧ zz_h M' 66 1 (4 * t + i) = (if i = zz_h M 64 1 t then a else zz_h M 66 1 (4 * t + i)) ∧ zz_h M' 67 1 (4 * t + i) = (if i = zz_h M 64 1 t then b else zz_h M 67 1 (4 * t + i)))
    (x0 : zz_h X' 8 (t + 1) 0 = zz_h M 64 1 t + 1)
    (k1 : ∀ v : Nat, v < 60 → (yl (zz_h X' 8 (t + 1) 1) v = true ↔ yl (zz_h X 8 (t + 1) 1) v = true ∧ yfm f a b v))
    (k2 : ∀ v : Nat, v < 24 → (yb (zz_h X' 8 (t + 1) 2) v = true ↔ yb (zz_h X 8 (t + 1) 2) v = true ∧ yfh f a b v))
    (k3 : ∀ v : Nat, v < 7 → (yb (zz_h X' 8 (t + 1) 3) v = true ↔ yb (zz_h X 8 (t + 1) 3) v = true ∧ yfw f a b v))
    (k4 : ∀ v : Nat, v < 31 → (yb (zz_h X' 8 (t + 1) 4) v = true ↔ yb (zz_h X 8 (t + 1) 4) v = true ∧ yfd f a b v))
    (k5 : ∀ v : Nat, v < 5 → (yb (zz_h X' 8 (t + 1) 5) v = true ↔ yb (zz_h X 8 (t + 1) 5) v = true ∧ yfk f a b v))
    (k6 : ∀ v : Nat, v < 12 → (yb (zz_h X' 8 (t + 1) 6) v = true ↔ yb (zz_h X 8 (t + 1) 6) v = true ∧ yfo f a b v))
    (k7 : zz_h X' 8 (t + 1) 7 = if f = 6 then 1 else zz_h X 8 (t + 1) 7) : yE t X' M' := by
  have nr := E.nr
  have ad : ∀ q v, yfa q t M' v ↔ yfa q t M v ∧ q f a b v := fun q v => yfa.add nr.1 h0 e1
  unfold yE
  rw [h0]
  refine ⟨x0, by omega, ?_, ?_, ?_, ?_, ?_, ?_, ?_, ?_⟩
  · rw [ad]
    exact ⟨E.v, hv⟩
  · intro v hv
    rw [ad, k1 v hv, E.m1 v hv]
  · intro v hv
    rw [ad, k2 v hv, E.m2 v hv]
  · intro v hv
    rw [ad, k3 v hv, E.m3 v hv]
  · intro v hv
    rw [ad, k4 v hv, E.m4 v hv]
  · intro v hv
    rw [ad, k5 v hv, E.m5 v hv]
  · intro v hv
    rw [ad, k6 v hv, E.m6 v hv]
  · rw [ad, k7]
    by_cases c : f = 6
    · rw [if_pos c]
      exact Or.inr ⟨rfl, fun z => z.2 c⟩
    · rw [if_neg c]
      rcases E.m7 with ⟨m1, m2⟩ | ⟨m1, m2⟩
      · exact Or.inl ⟨m1, m2, c⟩
      · exact Or.inr ⟨m1, fun z => m2 z.1⟩
def yCA (t f a b : Int) (X X' : zz_S) (n : Int) : Prop := zz_h X' 8 (t + 1) 0 = n + 1 ∧
    (∀ v : Nat, v < 60 → (yl (zz_h X' 8 (t + 1) 1) v = true ↔ yl (zz_h X 8 (t + 1) 1) v = true ∧ yfm f a b v)) ∧
    (∀ v : Nat, v < 24 → (yb (zz_h X' 8 (t + 1) 2) v = true ↔ yb (zz_h X 8 (t + 1) 2) v = true ∧ yfh f a b v)) ∧
    (∀ v : Nat, v < 7 → (yb (zz_h X' 8 (t + 1) 3) v = true ↔ yb (zz_h X 8 (t + 1) 3) v = true ∧ yfw f a b v)) ∧
    (∀ v : Nat, v < 31 → (yb (zz_h X' 8 (t + 1) 4) v = true ↔ yb (zz_h X 8 (t + 1) 4) v = true ∧ yfd f a b v)) ∧
    (∀ v : Nat, v < 5 → (yb (zz_h X' 8 (t + 1) 5) v = true ↔ yb (zz_h X 8 (t + 1) 5) v = true ∧ yfk f a b v)) ∧
    (∀ v : Nat, v < 12 → (yb (zz_h X' 8 (t + 1) 6) v = true ↔ yb (zz_h X 8 (t + 1) 6) v = true ∧ yfo f a b v)) ∧
    zz_h X' 8 (t + 1) 7 = (if f = 6 then 1 else zz_h X 8 (t + 1) 7)
theorem yy_keep {p q : Prop} (h : q) : p ↔ p ∧ q := ⟨fun z => ⟨z, h⟩, fun z => z.1⟩
theorem yy_and {x : Bool} {p q : Prop} {d : Bool} (h : d = true ↔ q) (hx : x = true ↔ p) : (x && d) = true ↔ p ∧ q := by
  rw [Bool.and_eq_true, h, hx]
theorem xC_add_ok {t f a b n : Int} {X : zz_S} (t0 : 0 ≤ t) (h0 : zz_h X 8 (t + 1) 0 = n) (n0 : 0 ≤ n) (n4 : n < 4) (hv : yfv f a b) : ∃ X', xC_add (t + 1) f a b X = some (0, X') ∧ yK (fun k _ => !(k == 8)) X X' ∧ yQ X X' ∧ (∀ i j, i ≠ t + 1 → zz_h X' 8 i j = zz_h X 8 i j) ∧ yCA t f a b X X' n := by
  have a1 : ¬ t + 1 = 0 := by omega
  have rn : zz_r (n + 1) = n + 1 := yy_r (by omega) (by omega)
  unfold yfv at hv
  unfold xC_add
  simp only [a1, if_false, h0, rn]
  have kp : ∀ (j v : Int), j ≠ 0 → zz_h (zz_w X 8 (t + 1) 0 v) 8 (t + 1) j = zz_h X 8 (t + 1) j := fun j v h => yy_slot h
  by_cases f0 : f = 0
  · subst f0
    simp only [Int.reduceEq, if_false, if_true]
    refine ⟨_, rfl, by (repeat (first | refine yK.w ?_ rfl | exact yK.rf)), yQ.rf, fun i j hi => ?_, ?_⟩
    · simp [zz_h_w, hi]
    · unfold yCA
      refine ⟨?_, fun v hv => ?_, fun v hv => ?_, fun v hv => ?_, fun v hv => ?_, fun v hv => ?_, fun v hv => ?_, ?_⟩
      · simp [zz_h_w]
      · simp only [zz_h_w]
        simp [yfm, yl_and, yl_shl (a := a) (by omega) (by omega)]
      · simp only [zz_h_w]
        simp [yfh]
      · simp only [zz_h_w]
        simp [yfw]
      · simp only [zz_h_w]
        simp [yfd]
      · simp only [zz_h_w]
        simp [yfk]
      · simp only [zz_h_w]
        simp [yfo]
      · simp [zz_h_w]
  by_cases f1 : f = 1
  · subst f1
    simp only [Int.reduceEq, if_false, if_true]
    refine ⟨_, rfl, by (repeat (first | refine yK.w ?_ rfl | exact yK.rf)), yQ.rf, fun i j hi => ?_, ?_⟩
    · simp [zz_h_w, hi]
    · unfold yCA
      refine ⟨?_, fun v hv => ?_, fun v hv => ?_, fun v hv => ?_, fun v hv => ?_, fun v hv => ?_, fun v hv => ?_, ?_⟩
      · simp [zz_h_w]
      · simp only [zz_h_w]
        simp [yfm]
      · simp only [zz_h_w]
        simp [yfh, yb_and, yb_shl (a := a) (by omega) (by omega)]
      · simp only [zz_h_w]
        simp [yfw]
      · simp only [zz_h_w]
        simp [yfd]
      · simp only [zz_h_w]
        simp [yfk]
      · simp only [zz_h_w]
        simp [yfo]
      · simp [zz_h_w]
  by_cases f2 : f = 2
  · subst f2
    simp only [Int.reduceEq, if_false, if_true]
    obtain ⟨s, s1, s2⟩ := xC_ring_ok a b 24 (zz_w X 8 (t + 1) 0 (n + 1)) (by decide) (by decide)
    rw [s1, Option.bind_some]
    dsimp only
    refine ⟨_, rfl, by (repeat (first | refine yK.w ?_ rfl | exact yK.rf)), yQ.rf, fun i j hi => ?_, ?_⟩
    · simp [zz_h_w, hi]
    · unfold yCA
      refine ⟨?_, fun v hv => ?_, fun v hv => ?_, fun v hv => ?_, fun v hv => ?_, fun v hv => ?_, fun v hv => ?_, ?_⟩
      · simp [zz_h_w]
      · simp only [zz_h_w]
        simp [yfm]
      · simp only [zz_h_w]
        simp [yfh, yb_and, s2, yri]
        omega
      · simp only [zz_h_w]
        simp [yfw]
      · simp only [zz_h_w]
        simp [yfd]
      · simp only [zz_h_w]
        simp [yfk]
      · simp only [zz_h_w]
        simp [yfo]
      · simp [zz_h_w]
  by_cases f3 : f = 3
  · subst f3
    simp only [Int.reduceEq, if_false, if_true]
    refine ⟨_, rfl, by (repeat (first | refine yK.w ?_ rfl | exact yK.rf)), yQ.rf, fun i j hi => ?_, ?_⟩
    · simp [zz_h_w, hi]
    · unfold yCA
      refine ⟨?_, fun v hv => ?_, fun v hv => ?_, fun v hv => ?_, fun v hv => ?_, fun v hv => ?_, fun v hv => ?_, ?_⟩
      · simp [zz_h_w]
      · simp only [zz_h_w]
        simp [yfm]
      · simp only [zz_h_w]
        simp [yfh]
      · simp only [zz_h_w]
        simp [yfw, yb_and, yb_shl (a := a) (by omega) (by omega)]
      · simp only [zz_h_w]
        simp [yfd]
      · simp only [zz_h_w]
        simp [yfk]
      · simp only [zz_h_w]
        simp [yfo]
      · simp [zz_h_w]
  by_cases f4 : f = 4
  · subst f4
    simp only [Int.reduceEq, if_false, if_true]
    obtain ⟨s, s1, s2⟩ := xC_ring_ok a b 7 (zz_w X 8 (t + 1) 0 (n + 1)) (by decide) (by decide)
    rw [s1, Option.bind_some]
    dsimp only
    refine ⟨_, rfl, by (repeat (first | refine yK.w ?_ rfl | exact yK.rf)), yQ.rf, fun i j hi => ?_, ?_⟩
    · simp [zz_h_w, hi]
    · unfold yCA
      refine ⟨?_, fun v hv => ?_, fun v hv => ?_, fun v hv => ?_, fun v hv => ?_, fun v hv => ?_, fun v hv => ?_, ?_⟩
      · simp [zz_h_w]
      · simp only [zz_h_w]
        simp [yfm]
      · simp only [zz_h_w]
        simp [yfh]
      · simp only [zz_h_w]
        simp [yfw, yb_and, s2, yri]
        omega
      · simp only [zz_h_w]
        simp [yfd]
      · simp only [zz_h_w]
        simp [yfk]
      · simp only [zz_h_w]
        simp [yfo]
      · simp [zz_h_w]
  by_cases f5 : f = 5
  · subst f5
    simp only [Int.reduceEq, if_false, if_true]
    have ra : zz_r (a - 1) = a - 1 := yy_r (by omega) (by omega)
    refine ⟨_, rfl, by (repeat (first | refine yK.w ?_ rfl | exact yK.rf)), yQ.rf, fun i j hi => ?_, ?_⟩
    · simp [zz_h_w, hi]
    · unfold yCA
      refine ⟨?_, fun v hv => ?_, fun v hv => ?_, fun v hv => ?_, fun v hv => ?_, fun v hv => ?_, fun v hv => ?_, ?_⟩
      · simp [zz_h_w]
      · simp only [zz_h_w]
        simp [yfm]
      · simp only [zz_h_w]
        simp [yfh]
      · simp only [zz_h_w]
        simp [yfw]
      · simp only [zz_h_w]
        simp [yfd, yb_and, ra, yb_shl (a := a - 1) (by omega) (by omega)]
        omega
      · simp only [zz_h_w]
        simp [yfk]
      · simp only [zz_h_w]
        simp [yfo]
      · simp [zz_h_w]
  by_cases f6 : f = 6
  · subst f6
    simp only [Int.reduceEq, if_false, if_true]
    refine ⟨_, rfl, by (repeat (first | refine yK.w ?_ rfl | exact yK.rf)), yQ.rf, fun i j hi => ?_, ?_⟩
    · simp [zz_h_w, hi]
    · unfold yCA
      refine ⟨?_, fun v hv => ?_, fun v hv => ?_, fun v hv => ?_, fun v hv => ?_, fun v hv => ?_, fun v hv => ?_, ?_⟩
      · simp [zz_h_w]
      · simp only [zz_h_w]
        simp [yfm]
      · simp only [zz_h_w]
        simp [yfh]
      · simp only [zz_h_w]
        simp [yfw]
      · simp only [zz_h_w]
        simp [yfd]
      · simp only [zz_h_w]
        simp [yfk]
      · simp only [zz_h_w]
        simp [yfo]
      · simp [zz_h_w]
  by_cases f7 : f = 7
  · subst f7
    simp only [Int.reduceEq, if_false, if_true]
    have ra : zz_r (a - 1) = a - 1 := yy_r (by omega) (by omega)
    refine ⟨_, rfl, by (repeat (first | refine yK.w ?_ rfl | exact yK.rf)), yQ.rf, fun i j hi => ?_, ?_⟩
    · simp [zz_h_w, hi]
    · unfold yCA
      refine ⟨?_, fun v hv => ?_, fun v hv => ?_, fun v hv => ?_, fun v hv => ?_, fun v hv => ?_, fun v hv => ?_, ?_⟩
      · simp [zz_h_w]
      · simp only [zz_h_w]
        simp [yfm]
      · simp only [zz_h_w]
        simp [yfh]
      · simp only [zz_h_w]
        simp [yfw, yb_and, yb_shl (a := b) (by omega) (by omega)]
      · simp only [zz_h_w]
        simp [yfd]
      · simp only [zz_h_w]
        simp [yfk, yb_and, ra, yb_shl (a := a - 1) (by omega) (by omega)]
        omega
      · simp only [zz_h_w]
        simp [yfo]
      · simp [zz_h_w]
  by_cases f8 : f = 8
  · subst f8
    simp only [Int.reduceEq, if_false, if_true]
    have ra : zz_r (a - 1) = a - 1 := yy_r (by omega) (by omega)
    refine ⟨_, rfl, by (repeat (first | refine yK.w ?_ rfl | exact yK.rf)), yQ.rf, fun i j hi => ?_, ?_⟩
    · simp [zz_h_w, hi]
    · unfold yCA
      refine ⟨?_, fun v hv => ?_, fun v hv => ?_, fun v hv => ?_, fun v hv => ?_, fun v hv => ?_, fun v hv => ?_, ?_⟩
      · simp [zz_h_w]
      · simp only [zz_h_w]
        simp [yfm]
      · simp only [zz_h_w]
        simp [yfh]
      · simp only [zz_h_w]
        simp [yfw]
      · simp only [zz_h_w]
        simp [yfd]
      · simp only [zz_h_w]
        simp [yfk]
      · simp only [zz_h_w]
        simp [yfo, yb_and, ra, yb_shl (a := a - 1) (by omega) (by omega)]
        omega
      · simp [zz_h_w]
  omega
