/-! STAGE B: whether a house's minute fits -/
noncomputable def yi (p : Prop) : Int := @ite Int p (Classical.propDecidable p) 1 0
theorem yi_pos {p : Prop} (h : p) : yi p = 1 := if_pos h
theorem yi_neg {p : Prop} (h : ¬ p) : yi p = 0 := if_neg h
theorem yi_cg {p q : Prop} (h : p ↔ q) : yi p = yi q := by rw [propext h]
theorem yi_01 (p : Prop) : yi p = 0 ∨ yi p = 1 := by
  by_cases h : p
  · exact Or.inr (yi_pos h)
  · exact Or.inl (yi_neg h)
theorem yi_0 {p : Prop} : yi p = 0 ↔ ¬ p := by
  by_cases h : p
  · rw [yi_pos h]
    exact ⟨fun z => absurd z (by decide), fun z => absurd h z⟩
  · rw [yi_neg h]
    exact ⟨fun _ => h, fun _ => rfl⟩
def yqm (h f a b : Int) : Prop := yfm f a b (h % 60) ∧ yfh f a b (h / 60 % 24)
def yqd (d f a b : Int) : Prop := yfw f a b (d % 7) ∧ yfd f a b (d - yst (ymo d)) ∧ yfk f a b ((d - yst (ymo d)) / 7) ∧ yfo f a b (ymo d) ∧ (f = 6 → d + 1 = yst (ymo d + 1))
/-- a house's minute fits by minute and hour, a day fits -/
def yPm (t : Int) (M : zz_S) (h : Int) : Prop := yfa (fun f a b _ => yqm h f a b) t M 0
def yPd (t : Int) (M : zz_S) (d : Int) : Prop := yfa (fun f a b _ => yqd d f a b) t M 0
theorem yPm_iff {t h : Int} {M : zz_S} : yPm t M h ↔ yfa yfm t M (h % 60) ∧ yfa yfh t M (h / 60 % 24) := by
  unfold yPm yfa yqm
  exact ⟨fun z => ⟨fun i a b => (z i a b).1, fun i a b => (z i a b).2⟩, fun z i a b => ⟨z.1 i a b, z.2 i a b⟩⟩
theorem yPd_iff {t d : Int} {M : zz_S} : yPd t M d ↔ yfa yfw t M (d % 7) ∧ yfa yfd t M (d - yst (ymo d)) ∧ yfa yfk t M ((d - yst (ymo d)) / 7) ∧ yfa yfo t M (ymo d) ∧ (¬ yfa (fun f _ _ _ => f ≠ 6) t M 0 → d + 1 = yst (ymo d + 1)) := by
  unfold yPd yfa yqd
  constructor
  · intro z
    refine ⟨fun i a b => (z i a b).1, fun i a b => (z i a b).2.1, fun i a b => (z i a b).2.2.1, fun i a b => (z i a b).2.2.2.1, fun w => ?_⟩
    refine Classical.byContradiction fun q => w fun i a b g => q ((z i a b).2.2.2.2 g)
  · intro z i a b
    refine ⟨z.1 i a b, z.2.1 i a b, z.2.2.1 i a b, z.2.2.2.1 i a b, fun g => z.2.2.2.2 fun w => w i a b g⟩
theorem xC_minuteFits_ok {t h : Int} {X M : zz_S} (E : yE t X M) (t0 : 0 ≤ t) (h0 : 0 ≤ h) (h1 : h < 2000000000) : xC_minuteFits (t + 1) h X = some (yi (yfa yfm t M (h % 60)), X) := by
  unfold xC_minuteFits
  rw [if_neg (show ¬ t + 1 = 0 by omega), zz_rem_ok h0 (by omega) (by decide) (by decide)]
  have m := E.m1 (h % 60).toNat (by omega)
  rw [Int.toNat_of_nonneg (by omega)] at m
  have y := yl_test (a := h % 60) (zz_h X 8 (t + 1) 1) (by omega) (by omega)
  by_cases c : yfa yfm t M (h % 60)
  · rw [if_neg, yi_pos c]
    rw [y, m.mpr c]
    decide
  · rw [if_pos, yi_neg c]
    rw [y]
    cases q : yl (zz_h X 8 (t + 1) 1) (h % 60).toNat
    · rfl
    · exact absurd (m.mp q) c
theorem xC_hourFits_ok {t h : Int} {X M : zz_S} (E : yE t X M) (t0 : 0 ≤ t) (h0 : 0 ≤ h) (h1 : h < 2000000000) : xC_hourFits (t + 1) h X = some (yi (yfa yfh t M (h / 60 % 24)), X) := by
  unfold xC_hourFits
  rw [if_neg (show ¬ t + 1 = 0 by omega), zz_div_ok h0 (by omega) (by decide) (by decide), zz_rem_ok (by omega) (by omega) (by decide) (by decide)]
  have m := E.m2 (h / 60 % 24).toNat (by omega)
  rw [Int.toNat_of_nonneg (by omega)] at m
  have y := yb_test (a := h / 60 % 24) (zz_h X 8 (t + 1) 2) (by omega) (by omega)
  by_cases c : yfa yfh t M (h / 60 % 24)
  · rw [if_neg, yi_pos c]
    rw [y, m.mpr c]
    decide
  · rw [if_pos, yi_neg c]
    rw [y]
    cases q : yb (zz_h X 8 (t + 1) 2) (h / 60 % 24).toNat
    · rfl
    · exact absurd (m.mp q) c
theorem yb_if {x a : Int} {p : Prop} (h0 : 0 ≤ a) (h1 : a < 32) (m : yb x a.toNat = true ↔ p) : zz_and (zz_shr x a) 1 = 0 ↔ ¬ p := by
  rw [yb_test x h0 h1, ← m]
  cases yb x a.toNat <;> simp
theorem xC_dayFits_ok {t d : Int} {X M : zz_S} (E : yE t X M) (N : yN X) (t0 : 0 ≤ t) (d0 : 0 ≤ d) (d1 : d < 365) : xC_dayFits (t + 1) d X = some (yi (yPd t M d), X) := by
  obtain ⟨s1, s2, s3, s4, s5⟩ := ymo_ok d0 d1
  have a1 : ¬ t + 1 = 0 := by omega
  have r1 := yst_rng (ymo d).toNat (by omega)
  rw [Int.toNat_of_nonneg s3] at r1
  have w := E.m3 (d % 7).toNat (by omega)
  rw [Int.toNat_of_nonneg (by omega)] at w
  have dd := E.m4 (d - yst (ymo d)).toNat (by omega)
  rw [Int.toNat_of_nonneg (by omega)] at dd
  have kk := E.m5 ((d - yst (ymo d)) / 7).toNat (by omega)
  rw [Int.toNat_of_nonneg (by omega)] at kk
  have oo := E.m6 (ymo d).toNat (by omega)
  rw [Int.toNat_of_nonneg (by omega)] at oo
  have st1 := N.st (m := (ymo d).toNat) (by omega)
  rw [Int.toNat_of_nonneg s3] at st1
  have st2 := N.st (m := (ymo d).toNat + 1) (by omega)
  rw [show (((ymo d).toNat + 1 : Nat) : Int) = ymo d + 1 by omega] at st2
  have z1 : zz_b X 1 1 (ymo d) := ⟨s3, by rw [ya_1]; omega⟩
  have z2 : zz_b X 1 1 (ymo d + 1) := ⟨by omega, by rw [ya_1]; omega⟩
  have e51 : xC_dayFits_51 (t + 1) (ymo d) (d - yst (ymo d)) X = some (yi (yfa yfd t M (d - yst (ymo d)) ∧ yfa yfk t M ((d - yst (ymo d)) / 7) ∧ yfa yfo t M (ymo d)), X) := by
    unfold xC_dayFits_51
    rw [if_neg a1, if_neg a1, if_neg a1, zz_div_ok (by omega) (by omega) (by decide) (by decide)]
    have b1 := yb_if s3 (by omega) oo
    have b2 := yb_if (by omega) (by omega) dd
    have b3 := yb_if (by omega) (by omega) kk
    by_cases c1 : yfa yfo t M (ymo d)
    · rw [if_neg (fun z => b1.mp z c1)]
      by_cases c2 : yfa yfd t M (d - yst (ymo d))
      · rw [if_neg (fun z => b2.mp z c2)]
        by_cases c3 : yfa yfk t M ((d - yst (ymo d)) / 7)
        · rw [if_neg (fun z => b3.mp z c3), yi_pos ⟨c2, c3, c1⟩]
        · rw [if_pos (b3.mpr c3), yi_neg (fun z => c3 z.2.1)]
      · rw [if_pos (b2.mpr c2), yi_neg (fun z => c2 z.1)]
    · rw [if_pos (b1.mpr c1), yi_neg (fun z => c1 z.2.2)]
  unfold xC_dayFits
  rw [if_neg a1, zz_rem_ok d0 (by omega) (by decide) (by decide), xC_monthOf_ok N d0 d1, Option.bind_some]
  dsimp only
  rw [if_pos z1, if_neg a1, st1, yy_r (z := d - yst (ymo d)) (by omega) (by omega), yy_r (z := ymo d + 1) (by omega) (by omega), if_pos z2, st2, yy_r (z := d + 1) (by omega) (by omega), e51]
  have b0 := yb_if (by omega) (by omega) w
  by_cases c0 : yfa yfw t M (d % 7)
  · rw [if_neg (fun z => b0.mp z c0)]
    rcases E.m7 with ⟨m1, m2⟩ | ⟨m1, m2⟩
    · rw [if_pos m1]
      congr 2
      rw [yi_cg yPd_iff]
      exact yi_cg ⟨fun z => ⟨c0, z.1, z.2.1, z.2.2, fun q => absurd m2 q⟩, fun z => ⟨z.2.1, z.2.2.1, z.2.2.2.1⟩⟩
    · rw [if_neg (by omega)]
      by_cases c6 : d + 1 = yst (ymo d + 1)
      · rw [if_pos c6]
        congr 2
        rw [yi_cg yPd_iff]
        exact yi_cg ⟨fun z => ⟨c0, z.1, z.2.1, z.2.2, fun q => c6⟩, fun z => ⟨z.2.1, z.2.2.1, z.2.2.2.1⟩⟩
      · rw [if_neg c6, yi_neg]
        rw [yPd_iff]
        exact fun z => c6 (z.2.2.2.2 m2)
  · rw [if_pos (b0.mpr c0), yi_neg]
    rw [yPd_iff]
    exact fun z => c0 z.1
theorem xC_fits_ok {t h : Int} {X M : zz_S} (E : yE t X M) (N : yN X) (t0 : 0 ≤ t) (h0 : 0 ≤ h) (h1 : h < 525600) : xC_fits (t + 1) h X = some (yi (yPm t M h ∧ yPd t M (h / 1440)), X) := by
  have a1 : ¬ t + 1 = 0 := by omega
  unfold xC_fits
  rw [if_neg (by omega), if_neg a1, xC_minuteFits_ok E t0 h0 (by omega), Option.bind_some]
  dsimp only
  by_cases c1 : yfa yfm t M (h % 60)
  · rw [yi_pos c1, if_neg (by decide), if_neg a1, xC_hourFits_ok E t0 h0 (by omega), Option.bind_some]
    dsimp only
    by_cases c2 : yfa yfh t M (h / 60 % 24)
    · rw [yi_pos c2, if_neg (by decide), if_neg a1, zz_div_ok h0 (by omega) (by decide) (by decide), xC_dayFits_ok E N t0 (by omega) (by omega), Option.bind_some]
      dsimp only
      by_cases c3 : yPd t M (h / 1440)
      · rw [yi_pos c3, if_neg (by decide), yi_pos ⟨yPm_iff.mpr ⟨c1, c2⟩, c3⟩]
      · rw [yi_neg c3, if_pos rfl, yi_neg (fun z => c3 z.2)]
    · rw [yi_neg c2, if_pos rfl, yi_neg (fun z => c2 (yPm_iff.mp z.1).2)]
  · rw [yi_neg c1, if_pos rfl, yi_neg (fun z => c1 (yPm_iff.mp z.1).1)]
-- the reference
theorem yi_more {F : Int} {P : Int → Prop} {i : Nat} (hi : P i) : yi (∀ j : Int, ((i + 1 : Nat) : Int) ≤ j → j < F → P j) = yi (∀ j : Int, (i : Int) ≤ j → j < F → P j) := by
  refine yi_cg ⟨fun z j a b => ?_, fun z j a b => z j (by omega) b⟩
  by_cases q : j = i
  · rw [q]
    exact hi
  · exact z j (by omega) b
theorem yi_stop {F : Int} {P : Int → Prop} {i : Nat} (hi : ¬ P i) (hF : (i : Int) < F) : yi (∀ j : Int, (i : Int) ≤ j → j < F → P j) = 0 := yi_neg fun z => hi (z i (by omega) hF)
theorem m_fitsMinute_loop {t m : Int} {M : zz_S} (t0 : 0 ≤ t) (t1 : t < 60) (hF : 0 ≤ zz_h M 64 1 t ∧ zz_h M 64 1 t ≤ 4) (m0 : 0 ≤ m) (m1 : m < 1440) : ∀ (k n i : Nat), (i : Int) + k = zz_h M 64 1 t → k < n → m_fitsMinute_4 n t m (4 * t + i) M = some (yi (∀ j : Int, (i : Int) ≤ j → j < zz_h M 64 1 t → yqm m (zz_h M 65 1 (4 * t + j)) (zz_h M 66 1 (4 * t + j)) (zz_h M 67 1 (4 * t + j))), M) := by
  have r4 : zz_r (4 * t) = 4 * t := yy_r (by omega) (by omega)
  have r5 : zz_r (4 * t + zz_h M 64 1 t) = 4 * t + zz_h M 64 1 t := yy_r (by omega) (by omega)
  have b64 : zz_b M 64 1 t := ⟨t0, by rw [ya_64]; omega⟩
  have d1 := zz_rem_ok (y := 60) m0 (by omega) (by decide) (by decide)
  have d2 := zz_div_ok (y := 60) m0 (by omega) (by decide) (by decide)
  intro k
  induction k with
  | zero =>
    intro n i a b
    obtain ⟨n, rfl⟩ : ∃ q, n = q + 1 := ⟨n - 1, by omega⟩
    rw [m_fitsMinute_4, if_pos b64, r4, r5, if_neg (by omega), yi_pos]
    intro j a b
    omega
  | succ k ih =>
    intro n i a b
    obtain ⟨n, rfl⟩ : ∃ q, n = q + 1 := ⟨n - 1, by omega⟩
    have e := ih n (i + 1) (by omega) (by omega)
    have r : zz_r (4 * t + (i : Int) + 1) = 4 * t + ((i + 1 : Nat) : Int) := by rw [yy_r (by omega) (by omega)]; omega
    have b65 : zz_b M 65 1 (4 * t + i) := ⟨by omega, by rw [ya_65]; omega⟩
    have b66 : zz_b M 66 1 (4 * t + i) := ⟨by omega, by rw [ya_66]; omega⟩
    have b67 : zz_b M 67 1 (4 * t + i) := ⟨by omega, by rw [ya_67]; omega⟩
    have go : yqm m (zz_h M 65 1 (4 * t + i)) (zz_h M 66 1 (4 * t + i)) (zz_h M 67 1 (4 * t + i)) → m_fitsMinute_4 n t m (4 * t + ((i + 1 : Nat) : Int)) M = some (yi (∀ j : Int, (i : Int) ≤ j → j < zz_h M 64 1 t → yqm m (zz_h M 65 1 (4 * t + j)) (zz_h M 66 1 (4 * t + j)) (zz_h M 67 1 (4 * t + j))), M) := by
      intro hp
      rw [e, yi_more (P := fun j => yqm m (zz_h M 65 1 (4 * t + j)) (zz_h M 66 1 (4 * t + j)) (zz_h M 67 1 (4 * t + j))) hp]
    have no : ¬ yqm m (zz_h M 65 1 (4 * t + i)) (zz_h M 66 1 (4 * t + i)) (zz_h M 67 1 (4 * t + i)) → (some (0, M) : zz_R) = some (yi (∀ j : Int, (i : Int) ≤ j → j < zz_h M 64 1 t → yqm m (zz_h M 65 1 (4 * t + j)) (zz_h M 66 1 (4 * t + j)) (zz_h M 67 1 (4 * t + j))), M) := by
      intro hp
      rw [yi_stop (P := fun j => yqm m (zz_h M 65 1 (4 * t + j)) (zz_h M 66 1 (4 * t + j)) (zz_h M 67 1 (4 * t + j))) hp (by omega)]
    have h24 : m / 60 % 24 = m / 60 := by omega
    unfold yqm yfm yfh at go no
    rw [m_fitsMinute_4, if_pos b64, r4, r5, if_pos (by omega), if_pos b65, if_pos b66, if_pos b66, if_pos b67, d1, d2, r, m_in_ok, if_pos b66, Option.bind_some]
    dsimp only
    unfold yqm yfm yfh
    by_cases c0 : zz_h M 65 1 (4 * t + i) = 0
    · rw [if_pos c0]
      by_cases c : m % 60 = zz_h M 66 1 (4 * t + i)
      · rw [if_pos c]
        exact go ⟨fun _ => c.symm, fun z => by omega, fun z => by omega⟩
      · rw [if_neg c]
        exact no (fun z => c (z.1 c0).symm)
    · rw [if_neg c0]
      by_cases c1 : zz_h M 65 1 (4 * t + i) = 1
      · rw [if_pos c1]
        by_cases c : m / 60 = zz_h M 66 1 (4 * t + i)
        · rw [if_pos c]
          exact go ⟨fun z => by omega, fun _ => by omega, fun z => by omega⟩
        · rw [if_neg c]
          exact no (fun z => c (by have := z.2.1 c1; omega))
      · rw [if_neg c1]
        by_cases c2 : zz_h M 65 1 (4 * t + i) = 2
        · rw [if_pos c2]
          by_cases c : zz_h M 66 1 (4 * t + i) ≤ m / 60 ∧ m / 60 ≤ zz_h M 67 1 (4 * t + i)
          · rw [if_pos c, if_neg (by decide)]
            exact go ⟨fun z => by omega, fun z => by omega, fun _ => by omega⟩
          · rw [if_neg c, if_pos rfl]
            exact no (fun z => c (by have := z.2.2 c2; omega))
        · rw [if_neg c2]
          exact go ⟨fun z => absurd z c0, fun z => absurd z c1, fun z => absurd z c2⟩
theorem m_fitsMinute_ok {t h : Int} {M : zz_S} (t0 : 0 ≤ t) (t1 : t < 60) (hF : 0 ≤ zz_h M 64 1 t ∧ zz_h M 64 1 t ≤ 4) : m_fitsMinute t (h % 1440) M = some (yi (yPm t M h), M) := by
  have fu := yy_fu
  have e := m_fitsMinute_loop (m := h % 1440) t0 t1 hF (by omega) (by omega) (zz_h M 64 1 t).toNat zz_fu 0 (by omega) (by omega)
  unfold m_fitsMinute
  rw [yy_r (by omega) (by omega), show 4 * t = 4 * t + ((0 : Nat) : Int) by omega, e]
  congr 2
  refine yi_cg ?_
  unfold yPm yfa yqm
  rw [show h % 1440 % 60 = h % 60 by omega, show h % 1440 / 60 % 24 = h / 60 % 24 by omega]
  exact ⟨fun z j a b => z j a b, fun z j a b => z j a b⟩
def yqe (M : zz_S) (f a b : Int) : Prop := (f = 3 → zz_h M 40 1 64 = a) ∧ (f = 4 → (a ≤ b ∧ a ≤ zz_h M 40 1 64 ∧ zz_h M 40 1 64 ≤ b) ∨ (b < a ∧ (a ≤ zz_h M 40 1 64 ∨ zz_h M 40 1 64 ≤ b))) ∧ (f = 5 → zz_h M 40 1 63 = a) ∧ (f = 6 → zz_h M 40 1 63 = zz_h M 40 1 65) ∧ (f = 7 → zz_h M 40 1 64 = b ∧ (zz_h M 40 1 63 - 1) / 7 + 1 = a) ∧ (f = 8 → zz_h M 40 1 62 = a)
theorem m_fitsDay_loop {t : Int} {M : zz_S} (t0 : 0 ≤ t) (t1 : t < 60) (hF : 0 ≤ zz_h M 64 1 t ∧ zz_h M 64 1 t ≤ 4) (m0 : 1 ≤ zz_h M 40 1 63) (m1 : zz_h M 40 1 63 ≤ 31) : ∀ (k n i : Nat), (i : Int) + k = zz_h M 64 1 t → k < n → m_fitsDay_4 n t (4 * t + i) M = some (yi (∀ j : Int, (i : Int) ≤ j → j < zz_h M 64 1 t → yqe M (zz_h M 65 1 (4 * t + j)) (zz_h M 66 1 (4 * t + j)) (zz_h M 67 1 (4 * t + j))), M) := by
  have r4 : zz_r (4 * t) = 4 * t := yy_r (by omega) (by omega)
  have r5 : zz_r (4 * t + zz_h M 64 1 t) = 4 * t + zz_h M 64 1 t := yy_r (by omega) (by omega)
  have b64 : zz_b M 64 1 t := ⟨t0, by rw [ya_64]; omega⟩
  have d1 : zz_r (zz_div (zz_r (zz_h M 40 1 63 - 1)) 7 + 1) = (zz_h M 40 1 63 - 1) / 7 + 1 := by
    rw [yy_r (z := zz_h M 40 1 63 - 1) (by omega) (by omega), zz_div_ok (by omega) (by omega) (by decide) (by decide), yy_r (by omega) (by omega)]
  intro k
  induction k with
  | zero =>
    intro n i a b
    obtain ⟨n, rfl⟩ : ∃ q, n = q + 1 := ⟨n - 1, by omega⟩
    rw [m_fitsDay_4, if_pos b64, r4, r5, if_neg (by omega), yi_pos]
    intro j a b
    omega
  | succ k ih =>
    intro n i a b
    obtain ⟨n, rfl⟩ : ∃ q, n = q + 1 := ⟨n - 1, by omega⟩
    have e := ih n (i + 1) (by omega) (by omega)
    have r : zz_r (4 * t + (i : Int) + 1) = 4 * t + ((i + 1 : Nat) : Int) := by rw [yy_r (by omega) (by omega)]; omega
    have b65 : zz_b M 65 1 (4 * t + i) := ⟨by omega, by rw [ya_65]; omega⟩
    have b66 : zz_b M 66 1 (4 * t + i) := ⟨by omega, by rw [ya_66]; omega⟩
    have b67 : zz_b M 67 1 (4 * t + i) := ⟨by omega, by rw [ya_67]; omega⟩
    have go : yqe M (zz_h M 65 1 (4 * t + i)) (zz_h M 66 1 (4 * t + i)) (zz_h M 67 1 (4 * t + i)) → m_fitsDay_4 n t (4 * t + ((i + 1 : Nat) : Int)) M = some (yi (∀ j : Int, (i : Int) ≤ j → j < zz_h M 64 1 t → yqe M (zz_h M 65 1 (4 * t + j)) (zz_h M 66 1 (4 * t + j)) (zz_h M 67 1 (4 * t + j))), M) := by
      intro hp
      rw [e, yi_more (P := fun j => yqe M (zz_h M 65 1 (4 * t + j)) (zz_h M 66 1 (4 * t + j)) (zz_h M 67 1 (4 * t + j))) hp]
    have no : ¬ yqe M (zz_h M 65 1 (4 * t + i)) (zz_h M 66 1 (4 * t + i)) (zz_h M 67 1 (4 * t + i)) → (some (0, M) : zz_R) = some (yi (∀ j : Int, (i : Int) ≤ j → j < zz_h M 64 1 t → yqe M (zz_h M 65 1 (4 * t + j)) (zz_h M 66 1 (4 * t + j)) (zz_h M 67 1 (4 * t + j))), M) := by
      intro hp
      rw [yi_stop (P := fun j => yqe M (zz_h M 65 1 (4 * t + j)) (zz_h M 66 1 (4 * t + j)) (zz_h M 67 1 (4 * t + j))) hp (by omega)]
    rw [m_fitsDay_4]
    unfold m_fitsDay_134 m_fitsDay_211
    rw [if_pos b64, r4, r5, if_pos (by omega), if_pos b66, if_pos b67, if_pos b65, r, m_in_ok, d1, Option.bind_some]
    dsimp only
    by_cases c3 : zz_h M 65 1 (4 * t + i) = 3
    · rw [if_pos c3]
      by_cases c : zz_h M 40 1 64 = zz_h M 66 1 (4 * t + i)
      · rw [if_pos c]
        exact go ⟨fun _ => c, fun z => by omega, fun z => by omega, fun z => by omega, fun z => by omega, fun z => by omega⟩
      · rw [if_neg c]
        exact no (fun z => c (z.1 c3))
    rw [if_neg c3]
    by_cases c4 : zz_h M 65 1 (4 * t + i) = 4
    · rw [if_pos c4]
      by_cases c : (zz_h M 66 1 (4 * t + i) ≤ zz_h M 67 1 (4 * t + i) ∧ zz_h M 66 1 (4 * t + i) ≤ zz_h M 40 1 64 ∧ zz_h M 40 1 64 ≤ zz_h M 67 1 (4 * t + i)) ∨ (zz_h M 67 1 (4 * t + i) < zz_h M 66 1 (4 * t + i) ∧ (zz_h M 66 1 (4 * t + i) ≤ zz_h M 40 1 64 ∨ zz_h M 40 1 64 ≤ zz_h M 67 1 (4 * t + i)))
      · have g := go ⟨fun z => by omega, fun _ => c, fun z => by omega, fun z => by omega, fun z => by omega, fun z => by omega⟩
        by_cases q1 : zz_h M 66 1 (4 * t + i) ≤ zz_h M 67 1 (4 * t + i)
        · rw [if_pos q1, if_pos (show zz_h M 66 1 (4 * t + i) ≤ zz_h M 40 1 64 ∧ zz_h M 40 1 64 ≤ zz_h M 67 1 (4 * t + i) by omega), if_neg (by decide)]
          exact g
        · rw [if_neg q1]
          by_cases q2 : zz_h M 40 1 64 < zz_h M 66 1 (4 * t + i)
          · rw [if_pos q2, if_pos (show zz_h M 40 1 64 ≤ zz_h M 67 1 (4 * t + i) by omega)]
            exact g
          · rw [if_neg q2]
            exact g
      · have g := no (fun z => c (z.2.1 c4))
        by_cases q1 : zz_h M 66 1 (4 * t + i) ≤ zz_h M 67 1 (4 * t + i)
        · rw [if_pos q1, if_neg (show ¬ (zz_h M 66 1 (4 * t + i) ≤ zz_h M 40 1 64 ∧ zz_h M 40 1 64 ≤ zz_h M 67 1 (4 * t + i)) by omega), if_pos rfl]
          exact g
        · rw [if_neg q1, if_pos (show zz_h M 40 1 64 < zz_h M 66 1 (4 * t + i) by omega), if_neg (show ¬ zz_h M 40 1 64 ≤ zz_h M 67 1 (4 * t + i) by omega)]
          exact g
    rw [if_neg c4]
    by_cases c5 : zz_h M 65 1 (4 * t + i) = 5
    · rw [if_pos c5]
      by_cases c : zz_h M 40 1 63 = zz_h M 66 1 (4 * t + i)
      · rw [if_pos c]
        exact go ⟨fun z => by omega, fun z => by omega, fun _ => c, fun z => by omega, fun z => by omega, fun z => by omega⟩
      · rw [if_neg c]
        exact no (fun z => c (z.2.2.1 c5))
    rw [if_neg c5]
    by_cases c6 : zz_h M 65 1 (4 * t + i) = 6
    · rw [if_pos c6]
      by_cases c : zz_h M 40 1 63 = zz_h M 40 1 65
      · rw [if_pos c]
        exact go ⟨fun z => by omega, fun z => by omega, fun z => by omega, fun _ => c, fun z => by omega, fun z => by omega⟩
      · rw [if_neg c]
        exact no (fun z => c (z.2.2.2.1 c6))
    rw [if_neg c6]
    by_cases c7 : zz_h M 65 1 (4 * t + i) = 7
    · rw [if_pos c7]
      by_cases c : zz_h M 40 1 64 = zz_h M 67 1 (4 * t + i)
      · rw [if_pos c]
        by_cases c' : (zz_h M 40 1 63 - 1) / 7 + 1 = zz_h M 66 1 (4 * t + i)
        · rw [if_pos c']
          exact go ⟨fun z => by omega, fun z => by omega, fun z => by omega, fun z => by omega, fun _ => ⟨c, c'⟩, fun z => by omega⟩
        · rw [if_neg c']
          exact no (fun z => c' (z.2.2.2.2.1 c7).2)
      · rw [if_neg c]
        exact no (fun z => c (z.2.2.2.2.1 c7).1)
    rw [if_neg c7]
    by_cases c8 : zz_h M 65 1 (4 * t + i) = 8
    · rw [if_pos c8]
      by_cases c : zz_h M 40 1 62 = zz_h M 66 1 (4 * t + i)
      · rw [if_pos c]
        exact go ⟨fun z => by omega, fun z => by omega, fun z => by omega, fun z => by omega, fun z => by omega, fun _ => c⟩
      · rw [if_neg c]
        exact no (fun z => c (z.2.2.2.2.2 c8))
    rw [if_neg c8]
    exact go ⟨fun z => absurd z c3, fun z => absurd z c4, fun z => absurd z c5, fun z => absurd z c6, fun z => absurd z c7, fun z => absurd z c8⟩
theorem m_fitsDay_ok {t d : Int} {M M' : zz_S} (t0 : 0 ≤ t) (t1 : t < 60) (hF : 0 ≤ zz_h M 64 1 t ∧ zz_h M 64 1 t ≤ 4) (d0 : 0 ≤ d) (d1 : d < 365) (e1 : zz_h M' 40 1 62 = ymo d + 1) (e2 : zz_h M' 40 1 63 = d - yst (ymo d) + 1) (e3 : zz_h M' 40 1 64 = d % 7) (e4 : zz_h M' 40 1 65 = yst (ymo d + 1) - yst (ymo d)) (k : yK yn_lo M M') : m_fitsDay t M' = some (yi (yPd t M d), M') := by
  have fu := yy_fu
  obtain ⟨s1, s2, s3, s4, s5⟩ := ymo_ok d0 d1
  have k64 := k 64 1 t rfl
  have e := m_fitsDay_loop (M := M') t0 t1 (by omega) (by omega) (by omega) (zz_h M' 64 1 t).toNat zz_fu 0 (by omega) (by omega)
  unfold m_fitsDay
  rw [yy_r (by omega) (by omega), show 4 * t = 4 * t + ((0 : Nat) : Int) by omega, e]
  congr 2
  refine yi_cg ?_
  unfold yPd yfa yqe yqd yfw yfd yfk yfo
  rw [e1, e2, e3, e4, k64]
  constructor
  · intro z j a b
    have := z j a b
    rw [k 65 1 _ rfl, k 66 1 _ rfl, k 67 1 _ rfl] at this
    obtain ⟨z3, z4, z5, z6, z7, z8⟩ := this
    refine ⟨⟨fun q => (z3 q).symm, z4, fun q => (z7 q).1.symm⟩, fun q => ?_, fun q => ?_, fun q => ?_, fun q => ?_⟩
    · have := z5 q
      omega
    · have := (z7 q).2
      omega
    · have := z8 q
      omega
    · have := z6 q
      omega
  · intro z j a b
    have := z j a b
    rw [k 65 1 _ rfl, k 66 1 _ rfl, k 67 1 _ rfl]
    obtain ⟨⟨w3, w4, w7⟩, w5, w7', w8, w6⟩ := this
    refine ⟨fun q => (w3 q).symm, w4, fun q => ?_, fun q => ?_, fun q => ⟨(w7 q).symm, ?_⟩, fun q => ?_⟩
    · have := w5 q
      omega
    · have := w6 q
      omega
    · have := w7' q
      omega
    · have := w8 q
      omega
theorem m_fits_ok {t h : Int} {M : zz_S} (t0 : 0 ≤ t) (t1 : t < 60) (hF : 0 ≤ zz_h M 64 1 t ∧ zz_h M 64 1 t ≤ 4) (h0 : 0 ≤ h) (h1 : h < 525600) : ∃ M', m_fits t h M = some (yi (yPm t M h ∧ yPd t M (h / 1440)), M') ∧ yK yn_lo M M' := by
  unfold m_fits
  rw [zz_rem_ok h0 (by omega) (by decide) (by decide), m_fitsMinute_ok t0 t1 hF, Option.bind_some]
  dsimp only
  by_cases c1 : yPm t M h
  · rw [yi_pos c1, if_neg (by decide), zz_div_ok h0 (by omega) (by decide) (by decide)]
    obtain ⟨M', f1, f2, f3, f4, f5, f6⟩ := m_look_ok M (d := h / 1440) (by omega) (by omega)
    rw [f1, Option.bind_some]
    dsimp only
    rw [m_fitsDay_ok t0 t1 hF (by omega) (by omega) f2 f3 f4 f5 f6, Option.bind_some]
    dsimp only
    rw [if_pos (yi_01 _)]
    refine ⟨M', ?_, f6⟩
    congr 2
    exact yi_cg ⟨fun z => ⟨c1, z⟩, fun z => z.2⟩
  · rw [yi_neg c1, if_pos rfl]
    refine ⟨M, ?_, yK.rf⟩
    rw [yi_neg (fun z => c1 z.1)]
