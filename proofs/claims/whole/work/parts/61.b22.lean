/-! STAGE B: quotients, months -/
theorem zz_div_ok {x y : Int} (hx : 0 ≤ x) (hx2 : x < 2147483648) (hy : 0 < y) (hy2 : y < 2147483648) : zz_div x y = x / y := by
  unfold zz_div
  have q1 : 0 ≤ x / y := Int.ediv_nonneg hx (by omega)
  have q2 : x / y ≤ x := Int.ediv_le_self y hx
  rw [Int32.toInt_div, zz_toI ⟨by omega, hx2⟩, zz_toI ⟨by omega, hy2⟩, Int.tdiv_eq_ediv_of_nonneg hx, Int.bmod_eq_of_le (by omega) (by omega)]
theorem zz_rem_ok {x y : Int} (hx : 0 ≤ x) (hx2 : x < 2147483648) (hy : 0 < y) (hy2 : y < 2147483648) : zz_rem x y = x % y := by
  have d := zz_div_ok hx hx2 hy hy2
  unfold zz_div at d
  unfold zz_rem
  have q1 : 0 ≤ x / y := Int.ediv_nonneg hx (by omega)
  have q3 : x / y * y + x % y = x := by rw [Int.mul_comm]; exact Int.mul_ediv_add_emod x y
  have q4 : 0 ≤ x % y := Int.emod_nonneg x (by omega)
  have q5 : 0 ≤ x / y * y := Int.mul_nonneg q1 (by omega)
  have q6 : x % y < y := Int.emod_lt_of_pos x hy
  rw [Int32.toInt_sub, Int32.toInt_mul, d, zz_toI ⟨by omega, hx2⟩, zz_toI ⟨by omega, hy2⟩, Int.bmod_eq_of_le (n := x / y * y) (by omega) (by omega), Int.bmod_eq_of_le (by omega) (by omega)]
  omega
/-- month (from 0) of a day, first day of a month -/
def ymo (d : Int) : Int := if d < 31 then 0 else if d < 59 then 1 else if d < 90 then 2 else if d < 120 then 3 else if d < 151 then 4 else if d < 181 then 5 else if d < 212 then 6 else if d < 243 then 7 else if d < 273 then 8 else if d < 304 then 9 else if d < 334 then 10 else 11
def yst (m : Int) : Int := ([0, 31, 59, 90, 120, 151, 181, 212, 243, 273, 304, 334, 365] : List Int).getD m.toNat 0
theorem ymo_n : ∀ d : Nat, d < 365 → yst (ymo d) ≤ d ∧ (d : Int) < yst (ymo d + 1) ∧ 0 ≤ ymo d ∧ ymo d ≤ 11 ∧ (d : Int) - yst (ymo d) < 31 := by decide +kernel
theorem ymo_ok {d : Int} (h1 : 0 ≤ d) (h2 : d < 365) : yst (ymo d) ≤ d ∧ d < yst (ymo d + 1) ∧ 0 ≤ ymo d ∧ ymo d ≤ 11 ∧ d - yst (ymo d) < 31 := by
  have := ymo_n d.toNat (by omega)
  rw [Int.toNat_of_nonneg h1] at this
  exact this
theorem ymo_u_n : ∀ d : Nat, d < 365 → ∀ m : Nat, m < 12 → yst m ≤ d → (d : Int) < yst ((m : Int) + 1) → ymo d = m := by decide +kernel
theorem ymo_u {d : Int} (h1 : 0 ≤ d) (h2 : d < 365) (m : Nat) (hm : m < 12) (a : yst m ≤ d) (b : d < yst ((m : Int) + 1)) : ymo d = m := by
  have := ymo_u_n d.toNat (by omega) m hm
  rw [Int.toNat_of_nonneg h1] at this
  exact this a b
theorem yst_mono : ∀ m : Nat, m < 12 → yst m < yst ((m : Int) + 1) := by decide +kernel
theorem yst_rng : ∀ m : Nat, m < 13 → 0 ≤ yst m ∧ yst m ≤ 365 := by decide +kernel
theorem yN.st {X : zz_S} (h : yN X) {m : Nat} (hm : m < 13) : zz_h X 1 1 m = yst m := by
  rw [h.z1 m hm]
  unfold yst
  rw [Int.toNat_natCast]
theorem xC_monthOf_loop {X : zz_S} (h : yN X) {d : Int} (h1 : 0 ≤ d) (h2 : d < 365) : ∀ (k n m : Nat), m + k = 11 → k < n → yst m ≤ d → xC_monthOf_2 n d m X = some (ymo d, X) := by
  intro k
  induction k with
  | zero =>
    intro n m a b c
    obtain ⟨n, rfl⟩ : ∃ q, n = q + 1 := ⟨n - 1, by omega⟩
    have : m = 11 := by omega
    subst this
    rw [xC_monthOf_2, if_neg (by omega), ymo_u h1 h2 11 (by omega) c (by rw [show yst (((11 : Nat) : Int) + 1) = 365 from rfl]; exact h2)]
  | succ k ih =>
    intro n m a b c
    obtain ⟨n, rfl⟩ : ∃ q, n = q + 1 := ⟨n - 1, by omega⟩
    have rz : zz_r ((m : Int) + 1) = ((m + 1 : Nat) : Int) := by rw [yy_r (by omega) (by omega)]; omega
    rw [xC_monthOf_2, if_pos (by omega), rz, if_pos (show zz_b X 1 1 ((m + 1 : Nat) : Int) from ⟨by omega, by rw [ya_1]; omega⟩), h.st (by omega)]
    by_cases q : d < yst ((m + 1 : Nat) : Int)
    · rw [if_pos q, ymo_u h1 h2 m (by omega) c q]
    · rw [if_neg q]
      exact ih n (m + 1) (by omega) (by omega) (by omega)
theorem xC_monthOf_ok {X : zz_S} (h : yN X) {d : Int} (h1 : 0 ≤ d) (h2 : d < 365) : xC_monthOf d X = some (ymo d, X) := by
  have fu := yy_fu
  unfold xC_monthOf
  exact xC_monthOf_loop h h1 h2 11 zz_fu 0 (by omega) (by omega) (by rw [show yst ((0 : Nat) : Int) = 0 from rfl]; exact h1)
def yml (v : Int) : Int := if v = 2 then 28 else if v = 4 then 30 else if v = 6 then 30 else if v = 9 then 30 else if v = 11 then 30 else 31
theorem m_monthLength_ok (v : Int) (M : zz_S) : m_monthLength v M = some (yml v, M) := by
  unfold m_monthLength yml
  repeat' split
  all_goals rfl
theorem yml_ok : ∀ m : Nat, m < 12 → yml ((m + 1 : Nat) : Int) = yst ((m : Int) + 1) - yst m := by decide +kernel
def yn_lo (k : Nat) (j : Int) : Bool := !(k == 40 && 62 ≤ j && j ≤ 65)
theorem m_look_loop {d : Int} (h1 : 0 ≤ d) (h2 : d < 365) : ∀ (k n m : Nat) (M : zz_S), m + k = 11 → k < n → yst m ≤ d → zz_h M 40 1 62 = ((m + 1 : Nat) : Int) → ∃ M', m_look_11 n d (d - yst m) M = some (0, M') ∧ zz_h M' 40 1 62 = ymo d + 1 ∧ zz_h M' 40 1 63 = d - yst (ymo d) + 1 ∧ zz_h M' 40 1 64 = d % 7 ∧ zz_h M' 40 1 65 = yst (ymo d + 1) - yst (ymo d) ∧ yK yn_lo M M' := by
  intro k
  induction k with
  | zero =>
    intro n m M a b c e
    obtain ⟨n, rfl⟩ : ∃ q, n = q + 1 := ⟨n - 1, by omega⟩
    have : m = 11 := by omega
    subst this
    have u := ymo_u h1 h2 11 (by omega) c (by rw [show yst (((11 : Nat) : Int) + 1) = 365 from rfl]; exact h2)
    have l := yml_ok 11 (by omega)
    have c' : (334 : Int) ≤ d := c
    have e11 : yst ((11 : Nat) : Int) = 334 := rfl
    have e12 : yst (((11 : Nat) : Int) + 1) = 365 := rfl
    rw [m_look_11, e, m_monthLength_ok, Option.bind_some, l]
    dsimp only
    rw [if_pos (by omega), yy_r (by omega) (by omega), show zz_h (zz_w M 40 1 63 (d - yst ((11 : Nat) : Int) + 1)) 40 1 62 = ((11 + 1 : Nat) : Int) from (yy_slot (by decide)).trans e, m_monthLength_ok, Option.bind_some, l, zz_rem_ok h1 (by omega) (by decide) (by decide)]
    refine ⟨_, rfl, ?_, ?_, ?_, ?_, by (repeat (first | refine yK.w ?_ rfl | exact yK.rf))⟩
    · simp [zz_h_w, e, u]
    · simp [zz_h_w, u]
    · simp [zz_h_w]
    · simp [zz_h_w, u]
  | succ k ih =>
    intro n m M a b c e
    obtain ⟨n, rfl⟩ : ∃ q, n = q + 1 := ⟨n - 1, by omega⟩
    have l := yml_ok m (by omega)
    have g1 := yst_rng m (by omega)
    have g2 := yst_rng (m + 1) (by omega)
    rw [show ((m + 1 : Nat) : Int) = (m : Int) + 1 from rfl] at g2
    rw [m_look_11, e, m_monthLength_ok, Option.bind_some, l]
    dsimp only
    by_cases q : d < yst ((m : Int) + 1)
    · have u := ymo_u h1 h2 m (by omega) c q
      rw [if_pos (by omega), yy_r (by omega) (by omega), show zz_h (zz_w M 40 1 63 (d - yst (m : Int) + 1)) 40 1 62 = ((m + 1 : Nat) : Int) from (yy_slot (by decide)).trans e, m_monthLength_ok, Option.bind_some, l, zz_rem_ok h1 (by omega) (by decide) (by decide)]
      refine ⟨_, rfl, ?_, ?_, ?_, ?_, by (repeat (first | refine yK.w ?_ rfl | exact yK.rf))⟩
      · simp [zz_h_w, e, u]
      · simp [zz_h_w, u]
      · simp [zz_h_w]
      · simp [zz_h_w, u]
    · rw [if_neg (by omega), e, m_monthLength_ok, Option.bind_some, l]
      dsimp only
      rw [e, yy_r (by omega) (by omega), yy_r (by omega) (by omega)]
      obtain ⟨M', f1, f2⟩ := ih n (m + 1) (zz_w M 40 1 62 (((m + 1 : Nat) : Int) + 1)) (by omega) (by omega) (by rw [show ((m + 1 : Nat) : Int) = (m : Int) + 1 from rfl]; omega) yy_same
      refine ⟨M', ?_, f2.1, f2.2.1, f2.2.2.1, f2.2.2.2.1, (show yK yn_lo M _ from by (repeat (first | refine yK.w ?_ rfl | exact yK.rf))).tr f2.2.2.2.2⟩
      rw [← f1]
      congr 1
      rw [show ((m + 1 : Nat) : Int) = (m : Int) + 1 from rfl]
      omega
theorem m_look_ok {d : Int} (M : zz_S) (h1 : 0 ≤ d) (h2 : d < 365) : ∃ M', m_look d M = some (0, M') ∧ zz_h M' 40 1 62 = ymo d + 1 ∧ zz_h M' 40 1 63 = d - yst (ymo d) + 1 ∧ zz_h M' 40 1 64 = d % 7 ∧ zz_h M' 40 1 65 = yst (ymo d + 1) - yst (ymo d) ∧ yK yn_lo M M' := by
  have fu := yy_fu
  unfold m_look
  dsimp only
  rw [zz_rem_ok h1 (by omega) (by decide) (by decide)]
  obtain ⟨M', f1, f2, f3, f4, f5, f6⟩ := m_look_loop h1 h2 11 zz_fu 0 (zz_w M 40 1 62 1) (by omega) (by omega) (by rw [show yst ((0 : Nat) : Int) = 0 from rfl]; exact h1) yy_same
  refine ⟨M', ?_, f2, f3, f4, f5, (show yK yn_lo M _ from by (repeat (first | refine yK.w ?_ rfl | exact yK.rf))).tr f6⟩
  rw [← f1, show yst ((0 : Nat) : Int) = 0 from rfl, Int.emod_eq_of_lt h1 h2, Int.sub_zero]
