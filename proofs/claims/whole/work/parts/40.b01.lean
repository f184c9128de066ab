/-! STAGE B: plain facts of the abstract state -/
theorem ya_1 (σ : zz_S) (x : Int) : zz_al σ 1 x = 13 := rfl
theorem ya_2 (σ : zz_S) (x : Int) : zz_al σ 2 x = 9 := rfl
theorem ya_11 (σ : zz_S) (x : Int) : zz_al σ 11 x = 60 := rfl
theorem ya_12 (σ : zz_S) (x : Int) : zz_al σ 12 x = 2000 := rfl
theorem ya_13 (σ : zz_S) (x : Int) : zz_al σ 13 x = 8 := rfl
theorem ya_14 (σ : zz_S) (x : Int) : zz_al σ 14 x = 8 := rfl
theorem ya_15 (σ : zz_S) (x : Int) : zz_al σ 15 x = 8 := rfl
theorem ya_16 (σ : zz_S) (x : Int) : zz_al σ 16 x = 8 := rfl
theorem ya_17 (σ : zz_S) (x : Int) : zz_al σ 17 x = 8 := rfl
theorem ya_18 (σ : zz_S) (x : Int) : zz_al σ 18 x = 60 := rfl
theorem ya_19 (σ : zz_S) (x : Int) : zz_al σ 19 x = 100 := rfl
theorem ya_20 (σ : zz_S) (x : Int) : zz_al σ 20 x = 100 := rfl
theorem ya_21 (σ : zz_S) (x : Int) : zz_al σ 21 x = 100 := rfl
theorem ya_22 (σ : zz_S) (x : Int) : zz_al σ 22 x = 300 := rfl
theorem ya_23 (σ : zz_S) (x : Int) : zz_al σ 23 x = 300 := rfl
theorem ya_24 (σ : zz_S) (x : Int) : zz_al σ 24 x = 300 := rfl
theorem ya_25 (σ : zz_S) (x : Int) : zz_al σ 25 x = 40 := rfl
theorem ya_26 (σ : zz_S) (x : Int) : zz_al σ 26 x = 40 := rfl
theorem ya_27 (σ : zz_S) (x : Int) : zz_al σ 27 x = 40 := rfl
theorem ya_28 (σ : zz_S) (x : Int) : zz_al σ 28 x = 6 := rfl
theorem ya_29 (σ : zz_S) (x : Int) : zz_al σ 29 x = 4 := rfl
theorem ya_30 (σ : zz_S) (x : Int) : zz_al σ 30 x = 4 := rfl
theorem ya_41 (σ : zz_S) (x : Int) : zz_al σ 41 x = 8 := rfl
theorem ya_42 (σ : zz_S) (x : Int) : zz_al σ 42 x = 8 := rfl
theorem ya_43 (σ : zz_S) (x : Int) : zz_al σ 43 x = 8 := rfl
theorem ya_44 (σ : zz_S) (x : Int) : zz_al σ 44 x = 60 := rfl
theorem ya_45 (σ : zz_S) (x : Int) : zz_al σ 45 x = 60 := rfl
theorem ya_46 (σ : zz_S) (x : Int) : zz_al σ 46 x = 60 := rfl
theorem ya_47 (σ : zz_S) (x : Int) : zz_al σ 47 x = 60 := rfl
theorem ya_48 (σ : zz_S) (x : Int) : zz_al σ 48 x = 60 := rfl
theorem ya_49 (σ : zz_S) (x : Int) : zz_al σ 49 x = 60 := rfl
theorem ya_50 (σ : zz_S) (x : Int) : zz_al σ 50 x = 60 := rfl
theorem ya_51 (σ : zz_S) (x : Int) : zz_al σ 51 x = 60 := rfl
theorem ya_52 (σ : zz_S) (x : Int) : zz_al σ 52 x = 60 := rfl
theorem ya_53 (σ : zz_S) (x : Int) : zz_al σ 53 x = 60 := rfl
theorem ya_54 (σ : zz_S) (x : Int) : zz_al σ 54 x = 60 := rfl
theorem ya_55 (σ : zz_S) (x : Int) : zz_al σ 55 x = 60 := rfl
theorem ya_56 (σ : zz_S) (x : Int) : zz_al σ 56 x = 60 := rfl
theorem ya_57 (σ : zz_S) (x : Int) : zz_al σ 57 x = 60 := rfl
theorem ya_58 (σ : zz_S) (x : Int) : zz_al σ 58 x = 60 := rfl
theorem ya_59 (σ : zz_S) (x : Int) : zz_al σ 59 x = 60 := rfl
theorem ya_60 (σ : zz_S) (x : Int) : zz_al σ 60 x = 60 := rfl
theorem ya_61 (σ : zz_S) (x : Int) : zz_al σ 61 x = 60 := rfl
theorem ya_62 (σ : zz_S) (x : Int) : zz_al σ 62 x = 60 := rfl
theorem ya_63 (σ : zz_S) (x : Int) : zz_al σ 63 x = 60 := rfl
theorem ya_64 (σ : zz_S) (x : Int) : zz_al σ 64 x = 60 := rfl
theorem ya_65 (σ : zz_S) (x : Int) : zz_al σ 65 x = 240 := rfl
theorem ya_66 (σ : zz_S) (x : Int) : zz_al σ 66 x = 240 := rfl
theorem ya_67 (σ : zz_S) (x : Int) : zz_al σ 67 x = 240 := rfl
theorem ya_68 (σ : zz_S) (x : Int) : zz_al σ 68 x = 60 := rfl
theorem ya_69 (σ : zz_S) (x : Int) : zz_al σ 69 x = 240 := rfl
theorem ya_70 (σ : zz_S) (x : Int) : zz_al σ 70 x = 240 := rfl
theorem ya_71 (σ : zz_S) (x : Int) : zz_al σ 71 x = 40 := rfl
theorem ya_72 (σ : zz_S) (x : Int) : zz_al σ 72 x = 40 := rfl
theorem ya_73 (σ : zz_S) (x : Int) : zz_al σ 73 x = 40 := rfl
theorem ya_74 (σ : zz_S) (x : Int) : zz_al σ 74 x = 8 := rfl
theorem ya_75 (σ : zz_S) (x : Int) : zz_al σ 75 x = 2000 := rfl
theorem ya_76 (σ : zz_S) (x : Int) : zz_al σ 76 x = 2000 := rfl
theorem ya_77 (σ : zz_S) (x : Int) : zz_al σ 77 x = 2000 := rfl
theorem ya_78 (σ : zz_S) (x : Int) : zz_al σ 78 x = 2000 := rfl
theorem ya_79 (σ : zz_S) (x : Int) : zz_al σ 79 x = 2000 := rfl
theorem ya_80 (σ : zz_S) (x : Int) : zz_al σ 80 x = 2000 := rfl
theorem ya_81 (σ : zz_S) (x : Int) : zz_al σ 81 x = 2000 := rfl
theorem ya_82 (σ : zz_S) (x : Int) : zz_al σ 82 x = 2000 := rfl
theorem ya_83 (σ : zz_S) (x : Int) : zz_al σ 83 x = 2000 := rfl
theorem ya_84 (σ : zz_S) (x : Int) : zz_al σ 84 x = 2000 := rfl
theorem ya_85 (σ : zz_S) (x : Int) : zz_al σ 85 x = 100 := rfl
theorem ya_86 (σ : zz_S) (x : Int) : zz_al σ 86 x = 100 := rfl
theorem ya_87 (σ : zz_S) (x : Int) : zz_al σ 87 x = 100 := rfl
theorem ya_88 (σ : zz_S) (x : Int) : zz_al σ 88 x = 300 := rfl
theorem ya_89 (σ : zz_S) (x : Int) : zz_al σ 89 x = 300 := rfl
theorem ya_90 (σ : zz_S) (x : Int) : zz_al σ 90 x = 300 := rfl
theorem ya_91 (σ : zz_S) (x : Int) : zz_al σ 91 x = 60 := rfl
theorem yy_fu : 1000000000 ≤ zz_fu := Classical.choose_spec zz_fu_ex
theorem yy_r {z : Int} (h1 : -2147483648 ≤ z) (h2 : z < 2147483648) : zz_r z = z := zz_toI ⟨h1, h2⟩
/-- the same but for one key -/
theorem yy_same {σ : zz_S} {k : Nat} {i j v : Int} : zz_h (zz_w σ k i j v) k i j = v := by rw [zz_h_w, if_pos ⟨rfl, rfl, rfl⟩]
theorem yy_kind {σ : zz_S} {k k' : Nat} {i j v i' j' : Int} (h : ¬ k' = k) : zz_h (zz_w σ k i j v) k' i' j' = zz_h σ k' i' j' := by rw [zz_h_w, if_neg (fun z => h z.1)]
theorem yy_num {σ : zz_S} {k k' : Nat} {i j v i' j' : Int} (h : ¬ i' = i) : zz_h (zz_w σ k i j v) k' i' j' = zz_h σ k' i' j' := by rw [zz_h_w, if_neg (fun z => h z.2.1)]
theorem yy_slot {σ : zz_S} {k k' : Nat} {i j v i' j' : Int} (h : ¬ j' = j) : zz_h (zz_w σ k i j v) k' i' j' = zz_h σ k' i' j' := by rw [zz_h_w, if_neg (fun z => h z.2.2)]
-- the smallest methods
theorem m_in_ok (v a b : Int) (σ : zz_S) : m_in v a b σ = some (if a ≤ v ∧ v ≤ b then 1 else 0, σ) := by
  unfold m_in
  by_cases h1 : v < a
  · rw [if_pos h1, if_neg (by omega)]
  · rw [if_neg h1]
    by_cases h2 : v ≤ b
    · rw [if_pos h2, if_pos (by omega)]
    · rw [if_neg h2, if_neg (by omega)]
theorem x_isWithin_ok (v a b : Int) (σ : zz_S) : x_isWithin v a b σ = some (if a ≤ v ∧ v ≤ b then 1 else 0, σ) := by
  unfold x_isWithin
  by_cases h1 : v < a
  · rw [if_pos h1, if_neg (by omega)]
  · rw [if_neg h1]
    by_cases h2 : v ≤ b
    · rw [if_pos h2, if_pos (by omega)]
    · rw [if_neg h2, if_neg (by omega)]
/-- how many of the first n numbers have a property -/
def yy_ct (p : Int → Bool) : Nat → Int
  | 0 => 0
  | n + 1 => yy_ct p n + (if p n then 1 else 0)
theorem yy_ct_rng (p : Int → Bool) : ∀ n : Nat, 0 ≤ yy_ct p n ∧ yy_ct p n ≤ n
  | 0 => ⟨Int.le_refl _, Int.le_refl _⟩
  | n + 1 => by
    have := yy_ct_rng p n
    rw [yy_ct]
    split <;> omega
theorem m_isTask_ok (t : Int) (σ : zz_S) (h : 0 ≤ zz_h σ 40 1 9 ∧ zz_h σ 40 1 9 ≤ 60) : m_isTask t σ = some (if 0 ≤ t ∧ t < zz_h σ 40 1 9 then 1 else 0, σ) := by
  unfold m_isTask
  rw [yy_r (by omega) (by omega), m_in_ok, Option.bind_some]
  dsimp only
  by_cases c : 0 ≤ t ∧ t < zz_h σ 40 1 9
  · rw [if_pos (show 0 ≤ t ∧ t ≤ zz_h σ 40 1 9 - 1 by omega), if_pos c, if_pos (Or.inr rfl)]
  · rw [if_neg (show ¬ (0 ≤ t ∧ t ≤ zz_h σ 40 1 9 - 1) by omega), if_neg c, if_pos (Or.inl rfl)]
theorem m_isActive_ok (t : Int) (σ : zz_S) (h : 0 ≤ t ∧ t < 60) : m_isActive t σ = some (if zz_h σ 56 1 t = 0 then 1 else 0, σ) := by
  unfold m_isActive
  rw [if_pos (show zz_b σ 56 1 t from h)]
  split <;> rfl
theorem m_atWork_loop {σ : zz_S} (hW : 0 ≤ zz_h σ 40 1 4 ∧ zz_h σ 40 1 4 ≤ 8) : ∀ (k n w : Nat), (w : Int) + k = zz_h σ 40 1 4 → k < n → m_atWork_4 n (yy_ct (fun j => decide (zz_h σ 41 1 j ≠ -1)) w) w σ = some (yy_ct (fun j => decide (zz_h σ 41 1 j ≠ -1)) (w + k), σ) := by
  intro k
  induction k with
  | zero =>
    intro n w h1 h2
    obtain ⟨n, rfl⟩ : ∃ q, n = q + 1 := ⟨n - 1, by omega⟩
    rw [m_atWork_4, if_neg (by omega)]
    rfl
  | succ k ih =>
    intro n w h1 h2
    obtain ⟨n, rfl⟩ : ∃ q, n = q + 1 := ⟨n - 1, by omega⟩
    have hr := yy_ct_rng (fun j => decide (zz_h σ 41 1 j ≠ -1)) w
    have e := ih n (w + 1) (by omega) (by omega)
    rw [show w + 1 + k = w + (k + 1) by omega] at e
    rw [m_atWork_4, if_pos (by omega), if_pos (show zz_b σ 41 1 (w : Int) from ⟨by omega, by rw [ya_41]; omega⟩), yy_r (by omega) (by omega), yy_r (by omega) (by omega)]
    rw [yy_ct] at e
    split
    · rename_i c
      rw [if_neg (by simp [c]), Int.add_zero] at e
      exact e
    · rename_i c
      rw [if_pos (by simp [c])] at e
      exact e
theorem m_atWork_ok {σ : zz_S} (hW : 0 ≤ zz_h σ 40 1 4 ∧ zz_h σ 40 1 4 ≤ 8) : m_atWork σ = some (yy_ct (fun j => decide (zz_h σ 41 1 j ≠ -1)) (zz_h σ 40 1 4).toNat, σ) := by
  have := m_atWork_loop hW (zz_h σ 40 1 4).toNat zz_fu 0 (by omega) (by have := yy_fu; omega)
  rw [Nat.zero_add] at this
  exact this
