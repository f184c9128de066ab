/-! STAGE B: the relation of the two halves, in groups -/
/-- keys (kind, slot) that are kept -/
def yK (p : Nat → Int → Bool) (s t : zz_S) : Prop := ∀ k i j, p k j = true → zz_h t k i j = zz_h s k i j
theorem yK.rf {p : Nat → Int → Bool} {s : zz_S} : yK p s s := fun _ _ _ _ => rfl
theorem yK.tr {p : Nat → Int → Bool} {s t u : zz_S} (h : yK p s t) (g : yK p t u) : yK p s u := fun k i j e => (g k i j e).trans (h k i j e)
theorem yK.w {p : Nat → Int → Bool} {s t : zz_S} {k : Nat} {i j v : Int} (h : yK p s t) (e : p k j = false) : yK p s (zz_w t k i j v) := fun k' i' j' e' => by
  rw [zz_h_w, if_neg]
  · exact h k' i' j' e'
  · rintro ⟨rfl, -, rfl⟩
    rw [e] at e'
    exact Bool.noConfusion e'
theorem yK.sub {p q : Nat → Int → Bool} {s t : zz_S} (h : yK p s t) (e : ∀ k j, q k j = true → p k j = true) : yK q s t := fun k i j e' => h k i j (e k j e')
/-- the house -/
structure yA (X M : zz_S) : Prop where
  n : zz_h X 3 1 11 = zz_h M 40 1 9
  nr : 0 ≤ zz_h M 40 1 9 ∧ zz_h M 40 1 9 ≤ 60
  r : zz_h X 3 1 12 = zz_h M 40 1 42
  rr : 0 ≤ zz_h M 40 1 42 ∧ zz_h M 40 1 42 ≤ 2000
  g : zz_h X 3 1 14 = zz_h M 40 1 7
  gr : 0 ≤ zz_h M 40 1 7 ∧ zz_h M 40 1 7 ≤ 8
  w : zz_h X 3 1 15 = zz_h M 40 1 4
  wr : 1 ≤ zz_h M 40 1 4 ∧ zz_h M 40 1 4 ≤ 8
  t : zz_h X 3 1 16 = zz_h M 40 1 0
  tr : 0 ≤ zz_h M 40 1 0 ∧ zz_h M 40 1 0 ≤ 400000
  o : zz_h X 3 1 17 = zz_h M 40 1 1
  or : -1440 ≤ zz_h M 40 1 1 ∧ zz_h M 40 1 1 ≤ 1440
  to : 0 ≤ zz_h M 40 1 0 + zz_h M 40 1 1
  h : zz_h X 3 1 18 = zz_h M 40 1 2
  hr : -1 ≤ zz_h M 40 1 2 ∧ zz_h M 40 1 2 ≤ 401440
  s : zz_h X 3 1 19 = zz_h M 40 1 3
  sr : zz_h M 40 1 3 = 0 ∨ zz_h M 40 1 3 = 1
  p : zz_h X 6 1 3 = zz_h M 40 1 37
  pr : 0 ≤ zz_h M 40 1 37 ∧ zz_h M 40 1 37 ≤ 40
def yk_A (k : Nat) (j : Int) : Bool := (k == 3 && j != 13) || (k == 40 && (j ≤ 9 || j == 37 || j == 42)) || (k == 6 && j == 3)
theorem yA.cg {X M X' M' : zz_S} (h : yA X M) (hx : yK yk_A X X') (hm : yK yk_A M M') : yA X' M' := by
  have x1 := hx 3 1 11 rfl
  have x2 := hx 3 1 12 rfl
  have x3 := hx 3 1 14 rfl
  have x4 := hx 3 1 15 rfl
  have x5 := hx 3 1 16 rfl
  have x6 := hx 3 1 17 rfl
  have x7 := hx 3 1 18 rfl
  have x8 := hx 3 1 19 rfl
  have x9 := hx 6 1 3 rfl
  have m1 := hm 40 1 9 rfl
  have m2 := hm 40 1 42 rfl
  have m3 := hm 40 1 7 rfl
  have m4 := hm 40 1 4 rfl
  have m5 := hm 40 1 0 rfl
  have m6 := hm 40 1 1 rfl
  have m7 := hm 40 1 2 rfl
  have m8 := hm 40 1 3 rfl
  have m9 := hm 40 1 37 rfl
  cases h
  constructor <;> simp only [x1, x2, x3, x4, x5, x6, x7, x8, x9, m1, m2, m3, m4, m5, m6, m7, m8, m9] <;> assumption
/-- what a task is told -/
structure yB (t : Int) (X M : zz_S) : Prop where
  re : zz_h X 11 1 t = t + 1
  nu : zz_h X 7 (t + 1) 0 = t
  ki : zz_h X 7 (t + 1) 1 = zz_h M 44 1 t
  kr : 0 ≤ zz_h M 44 1 t ∧ zz_h M 44 1 t ≤ 4
  fi : zz_h X 7 (t + 1) 2 = zz_h M 45 1 t
  fr : zz_h M 44 1 t ≤ 2 → 0 ≤ zz_h M 45 1 t ∧ zz_h M 45 1 t ≤ 400000
  ga : zz_h X 7 (t + 1) 3 = zz_h M 46 1 t
  gr : zz_h M 44 1 t = 1 ∨ zz_h M 44 1 t = 2 → 1 ≤ zz_h M 46 1 t ∧ zz_h M 46 1 t ≤ 100000
  ac : zz_h X 7 (t + 1) 7 = zz_h M 53 1 t
  ax : zz_h X 7 (t + 1) 8 = zz_h M 54 1 t
  ay : zz_h X 7 (t + 1) 9 = zz_h M 55 1 t
  t0 : zz_h X 28 (t + 1) 0 = zz_h M 47 1 t
  r0 : 1 ≤ zz_h M 47 1 t ∧ zz_h M 47 1 t ≤ 120
  t1 : zz_h X 28 (t + 1) 1 = zz_h M 48 1 t
  t2 : zz_h X 28 (t + 1) 2 = zz_h M 49 1 t
  r2 : -1 ≤ zz_h M 49 1 t ∧ zz_h M 49 1 t < zz_h M 40 1 7
  t3 : zz_h X 28 (t + 1) 3 = zz_h M 50 1 t
  r3 : 0 ≤ zz_h M 50 1 t ∧ zz_h M 50 1 t ≤ 2
  t4 : zz_h X 28 (t + 1) 4 = zz_h M 51 1 t
  r4 : 0 ≤ zz_h M 51 1 t ∧ zz_h M 51 1 t ≤ 2
  t5 : zz_h X 28 (t + 1) 5 = zz_h M 52 1 t
  r5 : 0 ≤ zz_h M 52 1 t ∧ zz_h M 52 1 t ≤ 2
def yk_B (k : Nat) (j : Int) : Bool := k == 11 || (k == 7 && (j ≤ 3 || j == 7 || j == 8 || j == 9)) || k == 28 || (k == 40 && (j == 7)) || (44 ≤ k && k ≤ 55)
theorem yB.cg {t : Int} {X M X' M' : zz_S} (h : yB t X M) (hx : yK yk_B X X') (hm : yK yk_B M M') : yB t X' M' := by
  have x1 := hx 11 1 t rfl
  have x2 := hx 7 (t + 1) 0 rfl
  have x3 := hx 7 (t + 1) 1 rfl
  have x4 := hx 7 (t + 1) 2 rfl
  have x5 := hx 7 (t + 1) 3 rfl
  have x6 := hx 7 (t + 1) 7 rfl
  have x7 := hx 7 (t + 1) 8 rfl
  have x8 := hx 7 (t + 1) 9 rfl
  have x9 := hx 28 (t + 1) 0 rfl
  have x10 := hx 28 (t + 1) 1 rfl
  have x11 := hx 28 (t + 1) 2 rfl
  have x12 := hx 28 (t + 1) 3 rfl
  have x13 := hx 28 (t + 1) 4 rfl
  have x14 := hx 28 (t + 1) 5 rfl
  have m0 := hm 40 1 7 rfl
  have m1 := hm 44 1 t rfl
  have m2 := hm 45 1 t rfl
  have m3 := hm 46 1 t rfl
  have m4 := hm 47 1 t rfl
  have m5 := hm 48 1 t rfl
  have m6 := hm 49 1 t rfl
  have m7 := hm 50 1 t rfl
  have m8 := hm 51 1 t rfl
  have m9 := hm 52 1 t rfl
  have m10 := hm 53 1 t rfl
  have m11 := hm 54 1 t rfl
  have m12 := hm 55 1 t rfl
  cases h
  constructor <;> simp only [x1, x2, x3, x4, x5, x6, x7, x8, x9, x10, x11, x12, x13, x14, m0, m1, m2, m3, m4, m5, m6, m7, m8, m9, m10, m11, m12] <;> assumption
/-- how a task stands -/
structure yC (b t : Int) (X M : zz_S) : Prop where
  st : zz_h X 7 (t + 1) 10 = zz_h M 56 1 t
  sr : zz_h M 56 1 t = 0 ∨ zz_h M 56 1 t = 3 ∨ zz_h M 56 1 t = 4
  nx : zz_h X 7 (t + 1) 11 = zz_h M 57 1 t
  rs : zz_h X 7 (t + 1) 12 = zz_h M 60 1 t ∨ (zz_h X 7 (t + 1) 12 = 0 ∧ zz_h M 60 1 t = -1)
  fa : zz_h X 7 (t + 1) 13 = zz_h M 59 1 t
  fr : 0 ≤ zz_h M 59 1 t ∧ zz_h M 59 1 t ≤ b
  be : zz_h X 7 (t + 1) 14 = zz_h M 61 1 t
  sk : zz_h X 7 (t + 1) 17 = zz_h M 58 1 t
def yk_C (k : Nat) (j : Int) : Bool := (k == 7 && (j == 10 || j == 11 || j == 12 || j == 13 || j == 14 || j == 17)) || (56 ≤ k && k ≤ 61)
theorem yC.cg {b t : Int} {X M X' M' : zz_S} (h : yC b t X M) (hx : yK yk_C X X') (hm : yK yk_C M M') : yC b t X' M' := by
  have x1 := hx 7 (t + 1) 10 rfl
  have x2 := hx 7 (t + 1) 11 rfl
  have x3 := hx 7 (t + 1) 12 rfl
  have x4 := hx 7 (t + 1) 13 rfl
  have x5 := hx 7 (t + 1) 14 rfl
  have x6 := hx 7 (t + 1) 17 rfl
  have m1 := hm 56 1 t rfl
  have m2 := hm 57 1 t rfl
  have m3 := hm 58 1 t rfl
  have m4 := hm 59 1 t rfl
  have m5 := hm 60 1 t rfl
  have m6 := hm 61 1 t rfl
  cases h
  constructor <;> simp only [x1, x2, x3, x4, x5, x6, m1, m2, m3, m4, m5, m6] <;> assumption
theorem yC.up {b c t : Int} {X M : zz_S} (h : yC b t X M) (e : b ≤ c) : yC c t X M := { h with fr := ⟨h.fr.1, Int.le_trans h.fr.2 e⟩ }
