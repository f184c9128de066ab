/-! STAGE B: the relation of the two halves, in groups -/
/-- keys (kind, slot) that are kept -/
def yK (p : Nat → Int → Bool) (s t : zz_S) : Prop := ∀ k i j, p k j = true → zz_h t k i j = zz_h s k i j
theorem yK.rf {p : Nat → Int → Bool} {s : zz_S} : yK p s s := fun _ _ _ _ => rfl
theorem yK.tr {p : Nat → Int → Bool} {s t u : zz_S} (h : yK p s t) (g : yK p t u) : yK p s u := fun k i j e => (g k i j e).trans (h k i j e)
theorem yK.w {p : Nat → Int → Bool} {s t : zz_S} {k : Nat} {i j v : Int} (h : yK p s t) (e : p k j = false) : yK p s (zz_w t k i j v) := fun k' i' j' e' => by
  rw [zz_h_w, if_neg]
  · exact h k' i' j' e'
  · rintro ⟨rfl, -, rfl⟩
    rw [e] at e'
    exact Bool.noConfusion e'
theorem yK.sub {p q : Nat → Int → Bool} {s t : zz_S} (h : yK p s t) (e : ∀ k j, q k j = true → p k j = true) : yK q s t := fun k i j e' => h k i j (e k j e')
/-- the house -/
def yA (X M : zz_S) : Prop := (zz_h X 3 1 11 = zz_h M 40 1 9) ∧ (0 ≤ zz_h M 40 1 9 ∧ zz_h M 40 1 9 ≤ 60) ∧ (zz_h X 3 1 12 = zz_h M 40 1 42) ∧ (0 ≤ zz_h M 40 1 42 ∧ zz_h M 40 1 42 ≤ 2000) ∧ (zz_h X 3 1 14 = zz_h M 40 1 7) ∧ (0 ≤ zz_h M 40 1 7 ∧ zz_h M 40 1 7 ≤ 8) ∧ (zz_h X 3 1 15 = zz_h M 40 1 4) ∧ (1 ≤ zz_h M 40 1 4 ∧ zz_h M 40 1 4 ≤ 8) ∧ (zz_h X 3 1 16 = zz_h M 40 1 0) ∧ (0 ≤ zz_h M 40 1 0 ∧ zz_h M 40 1 0 ≤ 400000) ∧ (zz_h X 3 1 17 = zz_h M 40 1 1) ∧ (-1440 ≤ zz_h M 40 1 1 ∧ zz_h M 40 1 1 ≤ 1440) ∧ (0 ≤ zz_h M 40 1 0 + zz_h M 40 1 1) ∧ (zz_h X 3 1 18 = zz_h M 40 1 2) ∧ (-1 ≤ zz_h M 40 1 2 ∧ zz_h M 40 1 2 ≤ 401440) ∧ (zz_h X 3 1 19 = zz_h M 40 1 3) ∧ (zz_h M 40 1 3 = 0 ∨ zz_h M 40 1 3 = 1) ∧ (zz_h X 6 1 3 = zz_h M 40 1 37) ∧ (0 ≤ zz_h M 40 1 37 ∧ zz_h M 40 1 37 ≤ 40)
theorem yA.n {X M : zz_S} (h : yA X M) : zz_h X 3 1 11 = zz_h M 40 1 9 := h.1
theorem yA.nr {X M : zz_S} (h : yA X M) : 0 ≤ zz_h M 40 1 9 ∧ zz_h M 40 1 9 ≤ 60 := h.2.1
theorem yA.r {X M : zz_S} (h : yA X M) : zz_h X 3 1 12 = zz_h M 40 1 42 := h.2.2.1
theorem yA.rr {X M : zz_S} (h : yA X M) : 0 ≤ zz_h M 40 1 42 ∧ zz_h M 40 1 42 ≤ 2000 := h.2.2.2.1
theorem yA.g {X M : zz_S} (h : yA X M) : zz_h X 3 1 14 = zz_h M 40 1 7 := h.2.2.2.2.1
theorem yA.gr {X M : zz_S} (h : yA X M) : 0 ≤ zz_h M 40 1 7 ∧ zz_h M 40 1 7 ≤ 8 := h.2.2.2.2.2.1
theorem yA.w {X M : zz_S} (h : yA X M) : zz_h X 3 1 15 = zz_h M 40 1 4 := h.2.2.2.2.2.2.1
theorem yA.wr {X M : zz_S} (h : yA X M) : 1 ≤ zz_h M 40 1 4 ∧ zz_h M 40 1 4 ≤ 8 := h.2.2.2.2.2.2.2.1
theorem yA.t {X M : zz_S} (h : yA X M) : zz_h X 3 1 16 = zz_h M 40 1 0 := h.2.2.2.2.2.2.2.2.1
theorem yA.tr {X M : zz_S} (h : yA X M) : 0 ≤ zz_h M 40 1 0 ∧ zz_h M 40 1 0 ≤ 400000 := h.2.2.2.2.2.2.2.2.2.1
theorem yA.o {X M : zz_S} (h : yA X M) : zz_h X 3 1 17 = zz_h M 40 1 1 := h.2.2.2.2.2.2.2.2.2.2.1
theorem yA.or {X M : zz_S} (h : yA X M) : -1440 ≤ zz_h M 40 1 1 ∧ zz_h M 40 1 1 ≤ 1440 := h.2.2.2.2.2.2.2.2.2.2.2.1
theorem yA.to {X M : zz_S} (h : yA X M) : 0 ≤ zz_h M 40 1 0 + zz_h M 40 1 1 := h.2.2.2.2.2.2.2.2.2.2.2.2.1
theorem yA.h {X M : zz_S} (h : yA X M) : zz_h X 3 1 18 = zz_h M 40 1 2 := h.2.2.2.2.2.2.2.2.2.2.2.2.2.1
theorem yA.hr {X M : zz_S} (h : yA X M) : -1 ≤ zz_h M 40 1 2 ∧ zz_h M 40 1 2 ≤ 401440 := h.2.2.2.2.2.2.2.2.2.2.2.2.2.2.1
theorem yA.s {X M : zz_S} (h : yA X M) : zz_h X 3 1 19 = zz_h M 40 1 3 := h.2.2.2.2.2.2.2.2.2.2.2.2.2.2.2.1
theorem yA.sr {X M : zz_S} (h : yA X M) : zz_h M 40 1 3 = 0 ∨ zz_h M 40 1 3 = 1 := h.2.2.2.2.2.2.2.2.2.2.2.2.2.2.2.2.1
theorem yA.p {X M : zz_S} (h : yA X M) : zz_h X 6 1 3 = zz_h M 40 1 37 := h.2.2.2.2.2.2.2.2.2.2.2.2.2.2.2.2.2.1
theorem yA.pr {X M : zz_S} (h : yA X M) : 0 ≤ zz_h M 40 1 37 ∧ zz_h M 40 1 37 ≤ 40 := h.2.2.2.2.2.2.2.2.2.2.2.2.2.2.2.2.2.2
def yk_A (k : Nat) (j : Int) : Bool := (k == 3 && j != 13) || (k == 40 && (j ≤ 9 || j == 37 || j == 42)) || (k == 6 && j == 3)
theorem yA.cg {X M X' M' : zz_S} (h : yA X M) (hx : yK yk_A X X') (hm : yK yk_A M M') : yA X' M' := by
  have x1 := hx 3 1 11 rfl
  have x2 := hx 3 1 12 rfl
  have x3 := hx 3 1 14 rfl
  have x4 := hx 3 1 15 rfl
  have x5 := hx 3 1 16 rfl
  have x6 := hx 3 1 17 rfl
  have x7 := hx 3 1 18 rfl
  have x8 := hx 3 1 19 rfl
  have x9 := hx 6 1 3 rfl
  have m1 := hm 40 1 9 rfl
  have m2 := hm 40 1 42 rfl
  have m3 := hm 40 1 7 rfl
  have m4 := hm 40 1 4 rfl
  have m5 := hm 40 1 0 rfl
  have m6 := hm 40 1 1 rfl
  have m7 := hm 40 1 2 rfl
  have m8 := hm 40 1 3 rfl
  have m9 := hm 40 1 37 rfl
  simp only [yA, x1, x2, x3, x4, x5, x6, x7, x8, x9, m1, m2, m3, m4, m5, m6, m7, m8, m9]
  exact h
/-- what a task is told -/
def yB (t : Int) (X M : zz_S) : Prop := (zz_h X 11 1 t = t + 1) ∧ (zz_h X 7 (t + 1) 0 = t) ∧ (zz_h X 7 (t + 1) 1 = zz_h M 44 1 t) ∧ (0 ≤ zz_h M 44 1 t ∧ zz_h M 44 1 t ≤ 4) ∧ (zz_h X 7 (t + 1) 2 = zz_h M 45 1 t) ∧ (zz_h M 44 1 t ≤ 2 → 0 ≤ zz_h M 45 1 t ∧ zz_h M 45 1 t ≤ 400000) ∧ (zz_h X 7 (t + 1) 3 = zz_h M 46 1 t) ∧ (zz_h M 44 1 t = 1 ∨ zz_h M 44 1 t = 2 → 1 ≤ zz_h M 46 1 t ∧ zz_h M 46 1 t ≤ 100000) ∧ (zz_h X 7 (t + 1) 7 = zz_h M 53 1 t) ∧ (zz_h X 7 (t + 1) 8 = zz_h M 54 1 t) ∧ (zz_h X 7 (t + 1) 9 = zz_h M 55 1 t) ∧ (zz_h X 28 (t + 1) 0 = zz_h M 47 1 t) ∧ (1 ≤ zz_h M 47 1 t ∧ zz_h M 47 1 t ≤ 120) ∧ (zz_h X 28 (t + 1) 1 = zz_h M 48 1 t) ∧ (zz_h X 28 (t + 1) 2 = zz_h M 49 1 t) ∧ (-1 ≤ zz_h M 49 1 t ∧ zz_h M 49 1 t < zz_h M 40 1 7) ∧ (zz_h X 28 (t + 1) 3 = zz_h M 50 1 t) ∧ (0 ≤ zz_h M 50 1 t ∧ zz_h M 50 1 t ≤ 2) ∧ (zz_h X 28 (t + 1) 4 = zz_h M 51 1 t) ∧ (0 ≤ zz_h M 51 1 t ∧ zz_h M 51 1 t ≤ 2) ∧ (zz_h X 28 (t + 1) 5 = zz_h M 52 1 t) ∧ (0 ≤ zz_h M 52 1 t ∧ zz_h M 52 1 t ≤ 2)
theorem yB.re {t : Int} {X M : zz_S} (h : yB t X M) : zz_h X 11 1 t = t + 1 := h.1
theorem yB.nu {t : Int} {X M : zz_S} (h : yB t X M) : zz_h X 7 (t + 1) 0 = t := h.2.1
theorem yB.ki {t : Int} {X M : zz_S} (h : yB t X M) : zz_h X 7 (t + 1) 1 = zz_h M 44 1 t := h.2.2.1
theorem yB.kr {t : Int} {X M : zz_S} (h : yB t X M) : 0 ≤ zz_h M 44 1 t ∧ zz_h M 44 1 t ≤ 4 := h.2.2.2.1
theorem yB.fi {t : Int} {X M : zz_S} (h : yB t X M) : zz_h X 7 (t + 1) 2 = zz_h M 45 1 t := h.2.2.2.2.1
theorem yB.fr {t : Int} {X M : zz_S} (h : yB t X M) : zz_h M 44 1 t ≤ 2 → 0 ≤ zz_h M 45 1 t ∧ zz_h M 45 1 t ≤ 400000 := h.2.2.2.2.2.1
theorem yB.ga {t : Int} {X M : zz_S} (h : yB t X M) : zz_h X 7 (t + 1) 3 = zz_h M 46 1 t := h.2.2.2.2.2.2.1
theorem yB.gr {t : Int} {X M : zz_S} (h : yB t X M) : zz_h M 44 1 t = 1 ∨ zz_h M 44 1 t = 2 → 1 ≤ zz_h M 46 1 t ∧ zz_h M 46 1 t ≤ 100000 := h.2.2.2.2.2.2.2.1
theorem yB.ac {t : Int} {X M : zz_S} (h : yB t X M) : zz_h X 7 (t + 1) 7 = zz_h M 53 1 t := h.2.2.2.2.2.2.2.2.1
theorem yB.ax {t : Int} {X M : zz_S} (h : yB t X M) : zz_h X 7 (t + 1) 8 = zz_h M 54 1 t := h.2.2.2.2.2.2.2.2.2.1
theorem yB.ay {t : Int} {X M : zz_S} (h : yB t X M) : zz_h X 7 (t + 1) 9 = zz_h M 55 1 t := h.2.2.2.2.2.2.2.2.2.2.1
theorem yB.t0 {t : Int} {X M : zz_S} (h : yB t X M) : zz_h X 28 (t + 1) 0 = zz_h M 47 1 t := h.2.2.2.2.2.2.2.2.2.2.2.1
theorem yB.r0 {t : Int} {X M : zz_S} (h : yB t X M) : 1 ≤ zz_h M 47 1 t ∧ zz_h M 47 1 t ≤ 120 := h.2.2.2.2.2.2.2.2.2.2.2.2.1
theorem yB.t1 {t : Int} {X M : zz_S} (h : yB t X M) : zz_h X 28 (t + 1) 1 = zz_h M 48 1 t := h.2.2.2.2.2.2.2.2.2.2.2.2.2.1
theorem yB.t2 {t : Int} {X M : zz_S} (h : yB t X M) : zz_h X 28 (t + 1) 2 = zz_h M 49 1 t := h.2.2.2.2.2.2.2.2.2.2.2.2.2.2.1
theorem yB.r2 {t : Int} {X M : zz_S} (h : yB t X M) : -1 ≤ zz_h M 49 1 t ∧ zz_h M 49 1 t < zz_h M 40 1 7 := h.2.2.2.2.2.2.2.2.2.2.2.2.2.2.2.1
theorem yB.t3 {t : Int} {X M : zz_S} (h : yB t X M) : zz_h X 28 (t + 1) 3 = zz_h M 50 1 t := h.2.2.2.2.2.2.2.2.2.2.2.2.2.2.2.2.1
theorem yB.r3 {t : Int} {X M : zz_S} (h : yB t X M) : 0 ≤ zz_h M 50 1 t ∧ zz_h M 50 1 t ≤ 2 := h.2.2.2.2.2.2.2.2.2.2.2.2.2.2.2.2.2.1
theorem yB.t4 {t : Int} {X M : zz_S} (h : yB t X M) : zz_h X 28 (t + 1) 4 = zz_h M 51 1 t := h.2.2.2.2.2.2.2.2.2.2.2.2.2.2.2.2.2.2.1
theorem yB.r4 {t : Int} {X M : zz_S} (h : yB t X M) : 0 ≤ zz_h M 51 1 t ∧ zz_h M 51 1 t ≤ 2 := h.2.2.2.2.2.2.2.2.2.2.2.2.2.2.2.2.2.2.2.1
theorem yB.t5 {t : Int} {X M : zz_S} (h : yB t X M) : zz_h X 28 (t + 1) 5 = zz_h M 52 1 t := h.2.2.2.2.2.2.2.2.2.2.2.2.2.2.2.2.2.2.2.2.1
theorem yB.r5 {t : Int} {X M : zz_S} (h : yB t X M) : 0 ≤ zz_h M 52 1 t ∧ zz_h M 52 1 t ≤ 2 := h.2.2.2.2.2.2.2.2.2.2.2.2.2.2.2.2.2.2.2.2.2
def yk_B (k : Nat) (j : Int) : Bool := k == 11 || (k == 7 && (j ≤ 3 || j == 7 || j == 8 || j == 9)) || k == 28 || (k == 40 && (j == 7)) || (44 ≤ k && k ≤ 55)
theorem yB.cg {t : Int} {X M X' M' : zz_S} (h : yB t X M) (hx : yK yk_B X X') (hm : yK yk_B M M') : yB t X' M' := by
  have x1 := hx 11 1 t rfl
  have x2 := hx 7 (t + 1) 0 rfl
  have x3 := hx 7 (t + 1) 1 rfl
  have x4 := hx 7 (t + 1) 2 rfl
  have x5 := hx 7 (t + 1) 3 rfl
  have x6 := hx 7 (t + 1) 7 rfl
  have x7 := hx 7 (t + 1) 8 rfl
  have x8 := hx 7 (t + 1) 9 rfl
  have x9 := hx 28 (t + 1) 0 rfl
  have x10 := hx 28 (t + 1) 1 rfl
  have x11 := hx 28 (t + 1) 2 rfl
  have x12 := hx 28 (t + 1) 3 rfl
  have x13 := hx 28 (t + 1) 4 rfl
  have x14 := hx 28 (t + 1) 5 rfl
  have m0 := hm 40 1 7 rfl
  have m1 := hm 44 1 t rfl
  have m2 := hm 45 1 t rfl
  have m3 := hm 46 1 t rfl
  have m4 := hm 47 1 t rfl
  have m5 := hm 48 1 t rfl
  have m6 := hm 49 1 t rfl
  have m7 := hm 50 1 t rfl
  have m8 := hm 51 1 t rfl
  have m9 := hm 52 1 t rfl
  have m10 := hm 53 1 t rfl
  have m11 := hm 54 1 t rfl
  have m12 := hm 55 1 t rfl
  simp only [yB, x1, x2, x3, x4, x5, x6, x7, x8, x9, x10, x11, x12, x13, x14, m0, m1, m2, m3, m4, m5, m6, m7, m8, m9, m10, m11, m12]
  exact h
/-- how a task stands -/
def yC (b t : Int) (X M : zz_S) : Prop := (zz_h X 7 (t + 1) 10 = zz_h M 56 1 t) ∧ (zz_h M 56 1 t = 0 ∨ zz_h M 56 1 t = 3 ∨ zz_h M 56 1 t = 4) ∧ (zz_h X 7 (t + 1) 11 = zz_h M 57 1 t) ∧ (zz_h X 7 (t + 1) 12 = zz_h M 60 1 t ∨ (zz_h X 7 (t + 1) 12 = 0 ∧ zz_h M 60 1 t = -1)) ∧ (zz_h X 7 (t + 1) 13 = zz_h M 59 1 t) ∧ (0 ≤ zz_h M 59 1 t ∧ zz_h M 59 1 t ≤ b) ∧ (zz_h X 7 (t + 1) 14 = zz_h M 61 1 t) ∧ (zz_h X 7 (t + 1) 17 = zz_h M 58 1 t)
theorem yC.st {b t : Int} {X M : zz_S} (h : yC b t X M) : zz_h X 7 (t + 1) 10 = zz_h M 56 1 t := h.1
theorem yC.sr {b t : Int} {X M : zz_S} (h : yC b t X M) : zz_h M 56 1 t = 0 ∨ zz_h M 56 1 t = 3 ∨ zz_h M 56 1 t = 4 := h.2.1
theorem yC.nx {b t : Int} {X M : zz_S} (h : yC b t X M) : zz_h X 7 (t + 1) 11 = zz_h M 57 1 t := h.2.2.1
theorem yC.rs {b t : Int} {X M : zz_S} (h : yC b t X M) : zz_h X 7 (t + 1) 12 = zz_h M 60 1 t ∨ (zz_h X 7 (t + 1) 12 = 0 ∧ zz_h M 60 1 t = -1) := h.2.2.2.1
theorem yC.fa {b t : Int} {X M : zz_S} (h : yC b t X M) : zz_h X 7 (t + 1) 13 = zz_h M 59 1 t := h.2.2.2.2.1
theorem yC.fr {b t : Int} {X M : zz_S} (h : yC b t X M) : 0 ≤ zz_h M 59 1 t ∧ zz_h M 59 1 t ≤ b := h.2.2.2.2.2.1
theorem yC.be {b t : Int} {X M : zz_S} (h : yC b t X M) : zz_h X 7 (t + 1) 14 = zz_h M 61 1 t := h.2.2.2.2.2.2.1
theorem yC.sk {b t : Int} {X M : zz_S} (h : yC b t X M) : zz_h X 7 (t + 1) 17 = zz_h M 58 1 t := h.2.2.2.2.2.2.2
def yk_C (k : Nat) (j : Int) : Bool := (k == 7 && (j == 10 || j == 11 || j == 12 || j == 13 || j == 14 || j == 17)) || (56 ≤ k && k ≤ 61)
theorem yC.cg {b t : Int} {X M X' M' : zz_S} (h : yC b t X M) (hx : yK yk_C X X') (hm : yK yk_C M M') : yC b t X' M' := by
  have x1 := hx 7 (t + 1) 10 rfl
  have x2 := hx 7 (t + 1) 11 rfl
  have x3 := hx 7 (t + 1) 12 rfl
  have x4 := hx 7 (t + 1) 13 rfl
  have x5 := hx 7 (t + 1) 14 rfl
  have x6 := hx 7 (t + 1) 17 rfl
  have m1 := hm 56 1 t rfl
  have m2 := hm 57 1 t rfl
  have m3 := hm 58 1 t rfl
  have m4 := hm 59 1 t rfl
  have m5 := hm 60 1 t rfl
  have m6 := hm 61 1 t rfl
  simp only [yC, x1, x2, x3, x4, x5, x6, m1, m2, m3, m4, m5, m6]
  exact h
theorem yC.up {b c t : Int} {X M : zz_S} (h : yC b t X M) (e : b ≤ c) : yC c t X M := by
  unfold yC
  exact ⟨h.st, h.sr, h.nx, h.rs, h.fa, ⟨h.fr.1, Int.le_trans h.fr.2 e⟩, h.be, h.sk⟩
