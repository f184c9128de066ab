/-- what is fired: e = 0 between minutes, e = 1 within one -/
def yD (e : Nat) (u t : Int) (X M : zz_S) : Prop := (e = 1 → (zz_h M 62 1 t = 0 ∧ ¬ (zz_h X 7 (t + 1) 18 = u ∨ zz_h X 7 (t + 1) 19 = u)) ∨ (zz_h M 62 1 t = 1 ∧ (zz_h X 7 (t + 1) 18 = u ∨ zz_h X 7 (t + 1) 19 = u))) ∧ ((zz_h M 63 1 t = 0 ∧ ¬ (zz_h X 7 (t + 1) 18 = u + e ∨ zz_h X 7 (t + 1) 19 = u + e)) ∨ (zz_h M 63 1 t = 1 ∧ (zz_h X 7 (t + 1) 18 = u + e ∨ zz_h X 7 (t + 1) 19 = u + e))) ∧ (zz_h X 7 (t + 1) 18 ≤ u + e) ∧ (zz_h X 7 (t + 1) 19 < zz_h X 7 (t + 1) 18 ∨ (zz_h X 7 (t + 1) 18 = -1 ∧ zz_h X 7 (t + 1) 19 = -1))
theorem yD.a {e : Nat} {u t : Int} {X M : zz_S} (h : yD e u t X M) : e = 1 → (zz_h M 62 1 t = 0 ∧ ¬ (zz_h X 7 (t + 1) 18 = u ∨ zz_h X 7 (t + 1) 19 = u)) ∨ (zz_h M 62 1 t = 1 ∧ (zz_h X 7 (t + 1) 18 = u ∨ zz_h X 7 (t + 1) 19 = u)) := h.1
theorem yD.c {e : Nat} {u t : Int} {X M : zz_S} (h : yD e u t X M) : (zz_h M 63 1 t = 0 ∧ ¬ (zz_h X 7 (t + 1) 18 = u + e ∨ zz_h X 7 (t + 1) 19 = u + e)) ∨ (zz_h M 63 1 t = 1 ∧ (zz_h X 7 (t + 1) 18 = u + e ∨ zz_h X 7 (t + 1) 19 = u + e)) := h.2.1
theorem yD.m {e : Nat} {u t : Int} {X M : zz_S} (h : yD e u t X M) : zz_h X 7 (t + 1) 18 ≤ u + e := h.2.2.1
theorem yD.o {e : Nat} {u t : Int} {X M : zz_S} (h : yD e u t X M) : zz_h X 7 (t + 1) 19 < zz_h X 7 (t + 1) 18 ∨ (zz_h X 7 (t + 1) 18 = -1 ∧ zz_h X 7 (t + 1) 19 = -1) := h.2.2.2
def yk_D (k : Nat) (j : Int) : Bool := (k == 7 && (j == 18 || j == 19)) || k == 62 || k == 63
theorem yD.cg {e : Nat} {u t : Int} {X M X' M' : zz_S} (h : yD e u t X M) (hx : yK yk_D X X') (hm : yK yk_D M M') : yD e u t X' M' := by
  have x1 := hx 7 (t + 1) 18 rfl
  have x2 := hx 7 (t + 1) 19 rfl
  have m1 := hm 62 1 t rfl
  have m2 := hm 63 1 t rfl
  simp only [yD, x1, x2, m1, m2]
  exact h
-- what one form asks of each part of a minute
def yfm (f a _b v : Int) : Prop := f = 0 → a = v
def yfh (f a b v : Int) : Prop := (f = 1 → a = v) ∧ (f = 2 → a ≤ v ∧ v ≤ b)
def yfw (f a b v : Int) : Prop := (f = 3 → a = v) ∧ (f = 4 → (a ≤ b ∧ a ≤ v ∧ v ≤ b) ∨ (b < a ∧ (a ≤ v ∨ v ≤ b))) ∧ (f = 7 → b = v)
def yfd (f a _b v : Int) : Prop := f = 5 → a = v + 1
def yfk (f a _b v : Int) : Prop := f = 7 → a = v + 1
def yfo (f a _b v : Int) : Prop := f = 8 → a = v + 1
/-- a form that may be added -/
def yfv (f a b : Int) : Prop := (f = 0 ∧ 0 ≤ a ∧ a ≤ 59) ∨ (f = 1 ∧ 0 ≤ a ∧ a ≤ 23) ∨ (f = 2 ∧ 0 ≤ a ∧ a ≤ b ∧ b ≤ 23) ∨ (f = 3 ∧ 0 ≤ a ∧ a ≤ 6) ∨ (f = 4 ∧ 0 ≤ a ∧ a ≤ 6 ∧ 0 ≤ b ∧ b ≤ 6) ∨ (f = 5 ∧ 1 ≤ a ∧ a ≤ 31) ∨ f = 6 ∨ (f = 7 ∧ 1 ≤ a ∧ a ≤ 5 ∧ 0 ≤ b ∧ b ≤ 6) ∨ (f = 8 ∧ 1 ≤ a ∧ a ≤ 12)
/-- all forms of a task ask so -/
def yfa (q : Int → Int → Int → Int → Prop) (t : Int) (M : zz_S) (v : Int) : Prop := ∀ i : Int, 0 ≤ i → i < zz_h M 64 1 t → q (zz_h M 65 1 (4 * t + i)) (zz_h M 66 1 (4 * t + i)) (zz_h M 67 1 (4 * t + i)) v
/-- the calendar of a task -/
def yE (t : Int) (X M : zz_S) : Prop := (zz_h X 8 (t + 1) 0 = zz_h M 64 1 t) ∧ (0 ≤ zz_h M 64 1 t ∧ zz_h M 64 1 t ≤ 4) ∧ (yfa (fun f a b _ => yfv f a b) t M 0) ∧ (∀ v : Nat, v < 60 → (yl (zz_h X 8 (t + 1) 1) v = true ↔ yfa yfm t M v)) ∧ (∀ v : Nat, v < 24 → (yb (zz_h X 8 (t + 1) 2) v = true ↔ yfa yfh t M v)) ∧ (∀ v : Nat, v < 7 → (yb (zz_h X 8 (t + 1) 3) v = true ↔ yfa yfw t M v)) ∧ (∀ v : Nat, v < 31 → (yb (zz_h X 8 (t + 1) 4) v = true ↔ yfa yfd t M v)) ∧ (∀ v : Nat, v < 5 → (yb (zz_h X 8 (t + 1) 5) v = true ↔ yfa yfk t M v)) ∧ (∀ v : Nat, v < 12 → (yb (zz_h X 8 (t + 1) 6) v = true ↔ yfa yfo t M v)) ∧ ((zz_h X 8 (t + 1) 7 = 0 ∧ yfa (fun f _ _ _ => f ≠ 6) t M 0) ∨ (zz_h X 8 (t + 1) 7 = 1 ∧ ¬ yfa (fun f _ _ _ => f ≠ 6) t M 0))
theorem yE.n {t : Int} {X M : zz_S} (h : yE t X M) : zz_h X 8 (t + 1) 0 = zz_h M 64 1 t := h.1
theorem yE.nr {t : Int} {X M : zz_S} (h : yE t X M) : 0 ≤ zz_h M 64 1 t ∧ zz_h M 64 1 t ≤ 4 := h.2.1
theorem yE.v {t : Int} {X M : zz_S} (h : yE t X M) : yfa (fun f a b _ => yfv f a b) t M 0 := h.2.2.1
theorem yE.m1 {t : Int} {X M : zz_S} (h : yE t X M) : ∀ v : Nat, v < 60 → (yl (zz_h X 8 (t + 1) 1) v = true ↔ yfa yfm t M v) := h.2.2.2.1
theorem yE.m2 {t : Int} {X M : zz_S} (h : yE t X M) : ∀ v : Nat, v < 24 → (yb (zz_h X 8 (t + 1) 2) v = true ↔ yfa yfh t M v) := h.2.2.2.2.1
theorem yE.m3 {t : Int} {X M : zz_S} (h : yE t X M) : ∀ v : Nat, v < 7 → (yb (zz_h X 8 (t + 1) 3) v = true ↔ yfa yfw t M v) := h.2.2.2.2.2.1
theorem yE.m4 {t : Int} {X M : zz_S} (h : yE t X M) : ∀ v : Nat, v < 31 → (yb (zz_h X 8 (t + 1) 4) v = true ↔ yfa yfd t M v) := h.2.2.2.2.2.2.1
theorem yE.m5 {t : Int} {X M : zz_S} (h : yE t X M) : ∀ v : Nat, v < 5 → (yb (zz_h X 8 (t + 1) 5) v = true ↔ yfa yfk t M v) := h.2.2.2.2.2.2.2.1
theorem yE.m6 {t : Int} {X M : zz_S} (h : yE t X M) : ∀ v : Nat, v < 12 → (yb (zz_h X 8 (t + 1) 6) v = true ↔ yfa yfo t M v) := h.2.2.2.2.2.2.2.2.1
theorem yE.m7 {t : Int} {X M : zz_S} (h : yE t X M) : (zz_h X 8 (t + 1) 7 = 0 ∧ yfa (fun f _ _ _ => f ≠ 6) t M 0) ∨ (zz_h X 8 (t + 1) 7 = 1 ∧ ¬ yfa (fun f _ _ _ => f ≠ 6) t M 0) := h.2.2.2.2.2.2.2.2.2
def yk_E (k : Nat) (_j : Int) : Bool := k == 8 || (64 ≤ k && k ≤ 67)
theorem yfa.cg {q : Int → Int → Int → Int → Prop} {t : Int} {M M' : zz_S} {v : Int} (hm : yK yk_E M M') : yfa q t M' v ↔ yfa q t M v := by
  unfold yfa
  rw [hm 64 1 t rfl]
  constructor <;> intro h i h1 h2
  · have := h i h1 h2
    rw [hm 65 1 _ rfl, hm 66 1 _ rfl, hm 67 1 _ rfl] at this
    exact this
  · rw [hm 65 1 _ rfl, hm 66 1 _ rfl, hm 67 1 _ rfl]
    exact h i h1 h2
theorem yE.cg {t : Int} {X M X' M' : zz_S} (h : yE t X M) (hx : yK yk_E X X') (hm : yK yk_E M M') : yE t X' M' := by
  have x0 := hx 8 (t + 1) 0 rfl
  have x1 := hx 8 (t + 1) 1 rfl
  have x2 := hx 8 (t + 1) 2 rfl
  have x3 := hx 8 (t + 1) 3 rfl
  have x4 := hx 8 (t + 1) 4 rfl
  have x5 := hx 8 (t + 1) 5 rfl
  have x6 := hx 8 (t + 1) 6 rfl
  have x7 := hx 8 (t + 1) 7 rfl
  have m0 := hm 64 1 t rfl
  simp only [yE, x0, x1, x2, x3, x4, x5, x6, x7, m0, yfa.cg hm]
  exact h
/-- what a task comes after -/
def yF (t : Int) (X M : zz_S) : Prop := (zz_h X 9 (t + 1) 2 = zz_h M 68 1 t) ∧ (0 ≤ zz_h M 68 1 t ∧ zz_h M 68 1 t ≤ 4) ∧ (∀ i : Int, 0 ≤ i → i < zz_h M 68 1 t → zz_h X 29 (t + 1) i = zz_h M 69 1 (4 * t + i) ∧ 0 ≤ zz_h M 69 1 (4 * t + i) ∧ zz_h M 69 1 (4 * t + i) < zz_h M 40 1 9) ∧ (∀ i : Int, 0 ≤ i → i < zz_h M 68 1 t → zz_h X 30 (t + 1) i = zz_h M 70 1 (4 * t + i))
theorem yF.n {t : Int} {X M : zz_S} (h : yF t X M) : zz_h X 9 (t + 1) 2 = zz_h M 68 1 t := h.1
theorem yF.nr {t : Int} {X M : zz_S} (h : yF t X M) : 0 ≤ zz_h M 68 1 t ∧ zz_h M 68 1 t ≤ 4 := h.2.1
theorem yF.o {t : Int} {X M : zz_S} (h : yF t X M) : ∀ i : Int, 0 ≤ i → i < zz_h M 68 1 t → zz_h X 29 (t + 1) i = zz_h M 69 1 (4 * t + i) ∧ 0 ≤ zz_h M 69 1 (4 * t + i) ∧ zz_h M 69 1 (4 * t + i) < zz_h M 40 1 9 := h.2.2.1
theorem yF.w {t : Int} {X M : zz_S} (h : yF t X M) : ∀ i : Int, 0 ≤ i → i < zz_h M 68 1 t → zz_h X 30 (t + 1) i = zz_h M 70 1 (4 * t + i) := h.2.2.2
def yk_F (k : Nat) (j : Int) : Bool := (k == 9 && j == 2) || k == 29 || k == 30 || (68 ≤ k && k ≤ 70) || (k == 40 && j == 9)
theorem yF.cg {t : Int} {X M X' M' : zz_S} (h : yF t X M) (hx : yK yk_F X X') (hm : yK yk_F M M') : yF t X' M' := by
  have x1 := hx 9 (t + 1) 2 rfl
  have x2 : ∀ i, zz_h X' 29 (t + 1) i = zz_h X 29 (t + 1) i := fun i => hx 29 (t + 1) i rfl
  have x3 : ∀ i, zz_h X' 30 (t + 1) i = zz_h X 30 (t + 1) i := fun i => hx 30 (t + 1) i rfl
  have m1 := hm 68 1 t rfl
  have m2 : ∀ i, zz_h M' 69 1 i = zz_h M 69 1 i := fun i => hm 69 1 i rfl
  have m3 : ∀ i, zz_h M' 70 1 i = zz_h M 70 1 i := fun i => hm 70 1 i rfl
  have m4 := hm 40 1 9 rfl
  simp only [yF, x1, x2, x3, m1, m2, m3, m4]
  exact h
/-- groups, plans, cells, idle minutes, book -/
def yG (X M : zz_S) : Prop := (∀ i : Int, 0 ≤ i → i < zz_h M 40 1 7 → zz_h X 14 1 i = zz_h M 43 1 i) ∧ (∀ i : Int, 0 ≤ i → i < zz_h M 40 1 37 → zz_h X 25 1 i = zz_h M 71 1 i) ∧ (∀ i : Int, 0 ≤ i → i < zz_h M 40 1 37 → zz_h X 26 1 i = zz_h M 72 1 i) ∧ (∀ i : Int, 0 ≤ i → i < zz_h M 40 1 37 → zz_h X 27 1 i = zz_h M 73 1 i) ∧ (∀ i : Int, 0 ≤ i → i < 8 → zz_h X 17 1 i = zz_h M 74 1 i) ∧ (∀ i : Int, 0 ≤ i → i < 8 → zz_h X 15 1 i = zz_h M 42 1 i)
theorem yG.g {X M : zz_S} (h : yG X M) : ∀ i : Int, 0 ≤ i → i < zz_h M 40 1 7 → zz_h X 14 1 i = zz_h M 43 1 i := h.1
theorem yG.p1 {X M : zz_S} (h : yG X M) : ∀ i : Int, 0 ≤ i → i < zz_h M 40 1 37 → zz_h X 25 1 i = zz_h M 71 1 i := h.2.1
theorem yG.p2 {X M : zz_S} (h : yG X M) : ∀ i : Int, 0 ≤ i → i < zz_h M 40 1 37 → zz_h X 26 1 i = zz_h M 72 1 i := h.2.2.1
theorem yG.p3 {X M : zz_S} (h : yG X M) : ∀ i : Int, 0 ≤ i → i < zz_h M 40 1 37 → zz_h X 27 1 i = zz_h M 73 1 i := h.2.2.2.1
theorem yG.c {X M : zz_S} (h : yG X M) : ∀ i : Int, 0 ≤ i → i < 8 → zz_h X 17 1 i = zz_h M 74 1 i := h.2.2.2.2.1
theorem yG.d {X M : zz_S} (h : yG X M) : ∀ i : Int, 0 ≤ i → i < 8 → zz_h X 15 1 i = zz_h M 42 1 i := h.2.2.2.2.2
def yk_G (k : Nat) (j : Int) : Bool := k == 14 || k == 25 || k == 26 || k == 27 || k == 17 || k == 15 || k == 43 || (71 ≤ k && k ≤ 74) || k == 42 || (k == 40 && (j == 7 || j == 37))
theorem yG.cg {X M X' M' : zz_S} (h : yG X M) (hx : yK yk_G X X') (hm : yK yk_G M M') : yG X' M' := by
  have x1 : ∀ i, zz_h X' 14 1 i = zz_h X 14 1 i := fun i => hx 14 1 i rfl
  have x2 : ∀ i, zz_h X' 25 1 i = zz_h X 25 1 i := fun i => hx 25 1 i rfl
  have x3 : ∀ i, zz_h X' 26 1 i = zz_h X 26 1 i := fun i => hx 26 1 i rfl
  have x4 : ∀ i, zz_h X' 27 1 i = zz_h X 27 1 i := fun i => hx 27 1 i rfl
  have x5 : ∀ i, zz_h X' 17 1 i = zz_h X 17 1 i := fun i => hx 17 1 i rfl
  have x6 : ∀ i, zz_h X' 15 1 i = zz_h X 15 1 i := fun i => hx 15 1 i rfl
  have m1 : ∀ i, zz_h M' 43 1 i = zz_h M 43 1 i := fun i => hm 43 1 i rfl
  have m2 : ∀ i, zz_h M' 71 1 i = zz_h M 71 1 i := fun i => hm 71 1 i rfl
  have m3 : ∀ i, zz_h M' 72 1 i = zz_h M 72 1 i := fun i => hm 72 1 i rfl
  have m4 : ∀ i, zz_h M' 73 1 i = zz_h M 73 1 i := fun i => hm 73 1 i rfl
  have m5 : ∀ i, zz_h M' 74 1 i = zz_h M 74 1 i := fun i => hm 74 1 i rfl
  have m6 : ∀ i, zz_h M' 42 1 i = zz_h M 42 1 i := fun i => hm 42 1 i rfl
  have m7 := hm 40 1 7 rfl
  have m8 := hm 40 1 37 rfl
  simp only [yG, x1, x2, x3, x4, x5, x6, m1, m2, m3, m4, m5, m6, m7, m8]
  exact h
/-- the rows of the book -/
def yM (b : Int) (X M : zz_S) : Prop := (zz_h X 5 1 3 = zz_h M 40 1 57) ∧ (0 ≤ zz_h M 40 1 57 ∧ zz_h M 40 1 57 ≤ b) ∧ (∀ i : Int, 0 ≤ i → i < 300 → i < zz_h M 40 1 57 → zz_h X 22 1 i = zz_h M 88 1 i) ∧ (∀ i : Int, 0 ≤ i → i < 300 → i < zz_h M 40 1 57 → zz_h X 23 1 i = zz_h M 89 1 i) ∧ (∀ i : Int, 0 ≤ i → i < 300 → i < zz_h M 40 1 57 → zz_h X 24 1 i = zz_h M 90 1 i)
theorem yM.k {b : Int} {X M : zz_S} (h : yM b X M) : zz_h X 5 1 3 = zz_h M 40 1 57 := h.1
theorem yM.kr {b : Int} {X M : zz_S} (h : yM b X M) : 0 ≤ zz_h M 40 1 57 ∧ zz_h M 40 1 57 ≤ b := h.2.1
theorem yM.a {b : Int} {X M : zz_S} (h : yM b X M) : ∀ i : Int, 0 ≤ i → i < 300 → i < zz_h M 40 1 57 → zz_h X 22 1 i = zz_h M 88 1 i := h.2.2.1
theorem yM.b {b : Int} {X M : zz_S} (h : yM b X M) : ∀ i : Int, 0 ≤ i → i < 300 → i < zz_h M 40 1 57 → zz_h X 23 1 i = zz_h M 89 1 i := h.2.2.2.1
theorem yM.c {b : Int} {X M : zz_S} (h : yM b X M) : ∀ i : Int, 0 ≤ i → i < 300 → i < zz_h M 40 1 57 → zz_h X 24 1 i = zz_h M 90 1 i := h.2.2.2.2
def yk_M (k : Nat) (j : Int) : Bool := k == 22 || k == 23 || k == 24 || k == 88 || k == 89 || k == 90 || (k == 40 && j == 57) || (k == 5 && j == 3)
theorem yM.cg {b : Int} {X M X' M' : zz_S} (h : yM b X M) (hx : yK yk_M X X') (hm : yK yk_M M M') : yM b X' M' := by
  have x0 := hx 5 1 3 rfl
  have x1 : ∀ i, zz_h X' 22 1 i = zz_h X 22 1 i := fun i => hx 22 1 i rfl
  have x2 : ∀ i, zz_h X' 23 1 i = zz_h X 23 1 i := fun i => hx 23 1 i rfl
  have x3 : ∀ i, zz_h X' 24 1 i = zz_h X 24 1 i := fun i => hx 24 1 i rfl
  have m1 : ∀ i, zz_h M' 88 1 i = zz_h M 88 1 i := fun i => hm 88 1 i rfl
  have m2 : ∀ i, zz_h M' 89 1 i = zz_h M 89 1 i := fun i => hm 89 1 i rfl
  have m3 : ∀ i, zz_h M' 90 1 i = zz_h M 90 1 i := fun i => hm 90 1 i rfl
  have m4 := hm 40 1 57 rfl
  simp only [yM, x0, x1, x2, x3, m1, m2, m3, m4]
  exact h
theorem yM.up {b c : Int} {X M : zz_S} (h : yM b X M) (e : b ≤ c) : yM c X M := by
  unfold yM
  exact ⟨h.k, ⟨h.kr.1, Int.le_trans h.kr.2 e⟩, h.a, h.b, h.c⟩
/-- the record of a run -/
def yI (r : Int) (X M : zz_S) : Prop := (zz_h X 12 1 r = r + 1) ∧ (zz_h X 10 (r + 1) 0 = r) ∧ (zz_h X 10 (r + 1) 1 = zz_h M 75 1 r + 1) ∧ (0 ≤ zz_h M 75 1 r ∧ zz_h M 75 1 r < zz_h M 40 1 9) ∧ (zz_h X 10 (r + 1) 2 = zz_h M 84 1 r) ∧ (zz_h X 10 (r + 1) 3 = zz_h M 76 1 r) ∧ (zz_h X 10 (r + 1) 4 = zz_h M 77 1 r) ∧ (zz_h X 10 (r + 1) 5 = zz_h M 78 1 r) ∧ (zz_h X 10 (r + 1) 6 = zz_h M 82 1 r) ∧ (zz_h X 10 (r + 1) 7 = zz_h M 83 1 r) ∧ (zz_h X 10 (r + 1) 8 = zz_h M 79 1 r) ∧ (zz_h X 10 (r + 1) 9 = zz_h M 80 1 r) ∧ (zz_h X 10 (r + 1) 10 = zz_h M 81 1 r)
theorem yI.re {r : Int} {X M : zz_S} (h : yI r X M) : zz_h X 12 1 r = r + 1 := h.1
theorem yI.nu {r : Int} {X M : zz_S} (h : yI r X M) : zz_h X 10 (r + 1) 0 = r := h.2.1
theorem yI.ta {r : Int} {X M : zz_S} (h : yI r X M) : zz_h X 10 (r + 1) 1 = zz_h M 75 1 r + 1 := h.2.2.1
theorem yI.tr {r : Int} {X M : zz_S} (h : yI r X M) : 0 ≤ zz_h M 75 1 r ∧ zz_h M 75 1 r < zz_h M 40 1 9 := h.2.2.2.1
theorem yI.ti {r : Int} {X M : zz_S} (h : yI r X M) : zz_h X 10 (r + 1) 2 = zz_h M 84 1 r := h.2.2.2.2.1
theorem yI.du {r : Int} {X M : zz_S} (h : yI r X M) : zz_h X 10 (r + 1) 3 = zz_h M 76 1 r := h.2.2.2.2.2.1
theorem yI.fr {r : Int} {X M : zz_S} (h : yI r X M) : zz_h X 10 (r + 1) 4 = zz_h M 77 1 r := h.2.2.2.2.2.2.1
theorem yI.to {r : Int} {X M : zz_S} (h : yI r X M) : zz_h X 10 (r + 1) 5 = zz_h M 78 1 r := h.2.2.2.2.2.2.2.1
theorem yI.wo {r : Int} {X M : zz_S} (h : yI r X M) : zz_h X 10 (r + 1) 6 = zz_h M 82 1 r := h.2.2.2.2.2.2.2.2.1
theorem yI.gr {r : Int} {X M : zz_S} (h : yI r X M) : zz_h X 10 (r + 1) 7 = zz_h M 83 1 r := h.2.2.2.2.2.2.2.2.2.1
theorem yI.en {r : Int} {X M : zz_S} (h : yI r X M) : zz_h X 10 (r + 1) 8 = zz_h M 79 1 r := h.2.2.2.2.2.2.2.2.2.2.1
theorem yI.st {r : Int} {X M : zz_S} (h : yI r X M) : zz_h X 10 (r + 1) 9 = zz_h M 80 1 r := h.2.2.2.2.2.2.2.2.2.2.2.1
theorem yI.ki {r : Int} {X M : zz_S} (h : yI r X M) : zz_h X 10 (r + 1) 10 = zz_h M 81 1 r := h.2.2.2.2.2.2.2.2.2.2.2.2
def yk_I (k : Nat) (j : Int) : Bool := k == 12 || k == 10 || (75 ≤ k && k ≤ 84) || (k == 40 && j == 9)
theorem yI.cg {r : Int} {X M X' M' : zz_S} (h : yI r X M) (hx : yK yk_I X X') (hm : yK yk_I M M') : yI r X' M' := by
  have x0 := hx 12 1 r rfl
  have x1 : ∀ j, zz_h X' 10 (r + 1) j = zz_h X 10 (r + 1) j := fun j => hx 10 (r + 1) j rfl
  have m1 := hm 75 1 r rfl
  have m2 := hm 76 1 r rfl
  have m3 := hm 77 1 r rfl
  have m4 := hm 78 1 r rfl
  have m5 := hm 79 1 r rfl
  have m6 := hm 80 1 r rfl
  have m7 := hm 81 1 r rfl
  have m8 := hm 82 1 r rfl
  have m9 := hm 83 1 r rfl
  have m10 := hm 84 1 r rfl
  have m11 := hm 40 1 9 rfl
  simp only [yI, x0, x1, m1, m2, m3, m4, m5, m6, m7, m8, m9, m10, m11]
  exact h
