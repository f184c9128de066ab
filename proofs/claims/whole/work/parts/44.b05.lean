/-- the runs of the workers, in the workers' order -/
def yw (M : zz_S) : Nat → List Int
  | 0 => []
  | n + 1 => if zz_h M 41 1 n = -1 then yw M n else zz_h M 41 1 n :: yw M n
/-- how many in a list -/
def yct (p : Int → Bool) (l : List Int) : Int := (l.countP p : Nat)
/-- the runs at work, aw in their order -/
def yJ (aw : List Int) (X M : zz_S) : Prop := (zz_h X 3 1 13 = aw.length) ∧ (∀ k (h : k < aw.length), zz_h X 13 1 (k : Nat) = aw[k] + 1) ∧ (∀ r, r ∈ aw ↔ 0 ≤ r ∧ r < zz_h M 40 1 42 ∧ zz_h M 80 1 r = 0) ∧ (aw.Pairwise (· < ·)) ∧ (∀ r, r ∈ aw → 0 ≤ zz_h M 82 1 r ∧ zz_h M 82 1 r < zz_h M 40 1 4 ∧ zz_h M 41 1 (zz_h M 82 1 r) = r) ∧ (∀ w : Int, 0 ≤ w → w < 8 → (zz_h X 16 1 w = 0 ∧ zz_h M 41 1 w = -1) ∨ (zz_h X 16 1 w = 1 ∧ w < zz_h M 40 1 4 ∧ zz_h M 41 1 w ∈ aw ∧ zz_h M 82 1 (zz_h M 41 1 w) = w)) ∧ ((yw M (zz_h M 40 1 4).toNat).Perm aw) ∧ (∀ t : Int, 0 ≤ t → t < zz_h M 40 1 9 → zz_h X 7 (t + 1) 15 = yct (fun r => zz_h M 75 1 r == t) aw)
theorem yJ.le {aw : List Int} {X M : zz_S} (h : yJ aw X M) : zz_h X 3 1 13 = aw.length := h.1
theorem yJ.at_ {aw : List Int} {X M : zz_S} (h : yJ aw X M) : ∀ k (h : k < aw.length), zz_h X 13 1 (k : Nat) = aw[k] + 1 := h.2.1
theorem yJ.mem {aw : List Int} {X M : zz_S} (h : yJ aw X M) : ∀ r, r ∈ aw ↔ 0 ≤ r ∧ r < zz_h M 40 1 42 ∧ zz_h M 80 1 r = 0 := h.2.2.1
theorem yJ.so {aw : List Int} {X M : zz_S} (h : yJ aw X M) : aw.Pairwise (· < ·) := h.2.2.2.1
theorem yJ.wk {aw : List Int} {X M : zz_S} (h : yJ aw X M) : ∀ r, r ∈ aw → 0 ≤ zz_h M 82 1 r ∧ zz_h M 82 1 r < zz_h M 40 1 4 ∧ zz_h M 41 1 (zz_h M 82 1 r) = r := h.2.2.2.2.1
theorem yJ.bu {aw : List Int} {X M : zz_S} (h : yJ aw X M) : ∀ w : Int, 0 ≤ w → w < 8 → (zz_h X 16 1 w = 0 ∧ zz_h M 41 1 w = -1) ∨ (zz_h X 16 1 w = 1 ∧ w < zz_h M 40 1 4 ∧ zz_h M 41 1 w ∈ aw ∧ zz_h M 82 1 (zz_h M 41 1 w) = w) := h.2.2.2.2.2.1
theorem yJ.pe {aw : List Int} {X M : zz_S} (h : yJ aw X M) : (yw M (zz_h M 40 1 4).toNat).Perm aw := h.2.2.2.2.2.2.1
theorem yJ.wo {aw : List Int} {X M : zz_S} (h : yJ aw X M) : ∀ t : Int, 0 ≤ t → t < zz_h M 40 1 9 → zz_h X 7 (t + 1) 15 = yct (fun r => zz_h M 75 1 r == t) aw := h.2.2.2.2.2.2.2
def yk_J (k : Nat) (j : Int) : Bool := (k == 3 && j == 13) || k == 13 || (k == 40 && (j == 42 || j == 4 || j == 9)) || k == 80 || k == 82 || k == 41 || k == 75 || k == 16 || (k == 7 && j == 15)
theorem yw.cg {M M' : zz_S} (h : ∀ w : Int, zz_h M' 41 1 w = zz_h M 41 1 w) : ∀ n, yw M' n = yw M n
  | 0 => rfl
  | n + 1 => by rw [yw, yw, h, yw.cg h n]
theorem yJ.cg {aw : List Int} {X M X' M' : zz_S} (h : yJ aw X M) (hx : yK yk_J X X') (hm : yK yk_J M M') : yJ aw X' M' := by
  have x1 := hx 3 1 13 rfl
  have x2 : ∀ i, zz_h X' 13 1 i = zz_h X 13 1 i := fun i => hx 13 1 i rfl
  have x3 : ∀ i, zz_h X' 16 1 i = zz_h X 16 1 i := fun i => hx 16 1 i rfl
  have x4 : ∀ i, zz_h X' 7 i 15 = zz_h X 7 i 15 := fun i => hx 7 i 15 rfl
  have m1 := hm 40 1 42 rfl
  have m2 := hm 40 1 4 rfl
  have m3 := hm 40 1 9 rfl
  have m4 : ∀ i, zz_h M' 80 1 i = zz_h M 80 1 i := fun i => hm 80 1 i rfl
  have m5 : ∀ i, zz_h M' 82 1 i = zz_h M 82 1 i := fun i => hm 82 1 i rfl
  have m6 : ∀ i, zz_h M' 41 1 i = zz_h M 41 1 i := fun i => hm 41 1 i rfl
  have m7 : ∀ i, zz_h M' 75 1 i = zz_h M 75 1 i := fun i => hm 75 1 i rfl
  have m8 := yw.cg m6
  simp only [yJ, x1, x2, x3, x4, m1, m2, m3, m4, m5, m6, m7, m8]
  exact h
/-- the dues that wait: task, minute, late -/
abbrev yd : Type := Int × Int × Int
def ydc (p : yd → Bool) (l : List yd) : Int := (l.countP p : Nat)
/-- the dues of the class -/
def yLx (dl : List yd) (X : zz_S) : Prop := (zz_h X 4 1 3 = dl.length) ∧ (∀ k (h : k < dl.length), zz_h X 19 1 (k : Nat) = dl[k].1 + 1 ∧ zz_h X 20 1 (k : Nat) = dl[k].2.1 ∧ zz_h X 21 1 (k : Nat) = dl[k].2.2)
theorem yLx.le {dl : List yd} {X : zz_S} (h : yLx dl X) : zz_h X 4 1 3 = dl.length := h.1
theorem yLx.a {dl : List yd} {X : zz_S} (h : yLx dl X) : ∀ k (h : k < dl.length), zz_h X 19 1 (k : Nat) = dl[k].1 + 1 ∧ zz_h X 20 1 (k : Nat) = dl[k].2.1 ∧ zz_h X 21 1 (k : Nat) = dl[k].2.2 := h.2
/-- the dues of the reference -/
def yLm (dl : List yd) (M : zz_S) : Prop := (zz_h M 40 1 53 = dl.length) ∧ (∀ k (h : k < dl.length), zz_h M 85 1 (k : Nat) = dl[k].1 ∧ zz_h M 86 1 (k : Nat) = dl[k].2.1 ∧ zz_h M 87 1 (k : Nat) = dl[k].2.2)
theorem yLm.le {dl : List yd} {M : zz_S} (h : yLm dl M) : zz_h M 40 1 53 = dl.length := h.1
theorem yLm.a {dl : List yd} {M : zz_S} (h : yLm dl M) : ∀ k (h : k < dl.length), zz_h M 85 1 (k : Nat) = dl[k].1 ∧ zz_h M 86 1 (k : Nat) = dl[k].2.1 ∧ zz_h M 87 1 (k : Nat) = dl[k].2.2 := h.2
def yL (dl : List yd) (X M : zz_S) : Prop := (yLx dl X) ∧ (yLm dl M) ∧ (dl.length ≤ 100) ∧ (∀ d ∈ dl, 0 ≤ d.1 ∧ d.1 < zz_h M 40 1 9 ∧ zz_h M 56 1 d.1 = 0 ∧ (d.2.2 = 0 ∨ d.2.2 = 1)) ∧ (∀ t : Int, 0 ≤ t → t < zz_h M 40 1 9 → zz_h X 7 (t + 1) 16 = ydc (fun d => d.1 == t) dl)
theorem yL.x {dl : List yd} {X M : zz_S} (h : yL dl X M) : yLx dl X := h.1
theorem yL.m {dl : List yd} {X M : zz_S} (h : yL dl X M) : yLm dl M := h.2.1
theorem yL.le {dl : List yd} {X M : zz_S} (h : yL dl X M) : dl.length ≤ 100 := h.2.2.1
theorem yL.t {dl : List yd} {X M : zz_S} (h : yL dl X M) : ∀ d ∈ dl, 0 ≤ d.1 ∧ d.1 < zz_h M 40 1 9 ∧ zz_h M 56 1 d.1 = 0 ∧ (d.2.2 = 0 ∨ d.2.2 = 1) := h.2.2.2.1
theorem yL.wa {dl : List yd} {X M : zz_S} (h : yL dl X M) : ∀ t : Int, 0 ≤ t → t < zz_h M 40 1 9 → zz_h X 7 (t + 1) 16 = ydc (fun d => d.1 == t) dl := h.2.2.2.2
def yk_Lx (k : Nat) (j : Int) : Bool := (k == 4 && j == 3) || k == 19 || k == 20 || k == 21
def yk_Lm (k : Nat) (j : Int) : Bool := (k == 40 && j == 53) || k == 85 || k == 86 || k == 87
def yk_L (k : Nat) (j : Int) : Bool := (k == 4 && j == 3) || k == 19 || k == 20 || k == 21 || (k == 40 && (j == 53 || j == 9)) || k == 85 || k == 86 || k == 87 || k == 56 || (k == 7 && j == 16)
theorem yLx.cg {dl : List yd} {X X' : zz_S} (h : yLx dl X) (hx : yK yk_Lx X X') : yLx dl X' := by
  have x1 := hx 4 1 3 rfl
  have x2 : ∀ i, zz_h X' 19 1 i = zz_h X 19 1 i := fun i => hx 19 1 i rfl
  have x3 : ∀ i, zz_h X' 20 1 i = zz_h X 20 1 i := fun i => hx 20 1 i rfl
  have x4 : ∀ i, zz_h X' 21 1 i = zz_h X 21 1 i := fun i => hx 21 1 i rfl
  simp only [yLx, x1, x2, x3, x4]
  exact h
theorem yLm.cg {dl : List yd} {M M' : zz_S} (h : yLm dl M) (hm : yK yk_Lm M M') : yLm dl M' := by
  have x1 := hm 40 1 53 rfl
  have x2 : ∀ i, zz_h M' 85 1 i = zz_h M 85 1 i := fun i => hm 85 1 i rfl
  have x3 : ∀ i, zz_h M' 86 1 i = zz_h M 86 1 i := fun i => hm 86 1 i rfl
  have x4 : ∀ i, zz_h M' 87 1 i = zz_h M 87 1 i := fun i => hm 87 1 i rfl
  simp only [yLm, x1, x2, x3, x4]
  exact h
theorem yL.cg {dl : List yd} {X M X' M' : zz_S} (h : yL dl X M) (hx : yK yk_L X X') (hm : yK yk_L M M') : yL dl X' M' := by
  have m1 := hm 40 1 9 rfl
  have m2 : ∀ i, zz_h M' 56 1 i = zz_h M 56 1 i := fun i => hm 56 1 i rfl
  have x1 : ∀ i, zz_h X' 7 i 16 = zz_h X 7 i 16 := fun i => hx 7 i 16 rfl
  unfold yL
  refine ⟨h.x.cg (hx.sub ?_), h.m.cg (hm.sub ?_), h.le, ?_, ?_⟩
  · intro k j e
    simp only [yk_Lx, yk_L, Bool.or_eq_true, Bool.and_eq_true, beq_iff_eq] at e ⊢
    omega
  · intro k j e
    simp only [yk_Lm, yk_L, Bool.or_eq_true, Bool.and_eq_true, beq_iff_eq] at e ⊢
    omega
  · simp only [m1, m2]
    exact h.t
  · simp only [m1, x1]
    exact h.wa
/-- how many objects there are -/
def yN (X : zz_S) : Prop := (zz_c X 7 = zz_h X 3 1 11 ∧ zz_m X 7 = zz_h X 3 1 11) ∧ (zz_c X 8 = zz_h X 3 1 11 ∧ zz_m X 8 = zz_h X 3 1 11) ∧ (zz_c X 9 = zz_h X 3 1 11 ∧ zz_m X 9 = zz_h X 3 1 11) ∧ (zz_c X 28 = zz_h X 3 1 11 ∧ zz_m X 28 = zz_h X 3 1 11) ∧ (zz_c X 29 = zz_h X 3 1 11 ∧ zz_m X 29 = zz_h X 3 1 11) ∧ (zz_c X 30 = zz_h X 3 1 11 ∧ zz_m X 30 = zz_h X 3 1 11) ∧ (zz_c X 10 = zz_h X 3 1 12 ∧ zz_m X 10 = zz_h X 3 1 12) ∧ (∀ j : Nat, j < 13 → zz_h X 1 1 j = ([0, 31, 59, 90, 120, 151, 181, 212, 243, 273, 304, 334, 365] : List Int).getD j 0) ∧ (∀ j : Nat, j < 9 → zz_h X 2 1 j = ([59, 23, 23, 6, 6, 31, 0, 5, 12] : List Int).getD j 0)
theorem yN.c7 {X : zz_S} (h : yN X) : zz_c X 7 = zz_h X 3 1 11 ∧ zz_m X 7 = zz_h X 3 1 11 := h.1
theorem yN.c8 {X : zz_S} (h : yN X) : zz_c X 8 = zz_h X 3 1 11 ∧ zz_m X 8 = zz_h X 3 1 11 := h.2.1
theorem yN.c9 {X : zz_S} (h : yN X) : zz_c X 9 = zz_h X 3 1 11 ∧ zz_m X 9 = zz_h X 3 1 11 := h.2.2.1
theorem yN.c28 {X : zz_S} (h : yN X) : zz_c X 28 = zz_h X 3 1 11 ∧ zz_m X 28 = zz_h X 3 1 11 := h.2.2.2.1
theorem yN.c29 {X : zz_S} (h : yN X) : zz_c X 29 = zz_h X 3 1 11 ∧ zz_m X 29 = zz_h X 3 1 11 := h.2.2.2.2.1
theorem yN.c30 {X : zz_S} (h : yN X) : zz_c X 30 = zz_h X 3 1 11 ∧ zz_m X 30 = zz_h X 3 1 11 := h.2.2.2.2.2.1
theorem yN.c10 {X : zz_S} (h : yN X) : zz_c X 10 = zz_h X 3 1 12 ∧ zz_m X 10 = zz_h X 3 1 12 := h.2.2.2.2.2.2.1
theorem yN.z1 {X : zz_S} (h : yN X) : ∀ j : Nat, j < 13 → zz_h X 1 1 j = ([0, 31, 59, 90, 120, 151, 181, 212, 243, 273, 304, 334, 365] : List Int).getD j 0 := h.2.2.2.2.2.2.2.1
theorem yN.z2 {X : zz_S} (h : yN X) : ∀ j : Nat, j < 9 → zz_h X 2 1 j = ([59, 23, 23, 6, 6, 31, 0, 5, 12] : List Int).getD j 0 := h.2.2.2.2.2.2.2.2
/-- the counts are kept -/
def yQ (s t : zz_S) : Prop := ∀ k, zz_c t k = zz_c s k ∧ zz_m t k = zz_m s k
theorem yQ.rf {s : zz_S} : yQ s s := fun _ => ⟨rfl, rfl⟩
theorem yQ.tr {s t u : zz_S} (h : yQ s t) (g : yQ t u) : yQ s u := fun k => ⟨(g k).1.trans (h k).1, (g k).2.trans (h k).2⟩
theorem yQ.w {s t : zz_S} {k : Nat} {i j v : Int} (h : yQ s t) : yQ s (zz_w t k i j v) := h
def yk_N (k : Nat) (j : Int) : Bool := (k == 3 && (j == 11 || j == 12)) || k == 1 || k == 2
theorem yN.cg {X X' : zz_S} (h : yN X) (hx : yK yk_N X X') (hq : yQ X X') : yN X' := by
  have x1 := hx 3 1 11 rfl
  have x2 := hx 3 1 12 rfl
  have x3 : ∀ j, zz_h X' 1 1 j = zz_h X 1 1 j := fun j => hx 1 1 j rfl
  have x4 : ∀ j, zz_h X' 2 1 j = zz_h X 2 1 j := fun j => hx 2 1 j rfl
  have q1 : ∀ k, zz_c X' k = zz_c X k := fun k => (hq k).1
  have q2 : ∀ k, zz_m X' k = zz_m X k := fun k => (hq k).2
  simp only [yN, x1, x2, x3, x4, q1, q2]
  exact h
/-- a place of the tasks' arrays that no task has yet -/
def yU1 (t : Int) (M : zz_S) : Prop := (zz_h M 48 1 t = 0) ∧ (zz_h M 50 1 t = 0) ∧ (zz_h M 51 1 t = 0) ∧ (zz_h M 52 1 t = 0) ∧ (zz_h M 53 1 t = 0) ∧ (zz_h M 54 1 t = 0) ∧ (zz_h M 55 1 t = 0) ∧ (zz_h M 56 1 t = 0) ∧ (zz_h M 58 1 t = 0) ∧ (zz_h M 59 1 t = 0) ∧ (zz_h M 61 1 t = 0) ∧ (zz_h M 63 1 t = 0) ∧ (zz_h M 64 1 t = 0) ∧ (zz_h M 68 1 t = 0)
theorem yU1.u48 {t : Int} {M : zz_S} (h : yU1 t M) : zz_h M 48 1 t = 0 := h.1
theorem yU1.u50 {t : Int} {M : zz_S} (h : yU1 t M) : zz_h M 50 1 t = 0 := h.2.1
theorem yU1.u51 {t : Int} {M : zz_S} (h : yU1 t M) : zz_h M 51 1 t = 0 := h.2.2.1
theorem yU1.u52 {t : Int} {M : zz_S} (h : yU1 t M) : zz_h M 52 1 t = 0 := h.2.2.2.1
theorem yU1.u53 {t : Int} {M : zz_S} (h : yU1 t M) : zz_h M 53 1 t = 0 := h.2.2.2.2.1
theorem yU1.u54 {t : Int} {M : zz_S} (h : yU1 t M) : zz_h M 54 1 t = 0 := h.2.2.2.2.2.1
theorem yU1.u55 {t : Int} {M : zz_S} (h : yU1 t M) : zz_h M 55 1 t = 0 := h.2.2.2.2.2.2.1
theorem yU1.u56 {t : Int} {M : zz_S} (h : yU1 t M) : zz_h M 56 1 t = 0 := h.2.2.2.2.2.2.2.1
theorem yU1.u58 {t : Int} {M : zz_S} (h : yU1 t M) : zz_h M 58 1 t = 0 := h.2.2.2.2.2.2.2.2.1
theorem yU1.u59 {t : Int} {M : zz_S} (h : yU1 t M) : zz_h M 59 1 t = 0 := h.2.2.2.2.2.2.2.2.2.1
theorem yU1.u61 {t : Int} {M : zz_S} (h : yU1 t M) : zz_h M 61 1 t = 0 := h.2.2.2.2.2.2.2.2.2.2.1
theorem yU1.u63 {t : Int} {M : zz_S} (h : yU1 t M) : zz_h M 63 1 t = 0 := h.2.2.2.2.2.2.2.2.2.2.2.1
theorem yU1.u64 {t : Int} {M : zz_S} (h : yU1 t M) : zz_h M 64 1 t = 0 := h.2.2.2.2.2.2.2.2.2.2.2.2.1
theorem yU1.u68 {t : Int} {M : zz_S} (h : yU1 t M) : zz_h M 68 1 t = 0 := h.2.2.2.2.2.2.2.2.2.2.2.2.2
def yU (M : zz_S) : Prop := ∀ t, zz_h M 40 1 9 ≤ t → t < 60 → yU1 t M
def yk_U (k : Nat) (j : Int) : Bool := k == 48 || (50 ≤ k && k ≤ 56) || k == 58 || k == 59 || k == 61 || k == 63 || k == 64 || k == 68 || (k == 40 && j == 9)
/-- two states that agree at one place -/
theorem yU1.cg {t : Int} {M M' : zz_S} (h : yU1 t M) (e : ∀ k, yk_U k 0 = true → zz_h M' k 1 t = zz_h M k 1 t) : yU1 t M' := by
  have a1 := e 48 rfl
  have a2 := e 50 rfl
  have a3 := e 51 rfl
  have a4 := e 52 rfl
  have a5 := e 53 rfl
  have a6 := e 54 rfl
  have a7 := e 55 rfl
  have a8 := e 56 rfl
  have a9 := e 58 rfl
  have a10 := e 59 rfl
  have a11 := e 61 rfl
  have a12 := e 63 rfl
  have a13 := e 64 rfl
  have a14 := e 68 rfl
  simp only [yU1, a1, a2, a3, a4, a5, a6, a7, a8, a9, a10, a11, a12, a13, a14]
  exact h
theorem yU.cg {M M' : zz_S} (h : yU M) (hm : yK yk_U M M') : yU M' := by
  intro t h1 h2
  rw [hm 40 1 9 rfl] at h1
  exact (h t h1 h2).cg fun k e => hm k 1 t (by
    simp [yk_U] at e ⊢
    omega)
/-- a write at a place that a task has -/
theorem yU.wr {M : zz_S} (h : yU M) {k : Nat} {t v : Int} (hk : k ≠ 40) (ht : t < zz_h M 40 1 9) : yU (zz_w M k 1 t v) := by
  intro s h1 h2
  rw [yy_kind (fun z => hk z.symm)] at h1
  exact (h s h1 h2).cg fun k' e => by
    rw [zz_h_w, if_neg]
    rintro ⟨-, -, z⟩
    omega
/-- THE RELATION -/
def yS (e : Nat) (b : Int) (aw : List Int) (dl : List yd) (X M : zz_S) : Prop := (yA X M) ∧ (∀ t, 0 ≤ t → t < zz_h M 40 1 9 → yB t X M) ∧ (∀ t, 0 ≤ t → t < zz_h M 40 1 9 → yC b t X M) ∧ (∀ t, 0 ≤ t → t < zz_h M 40 1 9 → yD e (zz_h M 40 1 0) t X M) ∧ (∀ t, 0 ≤ t → t < zz_h M 40 1 9 → yE t X M) ∧ (∀ t, 0 ≤ t → t < zz_h M 40 1 9 → yF t X M) ∧ (yG X M) ∧ (∀ r, 0 ≤ r → r < zz_h M 40 1 42 → yI r X M) ∧ (yJ aw X M) ∧ (yL dl X M) ∧ (yM b X M) ∧ (yN X) ∧ (yU M)
theorem yS.A {e : Nat} {b : Int} {aw : List Int} {dl : List yd} {X M : zz_S} (h : yS e b aw dl X M) : yA X M := h.1
theorem yS.B {e : Nat} {b : Int} {aw : List Int} {dl : List yd} {X M : zz_S} (h : yS e b aw dl X M) : ∀ t, 0 ≤ t → t < zz_h M 40 1 9 → yB t X M := h.2.1
theorem yS.C {e : Nat} {b : Int} {aw : List Int} {dl : List yd} {X M : zz_S} (h : yS e b aw dl X M) : ∀ t, 0 ≤ t → t < zz_h M 40 1 9 → yC b t X M := h.2.2.1
theorem yS.D {e : Nat} {b : Int} {aw : List Int} {dl : List yd} {X M : zz_S} (h : yS e b aw dl X M) : ∀ t, 0 ≤ t → t < zz_h M 40 1 9 → yD e (zz_h M 40 1 0) t X M := h.2.2.2.1
theorem yS.E {e : Nat} {b : Int} {aw : List Int} {dl : List yd} {X M : zz_S} (h : yS e b aw dl X M) : ∀ t, 0 ≤ t → t < zz_h M 40 1 9 → yE t X M := h.2.2.2.2.1
theorem yS.F {e : Nat} {b : Int} {aw : List Int} {dl : List yd} {X M : zz_S} (h : yS e b aw dl X M) : ∀ t, 0 ≤ t → t < zz_h M 40 1 9 → yF t X M := h.2.2.2.2.2.1
theorem yS.G {e : Nat} {b : Int} {aw : List Int} {dl : List yd} {X M : zz_S} (h : yS e b aw dl X M) : yG X M := h.2.2.2.2.2.2.1
theorem yS.I {e : Nat} {b : Int} {aw : List Int} {dl : List yd} {X M : zz_S} (h : yS e b aw dl X M) : ∀ r, 0 ≤ r → r < zz_h M 40 1 42 → yI r X M := h.2.2.2.2.2.2.2.1
theorem yS.J {e : Nat} {b : Int} {aw : List Int} {dl : List yd} {X M : zz_S} (h : yS e b aw dl X M) : yJ aw X M := h.2.2.2.2.2.2.2.2.1
theorem yS.L {e : Nat} {b : Int} {aw : List Int} {dl : List yd} {X M : zz_S} (h : yS e b aw dl X M) : yL dl X M := h.2.2.2.2.2.2.2.2.2.1
theorem yS.R {e : Nat} {b : Int} {aw : List Int} {dl : List yd} {X M : zz_S} (h : yS e b aw dl X M) : yM b X M := h.2.2.2.2.2.2.2.2.2.2.1
theorem yS.N {e : Nat} {b : Int} {aw : List Int} {dl : List yd} {X M : zz_S} (h : yS e b aw dl X M) : yN X := h.2.2.2.2.2.2.2.2.2.2.2.1
theorem yS.U {e : Nat} {b : Int} {aw : List Int} {dl : List yd} {X M : zz_S} (h : yS e b aw dl X M) : yU M := h.2.2.2.2.2.2.2.2.2.2.2.2
