/-! STAGE B: the law -/
theorem yA.cz {X M X' M' : zz_S} (h : yA X M) (hx : ∀ (k : Nat) (i j : Int), k < 40 → zz_h X' k i j = zz_h X k i j) (hm : ∀ (k : Nat) (i j : Int), 40 ≤ k → zz_h M' k i j = zz_h M k i j) : yA X' M' := by
  have x1 := hx 3 1 11 (by decide)
  have x2 := hx 3 1 12 (by decide)
  have x3 := hx 3 1 14 (by decide)
  have x4 := hx 3 1 15 (by decide)
  have x5 := hx 3 1 16 (by decide)
  have x6 := hx 3 1 17 (by decide)
  have x7 := hx 3 1 18 (by decide)
  have x8 := hx 3 1 19 (by decide)
  have x9 := hx 6 1 3 (by decide)
  have m1 := hm 40 1 9 (by decide)
  have m2 := hm 40 1 42 (by decide)
  have m3 := hm 40 1 7 (by decide)
  have m4 := hm 40 1 4 (by decide)
  have m5 := hm 40 1 0 (by decide)
  have m6 := hm 40 1 1 (by decide)
  have m7 := hm 40 1 2 (by decide)
  have m8 := hm 40 1 3 (by decide)
  have m9 := hm 40 1 37 (by decide)
  simp only [yA, x1, x2, x3, x4, x5, x6, x7, x8, x9, m1, m2, m3, m4, m5, m6, m7, m8, m9]
  exact h
theorem yB.cz {t : Int} {X M X' M' : zz_S} (h : yB t X M) (hx : ∀ (k : Nat) (i j : Int), k < 40 → zz_h X' k i j = zz_h X k i j) (hm : ∀ (k : Nat) (i j : Int), 40 ≤ k → zz_h M' k i j = zz_h M k i j) : yB t X' M' := by
  have x1 := hx 11 1 t (by decide)
  have x2 := hx 7 (t + 1) 0 (by decide)
  have x3 := hx 7 (t + 1) 1 (by decide)
  have x4 := hx 7 (t + 1) 2 (by decide)
  have x5 := hx 7 (t + 1) 3 (by decide)
  have x6 := hx 7 (t + 1) 7 (by decide)
  have x7 := hx 7 (t + 1) 8 (by decide)
  have x8 := hx 7 (t + 1) 9 (by decide)
  have x9 := hx 28 (t + 1) 0 (by decide)
  have x10 := hx 28 (t + 1) 1 (by decide)
  have x11 := hx 28 (t + 1) 2 (by decide)
  have x12 := hx 28 (t + 1) 3 (by decide)
  have x13 := hx 28 (t + 1) 4 (by decide)
  have x14 := hx 28 (t + 1) 5 (by decide)
  have m0 := hm 40 1 7 (by decide)
  have m1 := hm 44 1 t (by decide)
  have m2 := hm 45 1 t (by decide)
  have m3 := hm 46 1 t (by decide)
  have m4 := hm 47 1 t (by decide)
  have m5 := hm 48 1 t (by decide)
  have m6 := hm 49 1 t (by decide)
  have m7 := hm 50 1 t (by decide)
  have m8 := hm 51 1 t (by decide)
  have m9 := hm 52 1 t (by decide)
  have m10 := hm 53 1 t (by decide)
  have m11 := hm 54 1 t (by decide)
  have m12 := hm 55 1 t (by decide)
  simp only [yB, x1, x2, x3, x4, x5, x6, x7, x8, x9, x10, x11, x12, x13, x14, m0, m1, m2, m3, m4, m5, m6, m7, m8, m9, m10, m11, m12]
  exact h
theorem yC.cz {b t : Int} {X M X' M' : zz_S} (h : yC b t X M) (hx : ∀ (k : Nat) (i j : Int), k < 40 → zz_h X' k i j = zz_h X k i j) (hm : ∀ (k : Nat) (i j : Int), 40 ≤ k → zz_h M' k i j = zz_h M k i j) : yC b t X' M' := by
  have x1 := hx 7 (t + 1) 10 (by decide)
  have x2 := hx 7 (t + 1) 11 (by decide)
  have x3 := hx 7 (t + 1) 12 (by decide)
  have x4 := hx 7 (t + 1) 13 (by decide)
  have x5 := hx 7 (t + 1) 14 (by decide)
  have x6 := hx 7 (t + 1) 17 (by decide)
  have m1 := hm 56 1 t (by decide)
  have m2 := hm 57 1 t (by decide)
  have m3 := hm 58 1 t (by decide)
  have m4 := hm 59 1 t (by decide)
  have m5 := hm 60 1 t (by decide)
  have m6 := hm 61 1 t (by decide)
  simp only [yC, x1, x2, x3, x4, x5, x6, m1, m2, m3, m4, m5, m6]
  exact h
theorem yD.cz {e : Nat} {u t : Int} {X M X' M' : zz_S} (h : yD e u t X M) (hx : ∀ (k : Nat) (i j : Int), k < 40 → zz_h X' k i j = zz_h X k i j) (hm : ∀ (k : Nat) (i j : Int), 40 ≤ k → zz_h M' k i j = zz_h M k i j) : yD e u t X' M' := by
  have x1 := hx 7 (t + 1) 18 (by decide)
  have x2 := hx 7 (t + 1) 19 (by decide)
  have m1 := hm 62 1 t (by decide)
  have m2 := hm 63 1 t (by decide)
  simp only [yD, x1, x2, m1, m2]
  exact h
theorem yfa.cz {q : Int → Int → Int → Int → Prop} {t : Int} {M M' : zz_S} {v : Int} (hm : ∀ (k : Nat) (i j : Int), 40 ≤ k → zz_h M' k i j = zz_h M k i j) : yfa q t M' v ↔ yfa q t M v := by
  unfold yfa
  rw [hm 64 1 t (by decide)]
  constructor <;> intro h i h1 h2
  · have := h i h1 h2
    rw [hm 65 1 _ (by decide), hm 66 1 _ (by decide), hm 67 1 _ (by decide)] at this
    exact this
  · rw [hm 65 1 _ (by decide), hm 66 1 _ (by decide), hm 67 1 _ (by decide)]
    exact h i h1 h2
theorem yE.cz {t : Int} {X M X' M' : zz_S} (h : yE t X M) (hx : ∀ (k : Nat) (i j : Int), k < 40 → zz_h X' k i j = zz_h X k i j) (hm : ∀ (k : Nat) (i j : Int), 40 ≤ k → zz_h M' k i j = zz_h M k i j) : yE t X' M' := by
  have x0 := hx 8 (t + 1) 0 (by decide)
  have x1 := hx 8 (t + 1) 1 (by decide)
  have x2 := hx 8 (t + 1) 2 (by decide)
  have x3 := hx 8 (t + 1) 3 (by decide)
  have x4 := hx 8 (t + 1) 4 (by decide)
  have x5 := hx 8 (t + 1) 5 (by decide)
  have x6 := hx 8 (t + 1) 6 (by decide)
  have x7 := hx 8 (t + 1) 7 (by decide)
  have m0 := hm 64 1 t (by decide)
  simp only [yE, x0, x1, x2, x3, x4, x5, x6, x7, m0, yfa.cz hm]
  exact h
theorem yF.cz {t : Int} {X M X' M' : zz_S} (h : yF t X M) (hx : ∀ (k : Nat) (i j : Int), k < 40 → zz_h X' k i j = zz_h X k i j) (hm : ∀ (k : Nat) (i j : Int), 40 ≤ k → zz_h M' k i j = zz_h M k i j) : yF t X' M' := by
  have x1 := hx 9 (t + 1) 2 (by decide)
  have x2 : ∀ i, zz_h X' 29 (t + 1) i = zz_h X 29 (t + 1) i := fun i => hx 29 (t + 1) i (by decide)
  have x3 : ∀ i, zz_h X' 30 (t + 1) i = zz_h X 30 (t + 1) i := fun i => hx 30 (t + 1) i (by decide)
  have m1 := hm 68 1 t (by decide)
  have m2 : ∀ i, zz_h M' 69 1 i = zz_h M 69 1 i := fun i => hm 69 1 i (by decide)
  have m3 : ∀ i, zz_h M' 70 1 i = zz_h M 70 1 i := fun i => hm 70 1 i (by decide)
  have m4 := hm 40 1 9 (by decide)
  simp only [yF, x1, x2, x3, m1, m2, m3, m4]
  exact h
theorem yG.cz {X M X' M' : zz_S} (h : yG X M) (hx : ∀ (k : Nat) (i j : Int), k < 40 → zz_h X' k i j = zz_h X k i j) (hm : ∀ (k : Nat) (i j : Int), 40 ≤ k → zz_h M' k i j = zz_h M k i j) : yG X' M' := by
  have x1 : ∀ i, zz_h X' 14 1 i = zz_h X 14 1 i := fun i => hx 14 1 i (by decide)
  have x2 : ∀ i, zz_h X' 25 1 i = zz_h X 25 1 i := fun i => hx 25 1 i (by decide)
  have x3 : ∀ i, zz_h X' 26 1 i = zz_h X 26 1 i := fun i => hx 26 1 i (by decide)
  have x4 : ∀ i, zz_h X' 27 1 i = zz_h X 27 1 i := fun i => hx 27 1 i (by decide)
  have x5 : ∀ i, zz_h X' 17 1 i = zz_h X 17 1 i := fun i => hx 17 1 i (by decide)
  have x6 : ∀ i, zz_h X' 15 1 i = zz_h X 15 1 i := fun i => hx 15 1 i (by decide)
  have m1 : ∀ i, zz_h M' 43 1 i = zz_h M 43 1 i := fun i => hm 43 1 i (by decide)
  have m2 : ∀ i, zz_h M' 71 1 i = zz_h M 71 1 i := fun i => hm 71 1 i (by decide)
  have m3 : ∀ i, zz_h M' 72 1 i = zz_h M 72 1 i := fun i => hm 72 1 i (by decide)
  have m4 : ∀ i, zz_h M' 73 1 i = zz_h M 73 1 i := fun i => hm 73 1 i (by decide)
  have m5 : ∀ i, zz_h M' 74 1 i = zz_h M 74 1 i := fun i => hm 74 1 i (by decide)
  have m6 : ∀ i, zz_h M' 42 1 i = zz_h M 42 1 i := fun i => hm 42 1 i (by decide)
  have m7 := hm 40 1 7 (by decide)
  have m8 := hm 40 1 37 (by decide)
  simp only [yG, x1, x2, x3, x4, x5, x6, m1, m2, m3, m4, m5, m6, m7, m8]
  exact h
theorem yM.cz {b : Int} {X M X' M' : zz_S} (h : yM b X M) (hx : ∀ (k : Nat) (i j : Int), k < 40 → zz_h X' k i j = zz_h X k i j) (hm : ∀ (k : Nat) (i j : Int), 40 ≤ k → zz_h M' k i j = zz_h M k i j) : yM b X' M' := by
  have x0 := hx 5 1 3 (by decide)
  have x1 : ∀ i, zz_h X' 22 1 i = zz_h X 22 1 i := fun i => hx 22 1 i (by decide)
  have x2 : ∀ i, zz_h X' 23 1 i = zz_h X 23 1 i := fun i => hx 23 1 i (by decide)
  have x3 : ∀ i, zz_h X' 24 1 i = zz_h X 24 1 i := fun i => hx 24 1 i (by decide)
  have m1 : ∀ i, zz_h M' 88 1 i = zz_h M 88 1 i := fun i => hm 88 1 i (by decide)
  have m2 : ∀ i, zz_h M' 89 1 i = zz_h M 89 1 i := fun i => hm 89 1 i (by decide)
  have m3 : ∀ i, zz_h M' 90 1 i = zz_h M 90 1 i := fun i => hm 90 1 i (by decide)
  have m4 := hm 40 1 57 (by decide)
  simp only [yM, x0, x1, x2, x3, m1, m2, m3, m4]
  exact h
theorem yI.cz {r : Int} {X M X' M' : zz_S} (h : yI r X M) (hx : ∀ (k : Nat) (i j : Int), k < 40 → zz_h X' k i j = zz_h X k i j) (hm : ∀ (k : Nat) (i j : Int), 40 ≤ k → zz_h M' k i j = zz_h M k i j) : yI r X' M' := by
  have x0 := hx 12 1 r (by decide)
  have x1 : ∀ j, zz_h X' 10 (r + 1) j = zz_h X 10 (r + 1) j := fun j => hx 10 (r + 1) j (by decide)
  have m1 := hm 75 1 r (by decide)
  have m2 := hm 76 1 r (by decide)
  have m3 := hm 77 1 r (by decide)
  have m4 := hm 78 1 r (by decide)
  have m5 := hm 79 1 r (by decide)
  have m6 := hm 80 1 r (by decide)
  have m7 := hm 81 1 r (by decide)
  have m8 := hm 82 1 r (by decide)
  have m9 := hm 83 1 r (by decide)
  have m10 := hm 84 1 r (by decide)
  have m11 := hm 40 1 9 (by decide)
  simp only [yI, x0, x1, m1, m2, m3, m4, m5, m6, m7, m8, m9, m10, m11]
  exact h
theorem yJ.cz {aw : List Int} {X M X' M' : zz_S} (h : yJ aw X M) (hx : ∀ (k : Nat) (i j : Int), k < 40 → zz_h X' k i j = zz_h X k i j) (hm : ∀ (k : Nat) (i j : Int), 40 ≤ k → zz_h M' k i j = zz_h M k i j) : yJ aw X' M' := by
  have x1 := hx 3 1 13 (by decide)
  have x2 : ∀ i, zz_h X' 13 1 i = zz_h X 13 1 i := fun i => hx 13 1 i (by decide)
  have x3 : ∀ i, zz_h X' 16 1 i = zz_h X 16 1 i := fun i => hx 16 1 i (by decide)
  have x4 : ∀ i, zz_h X' 7 i 15 = zz_h X 7 i 15 := fun i => hx 7 i 15 (by decide)
  have m1 := hm 40 1 42 (by decide)
  have m2 := hm 40 1 4 (by decide)
  have m3 := hm 40 1 9 (by decide)
  have m4 : ∀ i, zz_h M' 80 1 i = zz_h M 80 1 i := fun i => hm 80 1 i (by decide)
  have m5 : ∀ i, zz_h M' 82 1 i = zz_h M 82 1 i := fun i => hm 82 1 i (by decide)
  have m6 : ∀ i, zz_h M' 41 1 i = zz_h M 41 1 i := fun i => hm 41 1 i (by decide)
  have m7 : ∀ i, zz_h M' 75 1 i = zz_h M 75 1 i := fun i => hm 75 1 i (by decide)
  have m8 := yw.cg m6
  simp only [yJ, x1, x2, x3, x4, m1, m2, m3, m4, m5, m6, m7, m8]
  exact h
theorem yLx.cz {dl : List yd} {X X' : zz_S} (h : yLx dl X) (hx : ∀ (k : Nat) (i j : Int), k < 40 → zz_h X' k i j = zz_h X k i j) : yLx dl X' := by
  have x1 := hx 4 1 3 (by decide)
  have x2 : ∀ i, zz_h X' 19 1 i = zz_h X 19 1 i := fun i => hx 19 1 i (by decide)
  have x3 : ∀ i, zz_h X' 20 1 i = zz_h X 20 1 i := fun i => hx 20 1 i (by decide)
  have x4 : ∀ i, zz_h X' 21 1 i = zz_h X 21 1 i := fun i => hx 21 1 i (by decide)
  simp only [yLx, x1, x2, x3, x4]
  exact h
theorem yLm.cz {dl : List yd} {M M' : zz_S} (h : yLm dl M) (hm : ∀ (k : Nat) (i j : Int), 40 ≤ k → zz_h M' k i j = zz_h M k i j) : yLm dl M' := by
  have x1 := hm 40 1 53 (by decide)
  have x2 : ∀ i, zz_h M' 85 1 i = zz_h M 85 1 i := fun i => hm 85 1 i (by decide)
  have x3 : ∀ i, zz_h M' 86 1 i = zz_h M 86 1 i := fun i => hm 86 1 i (by decide)
  have x4 : ∀ i, zz_h M' 87 1 i = zz_h M 87 1 i := fun i => hm 87 1 i (by decide)
  simp only [yLm, x1, x2, x3, x4]
  exact h
theorem yN.cz {X X' : zz_S} (h : yN X) (hx : ∀ (k : Nat) (i j : Int), k < 40 → zz_h X' k i j = zz_h X k i j) (hq : yQ X X') : yN X' := by
  have x1 := hx 3 1 11 (by decide)
  have x2 := hx 3 1 12 (by decide)
  have x3 : ∀ j, zz_h X' 1 1 j = zz_h X 1 1 j := fun j => hx 1 1 j (by decide)
  have x4 : ∀ j, zz_h X' 2 1 j = zz_h X 2 1 j := fun j => hx 2 1 j (by decide)
  have q1 : ∀ k, zz_c X' k = zz_c X k := fun k => (hq k).1
  have q2 : ∀ k, zz_m X' k = zz_m X k := fun k => (hq k).2
  simp only [yN, x1, x2, x3, x4, q1, q2]
  exact h
theorem yL.cz {dl : List yd} {X M X' M' : zz_S} (h : yL dl X M) (hx : ∀ (k : Nat) (i j : Int), k < 40 → zz_h X' k i j = zz_h X k i j) (hm : ∀ (k : Nat) (i j : Int), 40 ≤ k → zz_h M' k i j = zz_h M k i j) : yL dl X' M' := by
  have m1 := hm 40 1 9 (by decide)
  have m2 : ∀ i, zz_h M' 56 1 i = zz_h M 56 1 i := fun i => hm 56 1 i (by decide)
  have x1 : ∀ i, zz_h X' 7 i 16 = zz_h X 7 i 16 := fun i => hx 7 i 16 (by decide)
  unfold yL
  refine ⟨h.x.cz hx, h.m.cz hm, h.le, ?_, ?_⟩
  · simp only [m1, m2]
    exact h.t
  · simp only [m1, x1]
    exact h.wa
theorem yU.cz {M M' : zz_S} (h : yU M) (hm : ∀ (k : Nat) (i j : Int), 40 ≤ k → zz_h M' k i j = zz_h M k i j) : yU M' := by
  intro t h1 h2
  rw [hm 40 1 9 (by decide)] at h1
  exact (h t h1 h2).cg fun k e => hm k 1 t (by
    simp [yk_U] at e
    omega)
theorem yS.cz {e : Nat} {b : Int} {aw : List Int} {dl : List yd} {X M X' M' : zz_S} (h : yS e b aw dl X M) (hx : ∀ (k : Nat) (i j : Int), k < 40 → zz_h X' k i j = zz_h X k i j) (hm : ∀ (k : Nat) (i j : Int), 40 ≤ k → zz_h M' k i j = zz_h M k i j) (hq : yQ X X') : yS e b aw dl X' M' := by
  have n9 := hm 40 1 9 (by decide)
  have n42 := hm 40 1 42 (by decide)
  have n0 := hm 40 1 0 (by decide)
  unfold yS
  rw [n9, n42, n0]
  exact ⟨h.A.cz hx hm, fun t p q => (h.B t p q).cz hx hm, fun t p q => (h.C t p q).cz hx hm, fun t p q => (h.D t p q).cz hx hm, fun t p q => (h.E t p q).cz hx hm, fun t p q => (h.F t p q).cz hx hm, h.G.cz hx hm, fun t p q => (h.I t p q).cz hx hm, h.J.cz hx hm, h.L.cz hx hm, h.R.cz hx hm, h.N.cz hx hq, h.U.cz hm⟩
theorem yW.cz {c : Int} {X M X' M' : zz_S} (h : yW c X M) (hx : ∀ (k : Nat) (i j : Int), k < 40 → zz_h X' k i j = zz_h X k i j) (hm : ∀ (k : Nat) (i j : Int), 40 ≤ k → zz_h M' k i j = zz_h M k i j) (hq : yQ X X') : yW c X' M' := by
  obtain ⟨aw, dl, g⟩ := h
  refine ⟨aw, dl, ?_⟩
  rw [hm 40 1 0 (by decide)]
  exact g.cz hx hm hq
/-- how many objects of a kind there are, but of tasks' and runs' -/
def yct0 (k : Nat) : Int := if Nat.ble 31 k && Nat.ble k 39 then 0 else 1
/-- the law's state, c calls done, over the script of s0 -/
def yV (s0 : zz_S) (c : Int) (s : zz_S) : Prop := yW c s s ∧ (∀ i j, zz_h s 0 i j = zz_h s0 0 i j) ∧ (∀ k, yzc 0 k = true → k < 92 → zz_c s k = yct0 k) ∧ zz_tot s
theorem yV.call {s0 : zz_S} {c : Int} {s : zz_S} {f g : zz_S → zz_R} (h : yV s0 c s) (hR : ∀ X M, yW c X M → yR c f g X M) (zf : ∀ s, yO 0 s (f s)) (zg : ∀ s, yO 1 s (g s)) : ∃ r s1 s2, f s = some (r, s1) ∧ g s1 = some (r, s2) ∧ (∀ i j, zz_h s1 0 i j = zz_h s0 0 i j) ∧ yV s0 (c + 1) s2 := by
  obtain ⟨w, sc, ct, tt⟩ := h
  obtain ⟨r, s1, M', e1, e2, w1⟩ := hR s s w
  obtain ⟨z1, z2, z3, z4⟩ := zf s r s1 e1
  have ww : yW c s s1 := w.cz (fun _ _ _ _ => rfl) (fun k i j hk => z1 k i j (by
    simp [yzk]
    omega)) yQ.rf
  obtain ⟨r', X'', s2, f1, f2, w2⟩ := hR s s1 ww
  rw [e1] at f1
  cases f1
  obtain ⟨y1, y2, y3, y4⟩ := zg s1 r s2 f2
  refine ⟨r, s1, s2, e1, f2, fun i j => (z1 0 i j rfl).trans (sc i j), ?_, fun i j => ((y1 0 i j rfl).trans (z1 0 i j rfl)).trans (sc i j), fun k hk hk2 => ((y2 k rfl).trans (z2 k hk)).trans (ct k hk hk2), y4 (z4 tt)⟩
  exact w2.cz (fun k i j hk => y1 k i j (by
    simp [yzk]
    omega)) (fun _ _ _ _ => rfl) (fun k => ⟨y2 k rfl, y3 k rfl⟩)
/-- an outcome of the law: it answers 1 -/
def yG1 (s0 : zz_S) (o : zz_R) : Prop := ∃ c t, o = some (1, t) ∧ c ≤ 512 ∧ yV s0 c t
def yl1 (f g : Int → zz_S → zz_R) (K : Int → zz_S → zz_R) (v3 : Int) (s : zz_S) : zz_R := (if zz_b s 0 1 (zz_r (v3 + 1)) then (((f (zz_h s 0 1 (zz_r (v3 + 1))) s)).bind fun q1 => (if zz_b q1.2 0 1 (zz_r (v3 + 1)) then (((g (zz_h q1.2 0 1 (zz_r (v3 + 1))) q1.2)).bind fun q2 => (if q1.1 = q2.1 then (K (zz_r (v3 + 5)) q2.2) else (some (0, q2.2)))) else none)) else none)
theorem yl1_ok {s0 : zz_S} {L c v3 : Int} {s : zz_S} {f g : Int → zz_S → zz_R} {K : Int → zz_S → zz_R} (h : yV s0 c s) (hL : zz_h s0 0 1 (-1) = L) (L2 : L ≤ 2560) (v0 : 0 ≤ v3) (vl : v3 + 5 ≤ L) (hs : ∀ j, -2147483648 ≤ zz_h s0 0 1 j ∧ zz_h s0 0 1 j < 2147483648) (hR : ∀ a1, -2147483648 ≤ a1 ∧ a1 < 2147483648 → ∀ X M, yW c X M → yR c (f a1) (g a1) X M) (zf : ∀ (a1 : Int) s, yO 0 s (f a1 s)) (zg : ∀ (a1 : Int) s, yO 1 s (g a1 s)) (ih : ∀ s2, yV s0 (c + 1) s2 → yG1 s0 (K (v3 + 5) s2)) : yG1 s0 (yl1 f g K v3 s) := by
  have b1 : ∀ t : zz_S, (∀ i j, zz_h t 0 i j = zz_h s0 0 i j) → zz_b t 0 1 (zz_r (v3 + 1)) := fun t ht => by
    rw [yy_r (by omega) (by omega)]
    refine ⟨by omega, ?_⟩
    show v3 + 1 < zz_h t 0 1 (-1)
    rw [ht]
    omega
  obtain ⟨r, s1, s2, e1, e2, e3, e4⟩ := h.call (f := f (zz_h s0 0 1 (zz_r (v3 + 1)))) (g := g (zz_h s0 0 1 (zz_r (v3 + 1)))) (hR _ (hs _)) (zf (zz_h s0 0 1 (zz_r (v3 + 1)))) (zg (zz_h s0 0 1 (zz_r (v3 + 1))))
  have sc := h.2.1
  unfold yl1
  simp only [sc]
  rw [if_pos (b1 s sc), e1, Option.bind_some]
  dsimp only
  simp only [e3]
  rw [if_pos (b1 s1 e3), e2, Option.bind_some]
  dsimp only
  rw [if_pos rfl, yy_r (by omega) (by omega)]
  exact ih s2 e4
def yl2 (f g : Int → Int → zz_S → zz_R) (K : Int → zz_S → zz_R) (v3 : Int) (s : zz_S) : zz_R := (if zz_b s 0 1 (zz_r (v3 + 1)) then (if zz_b s 0 1 (zz_r (v3 + 2)) then (((f (zz_h s 0 1 (zz_r (v3 + 1))) (zz_h s 0 1 (zz_r (v3 + 2))) s)).bind fun q1 => (if zz_b q1.2 0 1 (zz_r (v3 + 1)) then (if zz_b q1.2 0 1 (zz_r (v3 + 2)) then (((g (zz_h q1.2 0 1 (zz_r (v3 + 1))) (zz_h q1.2 0 1 (zz_r (v3 + 2))) q1.2)).bind fun q2 => (if q1.1 = q2.1 then (K (zz_r (v3 + 5)) q2.2) else (some (0, q2.2)))) else none) else none)) else none) else none)
theorem yl2_ok {s0 : zz_S} {L c v3 : Int} {s : zz_S} {f g : Int → Int → zz_S → zz_R} {K : Int → zz_S → zz_R} (h : yV s0 c s) (hL : zz_h s0 0 1 (-1) = L) (L2 : L ≤ 2560) (v0 : 0 ≤ v3) (vl : v3 + 5 ≤ L) (hs : ∀ j, -2147483648 ≤ zz_h s0 0 1 j ∧ zz_h s0 0 1 j < 2147483648) (hR : ∀ a1 a2, -2147483648 ≤ a1 ∧ a1 < 2147483648 → -2147483648 ≤ a2 ∧ a2 < 2147483648 → ∀ X M, yW c X M → yR c (f a1 a2) (g a1 a2) X M) (zf : ∀ (a1 a2 : Int) s, yO 0 s (f a1 a2 s)) (zg : ∀ (a1 a2 : Int) s, yO 1 s (g a1 a2 s)) (ih : ∀ s2, yV s0 (c + 1) s2 → yG1 s0 (K (v3 + 5) s2)) : yG1 s0 (yl2 f g K v3 s) := by
  have b1 : ∀ t : zz_S, (∀ i j, zz_h t 0 i j = zz_h s0 0 i j) → zz_b t 0 1 (zz_r (v3 + 1)) := fun t ht => by
    rw [yy_r (by omega) (by omega)]
    refine ⟨by omega, ?_⟩
    show v3 + 1 < zz_h t 0 1 (-1)
    rw [ht]
    omega
  have b2 : ∀ t : zz_S, (∀ i j, zz_h t 0 i j = zz_h s0 0 i j) → zz_b t 0 1 (zz_r (v3 + 2)) := fun t ht => by
    rw [yy_r (by omega) (by omega)]
    refine ⟨by omega, ?_⟩
    show v3 + 2 < zz_h t 0 1 (-1)
    rw [ht]
    omega
  obtain ⟨r, s1, s2, e1, e2, e3, e4⟩ := h.call (f := f (zz_h s0 0 1 (zz_r (v3 + 1))) (zz_h s0 0 1 (zz_r (v3 + 2)))) (g := g (zz_h s0 0 1 (zz_r (v3 + 1))) (zz_h s0 0 1 (zz_r (v3 + 2)))) (hR _ _ (hs _) (hs _)) (zf (zz_h s0 0 1 (zz_r (v3 + 1))) (zz_h s0 0 1 (zz_r (v3 + 2)))) (zg (zz_h s0 0 1 (zz_r (v3 + 1))) (zz_h s0 0 1 (zz_r (v3 + 2))))
  have sc := h.2.1
  unfold yl2
  simp only [sc]
  rw [if_pos (b1 s sc), if_pos (b2 s sc), e1, Option.bind_some]
  dsimp only
  simp only [e3]
  rw [if_pos (b1 s1 e3), if_pos (b2 s1 e3), e2, Option.bind_some]
  dsimp only
  rw [if_pos rfl, yy_r (by omega) (by omega)]
  exact ih s2 e4
def yl3 (f g : Int → Int → Int → zz_S → zz_R) (K : Int → zz_S → zz_R) (v3 : Int) (s : zz_S) : zz_R := (if zz_b s 0 1 (zz_r (v3 + 1)) then (if zz_b s 0 1 (zz_r (v3 + 2)) then (if zz_b s 0 1 (zz_r (v3 + 3)) then (((f (zz_h s 0 1 (zz_r (v3 + 1))) (zz_h s 0 1 (zz_r (v3 + 2))) (zz_h s 0 1 (zz_r (v3 + 3))) s)).bind fun q1 => (if zz_b q1.2 0 1 (zz_r (v3 + 1)) then (if zz_b q1.2 0 1 (zz_r (v3 + 2)) then (if zz_b q1.2 0 1 (zz_r (v3 + 3)) then (((g (zz_h q1.2 0 1 (zz_r (v3 + 1))) (zz_h q1.2 0 1 (zz_r (v3 + 2))) (zz_h q1.2 0 1 (zz_r (v3 + 3))) q1.2)).bind fun q2 => (if q1.1 = q2.1 then (K (zz_r (v3 + 5)) q2.2) else (some (0, q2.2)))) else none) else none) else none)) else none) else none) else none)
theorem yl3_ok {s0 : zz_S} {L c v3 : Int} {s : zz_S} {f g : Int → Int → Int → zz_S → zz_R} {K : Int → zz_S → zz_R} (h : yV s0 c s) (hL : zz_h s0 0 1 (-1) = L) (L2 : L ≤ 2560) (v0 : 0 ≤ v3) (vl : v3 + 5 ≤ L) (hs : ∀ j, -2147483648 ≤ zz_h s0 0 1 j ∧ zz_h s0 0 1 j < 2147483648) (hR : ∀ a1 a2 a3, -2147483648 ≤ a1 ∧ a1 < 2147483648 → -2147483648 ≤ a2 ∧ a2 < 2147483648 → -2147483648 ≤ a3 ∧ a3 < 2147483648 → ∀ X M, yW c X M → yR c (f a1 a2 a3) (g a1 a2 a3) X M) (zf : ∀ (a1 a2 a3 : Int) s, yO 0 s (f a1 a2 a3 s)) (zg : ∀ (a1 a2 a3 : Int) s, yO 1 s (g a1 a2 a3 s)) (ih : ∀ s2, yV s0 (c + 1) s2 → yG1 s0 (K (v3 + 5) s2)) : yG1 s0 (yl3 f g K v3 s) := by
  have b1 : ∀ t : zz_S, (∀ i j, zz_h t 0 i j = zz_h s0 0 i j) → zz_b t 0 1 (zz_r (v3 + 1)) := fun t ht => by
    rw [yy_r (by omega) (by omega)]
    refine ⟨by omega, ?_⟩
    show v3 + 1 < zz_h t 0 1 (-1)
    rw [ht]
    omega
  have b2 : ∀ t : zz_S, (∀ i j, zz_h t 0 i j = zz_h s0 0 i j) → zz_b t 0 1 (zz_r (v3 + 2)) := fun t ht => by
    rw [yy_r (by omega) (by omega)]
    refine ⟨by omega, ?_⟩
    show v3 + 2 < zz_h t 0 1 (-1)
    rw [ht]
    omega
  have b3 : ∀ t : zz_S, (∀ i j, zz_h t 0 i j = zz_h s0 0 i j) → zz_b t 0 1 (zz_r (v3 + 3)) := fun t ht => by
    rw [yy_r (by omega) (by omega)]
    refine ⟨by omega, ?_⟩
    show v3 + 3 < zz_h t 0 1 (-1)
    rw [ht]
    omega
  obtain ⟨r, s1, s2, e1, e2, e3, e4⟩ := h.call (f := f (zz_h s0 0 1 (zz_r (v3 + 1))) (zz_h s0 0 1 (zz_r (v3 + 2))) (zz_h s0 0 1 (zz_r (v3 + 3)))) (g := g (zz_h s0 0 1 (zz_r (v3 + 1))) (zz_h s0 0 1 (zz_r (v3 + 2))) (zz_h s0 0 1 (zz_r (v3 + 3)))) (hR _ _ _ (hs _) (hs _) (hs _)) (zf (zz_h s0 0 1 (zz_r (v3 + 1))) (zz_h s0 0 1 (zz_r (v3 + 2))) (zz_h s0 0 1 (zz_r (v3 + 3)))) (zg (zz_h s0 0 1 (zz_r (v3 + 1))) (zz_h s0 0 1 (zz_r (v3 + 2))) (zz_h s0 0 1 (zz_r (v3 + 3))))
  have sc := h.2.1
  unfold yl3
  simp only [sc]
  rw [if_pos (b1 s sc), if_pos (b2 s sc), if_pos (b3 s sc), e1, Option.bind_some]
  dsimp only
  simp only [e3]
  rw [if_pos (b1 s1 e3), if_pos (b2 s1 e3), if_pos (b3 s1 e3), e2, Option.bind_some]
  dsimp only
  rw [if_pos rfl, yy_r (by omega) (by omega)]
  exact ih s2 e4
def yl4 (f g : Int → Int → Int → Int → zz_S → zz_R) (K : Int → zz_S → zz_R) (v3 : Int) (s : zz_S) : zz_R := (if zz_b s 0 1 (zz_r (v3 + 1)) then (if zz_b s 0 1 (zz_r (v3 + 2)) then (if zz_b s 0 1 (zz_r (v3 + 3)) then (if zz_b s 0 1 (zz_r (v3 + 4)) then (((f (zz_h s 0 1 (zz_r (v3 + 1))) (zz_h s 0 1 (zz_r (v3 + 2))) (zz_h s 0 1 (zz_r (v3 + 3))) (zz_h s 0 1 (zz_r (v3 + 4))) s)).bind fun q1 => (if zz_b q1.2 0 1 (zz_r (v3 + 1)) then (if zz_b q1.2 0 1 (zz_r (v3 + 2)) then (if zz_b q1.2 0 1 (zz_r (v3 + 3)) then (if zz_b q1.2 0 1 (zz_r (v3 + 4)) then (((g (zz_h q1.2 0 1 (zz_r (v3 + 1))) (zz_h q1.2 0 1 (zz_r (v3 + 2))) (zz_h q1.2 0 1 (zz_r (v3 + 3))) (zz_h q1.2 0 1 (zz_r (v3 + 4))) q1.2)).bind fun q2 => (if q1.1 = q2.1 then (K (zz_r (v3 + 5)) q2.2) else (some (0, q2.2)))) else none) else none) else none) else none)) else none) else none) else none) else none)
theorem yl4_ok {s0 : zz_S} {L c v3 : Int} {s : zz_S} {f g : Int → Int → Int → Int → zz_S → zz_R} {K : Int → zz_S → zz_R} (h : yV s0 c s) (hL : zz_h s0 0 1 (-1) = L) (L2 : L ≤ 2560) (v0 : 0 ≤ v3) (vl : v3 + 5 ≤ L) (hs : ∀ j, -2147483648 ≤ zz_h s0 0 1 j ∧ zz_h s0 0 1 j < 2147483648) (hR : ∀ a1 a2 a3 a4, -2147483648 ≤ a1 ∧ a1 < 2147483648 → -2147483648 ≤ a2 ∧ a2 < 2147483648 → -2147483648 ≤ a3 ∧ a3 < 2147483648 → -2147483648 ≤ a4 ∧ a4 < 2147483648 → ∀ X M, yW c X M → yR c (f a1 a2 a3 a4) (g a1 a2 a3 a4) X M) (zf : ∀ (a1 a2 a3 a4 : Int) s, yO 0 s (f a1 a2 a3 a4 s)) (zg : ∀ (a1 a2 a3 a4 : Int) s, yO 1 s (g a1 a2 a3 a4 s)) (ih : ∀ s2, yV s0 (c + 1) s2 → yG1 s0 (K (v3 + 5) s2)) : yG1 s0 (yl4 f g K v3 s) := by
  have b1 : ∀ t : zz_S, (∀ i j, zz_h t 0 i j = zz_h s0 0 i j) → zz_b t 0 1 (zz_r (v3 + 1)) := fun t ht => by
    rw [yy_r (by omega) (by omega)]
    refine ⟨by omega, ?_⟩
    show v3 + 1 < zz_h t 0 1 (-1)
    rw [ht]
    omega
  have b2 : ∀ t : zz_S, (∀ i j, zz_h t 0 i j = zz_h s0 0 i j) → zz_b t 0 1 (zz_r (v3 + 2)) := fun t ht => by
    rw [yy_r (by omega) (by omega)]
    refine ⟨by omega, ?_⟩
    show v3 + 2 < zz_h t 0 1 (-1)
    rw [ht]
    omega
  have b3 : ∀ t : zz_S, (∀ i j, zz_h t 0 i j = zz_h s0 0 i j) → zz_b t 0 1 (zz_r (v3 + 3)) := fun t ht => by
    rw [yy_r (by omega) (by omega)]
    refine ⟨by omega, ?_⟩
    show v3 + 3 < zz_h t 0 1 (-1)
    rw [ht]
    omega
  have b4 : ∀ t : zz_S, (∀ i j, zz_h t 0 i j = zz_h s0 0 i j) → zz_b t 0 1 (zz_r (v3 + 4)) := fun t ht => by
    rw [yy_r (by omega) (by omega)]
    refine ⟨by omega, ?_⟩
    show v3 + 4 < zz_h t 0 1 (-1)
    rw [ht]
    omega
  obtain ⟨r, s1, s2, e1, e2, e3, e4⟩ := h.call (f := f (zz_h s0 0 1 (zz_r (v3 + 1))) (zz_h s0 0 1 (zz_r (v3 + 2))) (zz_h s0 0 1 (zz_r (v3 + 3))) (zz_h s0 0 1 (zz_r (v3 + 4)))) (g := g (zz_h s0 0 1 (zz_r (v3 + 1))) (zz_h s0 0 1 (zz_r (v3 + 2))) (zz_h s0 0 1 (zz_r (v3 + 3))) (zz_h s0 0 1 (zz_r (v3 + 4)))) (hR _ _ _ _ (hs _) (hs _) (hs _) (hs _)) (zf (zz_h s0 0 1 (zz_r (v3 + 1))) (zz_h s0 0 1 (zz_r (v3 + 2))) (zz_h s0 0 1 (zz_r (v3 + 3))) (zz_h s0 0 1 (zz_r (v3 + 4)))) (zg (zz_h s0 0 1 (zz_r (v3 + 1))) (zz_h s0 0 1 (zz_r (v3 + 2))) (zz_h s0 0 1 (zz_r (v3 + 3))) (zz_h s0 0 1 (zz_r (v3 + 4))))
  have sc := h.2.1
  unfold yl4
  simp only [sc]
  rw [if_pos (b1 s sc), if_pos (b2 s sc), if_pos (b3 s sc), if_pos (b4 s sc), e1, Option.bind_some]
  dsimp only
  simp only [e3]
  rw [if_pos (b1 s1 e3), if_pos (b2 s1 e3), if_pos (b3 s1 e3), if_pos (b4 s1 e3), e2, Option.bind_some]
  dsimp only
  rw [if_pos rfl, yy_r (by omega) (by omega)]
  exact ih s2 e4
theorem yl_148 (K : Int → zz_S → zz_R) (v3 : Int) (s : zz_S) : l_law_148 K v3 s = yl1 x_workers m_workers K v3 s := rfl
theorem yl_171 (K : Int → zz_S → zz_R) (v3 : Int) (s : zz_S) : l_law_171 K v3 s = yl1 x_group m_group K v3 s := rfl
theorem yl_194 (K : Int → zz_S → zz_R) (v3 : Int) (s : zz_S) : l_law_194 K v3 s = yl3 x_task m_task K v3 s := rfl
theorem yl_237 (K : Int → zz_S → zz_R) (v3 : Int) (s : zz_S) : l_law_237 K v3 s = yl3 x_set m_set K v3 s := rfl
theorem yl_280 (K : Int → zz_S → zz_R) (v3 : Int) (s : zz_S) : l_law_280 K v3 s = yl4 x_calendar m_calendar K v3 s := rfl
theorem yl_333 (K : Int → zz_S → zz_R) (v3 : Int) (s : zz_S) : l_law_333 K v3 s = yl4 x_body m_body K v3 s := rfl
theorem yl_386 (K : Int → zz_S → zz_R) (v3 : Int) (s : zz_S) : l_law_386 K v3 s = yl3 x_after m_after K v3 s := rfl
theorem yl_429 (K : Int → zz_S → zz_R) (v3 : Int) (s : zz_S) : l_law_429 K v3 s = yl3 x_plan m_plan K v3 s := rfl
theorem yl_485 (K : Int → zz_S → zz_R) (v3 : Int) (s : zz_S) : l_law_485 K v3 s = yl1 x_clock m_clock K v3 s := rfl
theorem yl_508 (K : Int → zz_S → zz_R) (v3 : Int) (s : zz_S) : l_law_508 K v3 s = yl1 x_jump m_jump K v3 s := rfl
theorem yl_531 (K : Int → zz_S → zz_R) (v3 : Int) (s : zz_S) : l_law_531 K v3 s = yl2 x_cancel m_cancel K v3 s := rfl
theorem yl_564 (K : Int → zz_S → zz_R) (v3 : Int) (s : zz_S) : l_law_564 K v3 s = yl1 x_stop m_stop K v3 s := rfl
theorem yl_600 (K : Int → zz_S → zz_R) (v3 : Int) (s : zz_S) : l_law_600 K v3 s = yl2 x_run m_run K v3 s := rfl
theorem yl_633 (K : Int → zz_S → zz_R) (v3 : Int) (s : zz_S) : l_law_633 K v3 s = yl2 x_of m_of K v3 s := rfl
theorem yl_666 (K : Int → zz_S → zz_R) (v3 : Int) (s : zz_S) : l_law_666 K v3 s = yl2 x_next m_next K v3 s := rfl
theorem yl_699 (K : Int → zz_S → zz_R) (v3 : Int) (s : zz_S) : l_law_699 K v3 s = yl2 x_waiting m_waiting K v3 s := rfl
theorem yl_732 (K : Int → zz_S → zz_R) (v3 : Int) (s : zz_S) : l_law_732 K v3 s = yl2 x_book m_book K v3 s := rfl
theorem yl_765 (K : Int → zz_S → zz_R) (v3 : Int) (s : zz_S) : l_law_765 K v3 s = yl1 x_count m_count K v3 s := rfl
theorem yl_788 (K : Int → zz_S → zz_R) (v3 : Int) (s : zz_S) : l_law_788 K v3 s = yl1 x_cell m_cell K v3 s := rfl
theorem yl_811 (K : Int → zz_S → zz_R) (v3 : Int) (s : zz_S) : l_law_811 K v3 s = yl2 x_day m_day K v3 s := rfl
theorem yl_844 (K : Int → zz_S → zz_R) (v3 : Int) (s : zz_S) : l_law_844 K v3 s = yl1 x_idle m_idle K v3 s := rfl
theorem yl_867 (K : Int → zz_S → zz_R) (v3 : Int) (s : zz_S) : l_law_867 K v3 s = yl1 x_load m_load K v3 s := rfl
theorem yV.law {s0 : zz_S} {L : Int} (hL : zz_h s0 0 1 (-1) = L) (L0 : 0 ≤ L) (L2 : L ≤ 2560) (hs : ∀ j, -2147483648 ≤ zz_h s0 0 1 j ∧ zz_h s0 0 1 j < 2147483648) : ∀ (k n q : Nat) (s : zz_S), yV s0 q s → q ≤ 512 → L ≤ 5 * (q + k) + 4 → k < n → yG1 s0 (l_law_18 n (5 * q) s) := by
  intro k
  induction k with
  | zero =>
    intro n q s h hq hk hn
    obtain ⟨n, rfl⟩ : ∃ m, n = m + 1 := ⟨n - 1, by omega⟩
    refine ⟨q, s, ?_, by omega, h⟩
    have al : zz_al s 0 1 = L := by
      show zz_h s 0 1 (-1) = L
      rw [h.2.1, hL]
    rw [l_law_18, if_neg (show ¬ (5 * (q : Int)) ≤ zz_r (zz_al s 0 1 - 5) by rw [al, yy_r (by omega) (by omega)]; omega)]
  | succ k ih =>
    intro n q s h hq hk hn
    obtain ⟨n, rfl⟩ : ∃ m, n = m + 1 := ⟨n - 1, by omega⟩
    have al : zz_al s 0 1 = L := by
      show zz_h s 0 1 (-1) = L
      rw [h.2.1, hL]
    by_cases c : (5 * (q : Int)) ≤ L - 5
    · have nx : ∀ s2, yV s0 ((q : Int) + 1) s2 → yG1 s0 (l_law_18 n (5 * (q : Int) + 5) s2) := by
        intro s2 h2
        have := ih n (q + 1) s2 (by
          rw [show ((q + 1 : Nat) : Int) = (q : Int) + 1 from rfl]
          exact h2) (by omega) (by omega) (by omega)
        rw [show 5 * ((q + 1 : Nat) : Int) = 5 * (q : Int) + 5 by omega] at this
        exact this
      have r5 : zz_r (5 * (q : Int) + 5) = 5 * (q : Int) + 5 := yy_r (by omega) (by omega)
      have b0 : zz_b s 0 1 (5 * (q : Int)) := ⟨by omega, by rw [al]; omega⟩
      rw [l_law_18, if_pos (show (5 * (q : Int)) ≤ zz_r (zz_al s 0 1 - 5) by rw [al, yy_r (by omega) (by omega)]; omega), if_pos b0]
      generalize zz_and (zz_h s 0 1 (5 * (q : Int))) 31 = w
      by_cases w0 : w = 0
      · rw [if_pos w0]
        rw [yl_148]
        exact yl1_ok h hL L2 (by omega) (by omega) hs (fun a1 _ X M hw => hw.workers a1) (fun a1 s => yc_x_workers a1 s) (fun a1 s => yc_m_workers a1 s) nx
      rw [if_neg w0]
      by_cases w1 : w = 1
      · rw [if_pos w1]
        rw [yl_171]
        exact yl1_ok h hL L2 (by omega) (by omega) hs (fun a1 _ X M hw => hw.group a1) (fun a1 s => yc_x_group a1 s) (fun a1 s => yc_m_group a1 s) nx
      rw [if_neg w1]
      by_cases w2 : w = 2
      · rw [if_pos w2]
        rw [yl_194]
        exact yl3_ok h hL L2 (by omega) (by omega) hs (fun a1 a2 a3 _ _ _ X M hw => hw.task (by omega) a1 a2 a3) (fun a1 a2 a3 s => yc_x_task a1 a2 a3 s) (fun a1 a2 a3 s => yc_m_task a1 a2 a3 s) nx
      rw [if_neg w2]
      by_cases w3 : w = 3
      · rw [if_pos w3]
        rw [yl_237]
        exact yl3_ok h hL L2 (by omega) (by omega) hs (fun a1 a2 a3 _ _ _ X M hw => hw.set a1 a2 a3) (fun a1 a2 a3 s => yc_x_set a1 a2 a3 s) (fun a1 a2 a3 s => yc_m_set a1 a2 a3 s) nx
      rw [if_neg w3]
      by_cases w4 : w = 4
      · rw [if_pos w4]
        rw [yl_280]
        exact yl4_ok h hL L2 (by omega) (by omega) hs (fun a1 a2 a3 a4 _ _ _ _ X M hw => hw.calendar a1 a2 a3 a4) (fun a1 a2 a3 a4 s => yc_x_calendar a1 a2 a3 a4 s) (fun a1 a2 a3 a4 s => yc_m_calendar a1 a2 a3 a4 s) nx
      rw [if_neg w4]
      by_cases w5 : w = 5
      · rw [if_pos w5]
        rw [yl_333]
        exact yl4_ok h hL L2 (by omega) (by omega) hs (fun a1 a2 a3 a4 _ _ _ _ X M hw => hw.body a1 a2 a3 a4) (fun a1 a2 a3 a4 s => yc_x_body a1 a2 a3 a4 s) (fun a1 a2 a3 a4 s => yc_m_body a1 a2 a3 a4 s) nx
      rw [if_neg w5]
      by_cases w6 : w = 6
      · rw [if_pos w6]
        rw [yl_386]
        exact yl3_ok h hL L2 (by omega) (by omega) hs (fun a1 a2 a3 _ _ _ X M hw => hw.after a1 a2 a3) (fun a1 a2 a3 s => yc_x_after a1 a2 a3 s) (fun a1 a2 a3 s => yc_m_after a1 a2 a3 s) nx
      rw [if_neg w6]
      by_cases w7 : w = 7
      · rw [if_pos w7]
        rw [yl_429]
        exact yl3_ok h hL L2 (by omega) (by omega) hs (fun a1 a2 a3 _ _ _ X M hw => hw.plan a1 a2 a3) (fun a1 a2 a3 s => yc_x_plan a1 a2 a3 s) (fun a1 a2 a3 s => yc_m_plan a1 a2 a3 s) nx
      rw [if_neg w7]
      by_cases w8 : w = 8
      · rw [if_pos w8]
        obtain ⟨r, s1, s2, e1, e2, e3, e4⟩ := h.call (f := x_clearPlan) (g := m_clearPlan) (fun X M hw => hw.clearPlan) (fun s => yc_x_clearPlan s) (fun s => yc_m_clearPlan s)
        rw [e1, Option.bind_some]
        dsimp only
        rw [e2, Option.bind_some]
        dsimp only
        rw [if_pos rfl, r5]
        exact nx s2 e4
      rw [if_neg w8]
      by_cases w9 : w = 9
      · rw [if_pos w9]
        rw [yl_485]
        exact yl1_ok h hL L2 (by omega) (by omega) hs (fun a1 h1 X M hw => hw.clock (by omega) (by omega) a1 h1.1 h1.2) (fun a1 s => yc_x_clock a1 s) (fun a1 s => yc_m_clock a1 s) nx
      rw [if_neg w9]
      by_cases w10 : w = 10
      · rw [if_pos w10]
        rw [yl_508]
        exact yl1_ok h hL L2 (by omega) (by omega) hs (fun a1 _ X M hw => hw.jump (by omega) a1) (fun a1 s => yc_x_jump a1 s) (fun a1 s => yc_m_jump a1 s) nx
      rw [if_neg w10]
      by_cases w11 : w = 11
      · rw [if_pos w11]
        rw [yl_531]
        exact yl2_ok h hL L2 (by omega) (by omega) hs (fun a1 a2 _ _ X M hw => hw.cancel (by omega) a1 a2) (fun a1 a2 s => yc_x_cancel a1 a2 s) (fun a1 a2 s => yc_m_cancel a1 a2 s) nx
      rw [if_neg w11]
      by_cases w12 : w = 12
      · rw [if_pos w12]
        rw [yl_564]
        exact yl1_ok h hL L2 (by omega) (by omega) hs (fun a1 _ X M hw => hw.stop (by omega) a1) (fun a1 s => yc_x_stop a1 s) (fun a1 s => yc_m_stop a1 s) nx
      rw [if_neg w12]
      by_cases w13 : w = 13
      · rw [if_pos w13]
        obtain ⟨r, s1, s2, e1, e2, e3, e4⟩ := h.call (f := x_go) (g := m_go) (fun X M hw => hw.go) (fun s => yc_x_go s) (fun s => yc_m_go s)
        rw [e1, Option.bind_some]
        dsimp only
        rw [e2, Option.bind_some]
        dsimp only
        rw [if_pos rfl, r5]
        exact nx s2 e4
      rw [if_neg w13]
      by_cases w14 : w = 14
      · rw [if_pos w14]
        rw [yl_600]
        exact yl2_ok h hL L2 (by omega) (by omega) hs (fun a1 a2 _ _ X M hw => hw.run a1 a2) (fun a1 a2 s => yc_x_run a1 a2 s) (fun a1 a2 s => yc_m_run a1 a2 s) nx
      rw [if_neg w14]
      by_cases w15 : w = 15
      · rw [if_pos w15]
        rw [yl_633]
        exact yl2_ok h hL L2 (by omega) (by omega) hs (fun a1 a2 _ _ X M hw => hw.of a1 a2) (fun a1 a2 s => yc_x_of a1 a2 s) (fun a1 a2 s => yc_m_of a1 a2 s) nx
      rw [if_neg w15]
      by_cases w16 : w = 16
      · rw [if_pos w16]
        rw [yl_666]
        exact yl2_ok h hL L2 (by omega) (by omega) hs (fun a1 a2 _ _ X M hw => hw.next a1 a2) (fun a1 a2 s => yc_x_next a1 a2 s) (fun a1 a2 s => yc_m_next a1 a2 s) nx
      rw [if_neg w16]
      by_cases w17 : w = 17
      · rw [if_pos w17]
        rw [yl_699]
        exact yl2_ok h hL L2 (by omega) (by omega) hs (fun a1 a2 _ _ X M hw => hw.waiting a1 a2) (fun a1 a2 s => yc_x_waiting a1 a2 s) (fun a1 a2 s => yc_m_waiting a1 a2 s) nx
      rw [if_neg w17]
      by_cases w18 : w = 18
      · rw [if_pos w18]
        rw [yl_732]
        exact yl2_ok h hL L2 (by omega) (by omega) hs (fun a1 a2 _ _ X M hw => hw.book (by omega) a1 a2) (fun a1 a2 s => yc_x_book a1 a2 s) (fun a1 a2 s => yc_m_book a1 a2 s) nx
      rw [if_neg w18]
      by_cases w19 : w = 19
      · rw [if_pos w19]
        rw [yl_765]
        exact yl1_ok h hL L2 (by omega) (by omega) hs (fun a1 _ X M hw => hw.count a1) (fun a1 s => yc_x_count a1 s) (fun a1 s => yc_m_count a1 s) nx
      rw [if_neg w19]
      by_cases w20 : w = 20
      · rw [if_pos w20]
        rw [yl_788]
        exact yl1_ok h hL L2 (by omega) (by omega) hs (fun a1 _ X M hw => hw.cell a1) (fun a1 s => yc_x_cell a1 s) (fun a1 s => yc_m_cell a1 s) nx
      rw [if_neg w20]
      by_cases w21 : w = 21
      · rw [if_pos w21]
        rw [yl_811]
        exact yl2_ok h hL L2 (by omega) (by omega) hs (fun a1 a2 _ _ X M hw => hw.day a1 a2) (fun a1 a2 s => yc_x_day a1 a2 s) (fun a1 a2 s => yc_m_day a1 a2 s) nx
      rw [if_neg w21]
      by_cases w22 : w = 22
      · rw [if_pos w22]
        rw [yl_844]
        exact yl1_ok h hL L2 (by omega) (by omega) hs (fun a1 _ X M hw => hw.idle a1) (fun a1 s => yc_x_idle a1 s) (fun a1 s => yc_m_idle a1 s) nx
      rw [if_neg w22]
      by_cases w23 : w = 23
      · rw [if_pos w23]
        rw [yl_867]
        exact yl1_ok h hL L2 (by omega) (by omega) hs (fun a1 _ X M hw => hw.load a1) (fun a1 s => yc_x_load a1 s) (fun a1 s => yc_m_load a1 s) nx
      rw [if_neg w23]
      by_cases w24 : w = 24
      · rw [if_pos w24]
        obtain ⟨r, s1, s2, e1, e2, e3, e4⟩ := h.call (f := x_quiet) (g := m_quiet) (fun X M hw => hw.quiet) (fun s => yc_x_quiet s) (fun s => yc_m_quiet s)
        rw [e1, Option.bind_some]
        dsimp only
        rw [e2, Option.bind_some]
        dsimp only
        rw [if_pos rfl, r5]
        exact nx s2 e4
      rw [if_neg w24]
      rw [r5]
      have h2 : yV s0 ((q : Int) + 1) s := ⟨h.1.up (by omega), h.2⟩
      exact nx s h2
    · refine ⟨q, s, ?_, by omega, h⟩
      rw [l_law_18, if_neg (show ¬ (5 * (q : Int)) ≤ zz_r (zz_al s 0 1 - 5) by rw [al, yy_r (by omega) (by omega)]; omega)]
