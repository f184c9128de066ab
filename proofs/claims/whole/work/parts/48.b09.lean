/-! STAGE B: a due comes -/
theorem yJ.worker {aw : List Int} {X M : zz_S} (h : yJ aw X M) (hr : zz_h M 40 1 42 ≤ 2000) {w : Int} (h1 : 0 ≤ w) (h2 : w < 8) (hn : ¬ zz_h M 41 1 w = -1) : zz_h M 41 1 w ∈ aw ∧ 0 ≤ zz_h M 41 1 w ∧ zz_h M 41 1 w < 2000 ∧ w < zz_h M 40 1 4 := by
  rcases h.bu w h1 h2 with ⟨-, a⟩ | ⟨-, a, c, -⟩
  · exact absurd a hn
  · have := (h.mem _).mp c
    exact ⟨c, this.1, by omega, a⟩
theorem yy_ite {α : Type} {p q : Prop} {_ : Decidable p} {_ : Decidable q} (h : p ↔ q) (a b : α) : (if p then a else b) = if q then a else b := by
  by_cases c : p
  · rw [if_pos c, if_pos (h.mp c)]
  · rw [if_neg c, if_neg (fun z => c (h.mpr z))]
theorem m_isRunning_loop {aw : List Int} {X M : zz_S} (h : yJ aw X M) (hr : zz_h M 40 1 42 ≤ 2000) (hW : 1 ≤ zz_h M 40 1 4 ∧ zz_h M 40 1 4 ≤ 8) (t : Int) : ∀ (k n w : Nat), (w : Int) + k = zz_h M 40 1 4 → k < n → m_isRunning_2 n t w M = some (@ite Int (∃ j : Int, (w : Int) ≤ j ∧ j < zz_h M 40 1 4 ∧ ¬ zz_h M 41 1 j = -1 ∧ zz_h M 75 1 (zz_h M 41 1 j) = t) (Classical.propDecidable _) 1 0, M) := by
  intro k
  induction k with
  | zero =>
    intro n w h1 h2
    obtain ⟨n, rfl⟩ : ∃ q, n = q + 1 := ⟨n - 1, by omega⟩
    rw [m_isRunning_2, if_neg (by omega), if_neg]
    rintro ⟨j, a, b, -⟩
    omega
  | succ k ih =>
    intro n w h1 h2
    obtain ⟨n, rfl⟩ : ∃ q, n = q + 1 := ⟨n - 1, by omega⟩
    have e := ih n (w + 1) (by omega) (by omega)
    have r : zz_r ((w : Int) + 1) = ((w + 1 : Nat) : Int) := by rw [yy_r (by omega) (by omega)]; omega
    have bw : zz_b M 41 1 (w : Int) := ⟨by omega, by rw [ya_41]; omega⟩
    rw [m_isRunning_2, if_pos (by omega), if_pos bw, r]
    by_cases c : zz_h M 41 1 (w : Int) = -1
    · rw [if_pos c, e]
      congr 2
      refine yy_ite ⟨?_, ?_⟩ _ _
      · rintro ⟨j, a1, a2, a3, a4⟩
        exact ⟨j, by omega, a2, a3, a4⟩
      · rintro ⟨j, a1, a2, a3, a4⟩
        refine ⟨j, ?_, a2, a3, a4⟩
        by_cases q : j = w
        · rw [q] at a3
          exact absurd c a3
        · omega
    · obtain ⟨-, w1, w2, -⟩ := h.worker hr (by omega) (by omega) c
      rw [if_neg c, if_pos bw, if_pos (show zz_b M 75 1 _ from ⟨w1, by rw [ya_75]; exact w2⟩)]
      by_cases d : zz_h M 75 1 (zz_h M 41 1 (w : Int)) = t
      · rw [if_pos d, if_pos ⟨(w : Int), by omega, by omega, c, d⟩]
      · rw [if_neg d, e]
        congr 2
        refine yy_ite ⟨?_, ?_⟩ _ _
        · rintro ⟨j, a1, a2, a3, a4⟩
          exact ⟨j, by omega, a2, a3, a4⟩
        · rintro ⟨j, a1, a2, a3, a4⟩
          refine ⟨j, ?_, a2, a3, a4⟩
          by_cases q : j = w
          · rw [q] at a4
            exact absurd a4 d
          · omega
theorem yct_pos {p : Int → Bool} {l : List Int} : 0 < yct p l ↔ ∃ r, r ∈ l ∧ p r = true := by
  unfold yct
  rw [← List.countP_pos_iff]
  omega
theorem yS.running {e : Nat} {b : Int} {aw : List Int} {dl : List yd} {X M : zz_S} (h : yS e b aw dl X M) (t : Int) (h1 : 0 ≤ t) (h2 : t < zz_h M 40 1 9) : m_isRunning t M = some (if zz_h X 7 (t + 1) 15 ≤ 0 then 0 else 1, M) := by
  have wr := h.A.wr
  have rr := h.A.rr
  have e1 := m_isRunning_loop h.J rr.2 wr t (zz_h M 40 1 4).toNat zz_fu 0 (by omega) (by have := yy_fu; omega)
  have wo := h.J.wo t h1 h2
  unfold m_isRunning
  rw [show ((0 : Nat) : Int) = 0 from rfl] at e1
  rw [e1]
  congr 2
  by_cases c : zz_h X 7 (t + 1) 15 ≤ 0
  · rw [if_pos c, if_neg]
    rintro ⟨j, a1, a2, a3, a4⟩
    have := (h.J.worker rr.2 a1 (by omega) a3).1
    have : 0 < yct (fun r => zz_h M 75 1 r == t) aw := yct_pos.mpr ⟨_, this, by simp [a4]⟩
    omega
  · rw [if_neg c, if_pos]
    obtain ⟨r, r1, r2⟩ := yct_pos.mp (show 0 < yct (fun r => zz_h M 75 1 r == t) aw by omega)
    obtain ⟨w1, w2, w3⟩ := h.J.wk r r1
    have := (h.J.mem r).mp r1
    refine ⟨_, w1, w2, by omega, ?_⟩
    rw [w3]
    simpa using r2
