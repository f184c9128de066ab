/-! STAGE B: a due is taken out -/
def yn_Lx (k : Nat) (j : Int) : Bool := !(k == 19 || k == 20 || k == 21 || (k == 4 && j == 3))
def yn_Lm (k : Nat) (j : Int) : Bool := !(k == 85 || k == 86 || k == 87 || (k == 40 && j == 53))
/-- one place of the arrays of the dues -/
def yx1 (X : zz_S) (k : Nat) (d : yd) : Prop := zz_h X 19 1 (k : Nat) = d.1 + 1 ∧ zz_h X 20 1 (k : Nat) = d.2.1 ∧ zz_h X 21 1 (k : Nat) = d.2.2
def ym1 (M : zz_S) (k : Nat) (d : yd) : Prop := zz_h M 85 1 (k : Nat) = d.1 ∧ zz_h M 86 1 (k : Nat) = d.2.1 ∧ zz_h M 87 1 (k : Nat) = d.2.2
theorem xD_remove_loop {dl : List yd} {i : Nat} (hi : i < dl.length) (hl : dl.length ≤ 100) (hd : ∀ d ∈ dl, 0 ≤ d.1 ∧ (d.2.2 = 0 ∨ d.2.2 = 1)) : ∀ (r n k : Nat) (X : zz_S), k + r = dl.length → r < n → i < k → zz_h X 4 1 3 = dl.length → (∀ j (_ : j < dl.length), j + 1 < k → yx1 X j (if j < i then dl[j] else dl[j + 1]!)) → (∀ j (h : j < dl.length), k ≤ j → yx1 X j dl[j]) → ∃ X', xD_remove_40 n k X = some (0, X') ∧ yLx (dl.eraseIdx i) X' ∧ yK yn_Lx X X' ∧ yQ X X' := by
  intro r
  induction r with
  | zero =>
    intro n k X a b c hc h1 h2
    obtain ⟨n, rfl⟩ : ∃ q, n = q + 1 := ⟨n - 1, by omega⟩
    rw [xD_remove_40, hc, if_neg (by omega), yy_r (by omega) (by omega)]
    refine ⟨_, rfl, ?_, by (repeat (first | refine yK.w ?_ rfl | exact yK.rf)), yQ.rf.w⟩
    unfold yLx
    refine ⟨?_, fun j hj => ?_⟩
    · rw [List.length_eraseIdx_of_lt hi]
      simp [zz_h_w]
      omega
    · rw [List.length_eraseIdx_of_lt hi] at hj
      have := h1 j (by omega) (by omega)
      rw [List.getElem_eraseIdx]
      unfold yx1 at this
      split
      · rename_i q
        rw [if_pos q] at this
        simpa [zz_h_w] using this
      · rename_i q
        rw [if_neg q, getElem!_pos dl (j + 1) (by omega)] at this
        simpa [zz_h_w] using this
  | succ r ih =>
    intro n k X a b c hc h1 h2
    obtain ⟨n, rfl⟩ : ∃ q, n = q + 1 := ⟨n - 1, by omega⟩
    obtain ⟨k, rfl⟩ : ∃ q, k = q + 1 := ⟨k - 1, by omega⟩
    have q := h2 (k + 1) (by omega) (by omega)
    have hk : k + 1 < dl.length := by omega
    obtain ⟨d0, d1⟩ := hd dl[k + 1] (List.getElem_mem hk)
    obtain ⟨q1, q2, q3⟩ := q
    have r1 : zz_r (((k + 1 : Nat) : Int) - 1) = (k : Int) := by rw [yy_r (by omega) (by omega)]; omega
    have r2 : zz_r (((k + 1 : Nat) : Int) + 1) = ((k + 1 + 1 : Nat) : Int) := by rw [yy_r (by omega) (by omega)]; omega
    have z1 : (0 : Int) ≤ ((k + 1 : Nat) : Int) := by omega
    have z2 : ((k + 1 : Nat) : Int) < 100 := by omega
    have z3 : (0 : Int) ≤ (k : Int) := by omega
    have z4 : (k : Int) < 100 := by omega
    have w1 : zz_h (zz_w X 19 1 (k : Int) (zz_h X 19 1 ((k + 1 : Nat) : Int))) 20 1 ((k + 1 : Nat) : Int) = zz_h X 20 1 ((k + 1 : Nat) : Int) := rfl
    rw [xD_remove_40]
    simp only [r1, r2]
    rw [hc, if_pos (by omega), if_pos (show zz_b X 19 1 ((k + 1 : Nat) : Int) from ⟨z1, by rw [ya_19]; exact z2⟩), if_pos (show zz_b X 19 1 (k : Int) from ⟨z3, by rw [ya_19]; exact z4⟩), q1, if_neg (by omega)]
    rw [if_pos (show zz_b _ 20 1 ((k + 1 : Nat) : Int) from ⟨z1, by rw [ya_20]; exact z2⟩), if_pos (show zz_b _ 20 1 (k : Int) from ⟨z3, by rw [ya_20]; exact z4⟩)]
    rw [if_pos (show zz_b _ 21 1 ((k + 1 : Nat) : Int) from ⟨z1, by rw [ya_21]; exact z2⟩), if_pos (show zz_b _ 21 1 (k : Int) from ⟨z3, by rw [ya_21]; exact z4⟩)]
    have w2 : zz_h (zz_w X 19 1 (k : Int) (dl[k + 1].1 + 1)) 20 1 ((k + 1 : Nat) : Int) = dl[k + 1].2.1 := q2
    rw [w2]
    have w3 : zz_h (zz_w (zz_w X 19 1 (k : Int) (dl[k + 1].1 + 1)) 20 1 (k : Int) dl[k + 1].2.1) 21 1 ((k + 1 : Nat) : Int) = dl[k + 1].2.2 := q3
    rw [w3, if_pos d1]
    have g1 : ∀ j (_ : j < dl.length), j + 1 < k + 1 + 1 → yx1 (zz_w (zz_w (zz_w X 19 1 (k : Int) (dl[k + 1].1 + 1)) 20 1 (k : Int) dl[k + 1].2.1) 21 1 (k : Int) dl[k + 1].2.2) j (if j < i then dl[j] else dl[j + 1]!) := by
      intro j hj hj2
      by_cases q : j = k
      · subst q
        rw [if_neg (by omega), getElem!_pos dl (j + 1) hk]
        exact ⟨by simp [zz_h_w], by simp [zz_h_w], by simp [zz_h_w]⟩
      · have := h1 j hj (by omega)
        have q' : ¬ (j : Int) = (k : Int) := by omega
        unfold yx1 at this ⊢
        simpa [zz_h_w, q, q'] using this
    have g2 : ∀ j (h : j < dl.length), k + 1 + 1 ≤ j → yx1 (zz_w (zz_w (zz_w X 19 1 (k : Int) (dl[k + 1].1 + 1)) 20 1 (k : Int) dl[k + 1].2.1) 21 1 (k : Int) dl[k + 1].2.2) j dl[j] := by
      intro j hj hj2
      have := h2 j hj (by omega)
      have q' : ¬ (j : Int) = (k : Int) := by omega
      unfold yx1 at this ⊢
      simpa [zz_h_w, q', show ¬ j = k by omega] using this
    obtain ⟨X', e1, e2, e3, e4⟩ := ih n (k + 1 + 1) (zz_w (zz_w (zz_w X 19 1 (k : Int) (dl[k + 1].1 + 1)) 20 1 (k : Int) dl[k + 1].2.1) 21 1 (k : Int) dl[k + 1].2.2) (by omega) (by omega) (by omega) hc g1 g2
    exact ⟨X', e1, e2, (show yK yn_Lx X _ from by (repeat (first | refine yK.w ?_ rfl | exact yK.rf))).tr e3, e4⟩
