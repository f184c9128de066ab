theorem m_takeDue_loop {dl : List yd} {i : Nat} (hi : i < dl.length) (hl : dl.length ≤ 100) (hd : ∀ d ∈ dl, 0 ≤ d.1 ∧ (d.2.2 = 0 ∨ d.2.2 = 1)) : ∀ (r n k : Nat) (M : zz_S), k + r + 1 = dl.length → r < n → i ≤ k → zz_h M 40 1 53 = dl.length - 1 → (∀ j (_ : j < dl.length), j < k → ym1 M j (if j < i then dl[j] else dl[j + 1]!)) → (∀ j (h : j < dl.length), k < j → ym1 M j dl[j]) → ∃ M', m_takeDue_12 n k M = some (0, M') ∧ yLm (dl.eraseIdx i) M' ∧ yK yn_Lm M M' := by
  intro r
  induction r with
  | zero =>
    intro n k M a b c hc h1 h2
    obtain ⟨n, rfl⟩ : ∃ q, n = q + 1 := ⟨n - 1, by omega⟩
    rw [m_takeDue_12, hc, if_neg (by omega)]
    refine ⟨_, rfl, ?_, yK.rf⟩
    unfold yLm
    refine ⟨?_, fun j hj => ?_⟩
    · rw [List.length_eraseIdx_of_lt hi, hc]
      omega
    · rw [List.length_eraseIdx_of_lt hi] at hj
      have := h1 j (by omega) (by omega)
      rw [List.getElem_eraseIdx]
      unfold ym1 at this
      split
      · rename_i q
        rw [if_pos q] at this
        exact this
      · rename_i q
        rw [if_neg q, getElem!_pos dl (j + 1) (by omega)] at this
        exact this
  | succ r ih =>
    intro n k M a b c hc h1 h2
    obtain ⟨n, rfl⟩ : ∃ q, n = q + 1 := ⟨n - 1, by omega⟩
    have q := h2 (k + 1) (by omega) (by omega)
    have hk : k + 1 < dl.length := by omega
    obtain ⟨d0, d1⟩ := hd dl[k + 1] (List.getElem_mem hk)
    obtain ⟨q1, q2, q3⟩ := q
    have r2 : zz_r ((k : Int) + 1) = ((k + 1 : Nat) : Int) := by rw [yy_r (by omega) (by omega)]; omega
    have z1 : (0 : Int) ≤ ((k + 1 : Nat) : Int) := by omega
    have z2 : ((k + 1 : Nat) : Int) < 100 := by omega
    have z3 : (0 : Int) ≤ (k : Int) := by omega
    have z4 : (k : Int) < 100 := by omega
    rw [m_takeDue_12]
    simp only [r2]
    rw [hc, if_pos (by omega), if_pos (show zz_b M 85 1 ((k + 1 : Nat) : Int) from ⟨z1, by rw [ya_85]; exact z2⟩), if_pos (show zz_b M 85 1 (k : Int) from ⟨z3, by rw [ya_85]; exact z4⟩), q1]
    rw [if_pos (show zz_b _ 86 1 ((k + 1 : Nat) : Int) from ⟨z1, by rw [ya_86]; exact z2⟩), if_pos (show zz_b _ 86 1 (k : Int) from ⟨z3, by rw [ya_86]; exact z4⟩)]
    rw [if_pos (show zz_b _ 87 1 ((k + 1 : Nat) : Int) from ⟨z1, by rw [ya_87]; exact z2⟩), if_pos (show zz_b _ 87 1 (k : Int) from ⟨z3, by rw [ya_87]; exact z4⟩)]
    have w2 : zz_h (zz_w M 85 1 (k : Int) dl[k + 1].1) 86 1 ((k + 1 : Nat) : Int) = dl[k + 1].2.1 := q2
    rw [w2]
    have w3 : zz_h (zz_w (zz_w M 85 1 (k : Int) dl[k + 1].1) 86 1 (k : Int) dl[k + 1].2.1) 87 1 ((k + 1 : Nat) : Int) = dl[k + 1].2.2 := q3
    rw [w3, if_pos d1]
    have g1 : ∀ j (_ : j < dl.length), j < k + 1 → ym1 (zz_w (zz_w (zz_w M 85 1 (k : Int) dl[k + 1].1) 86 1 (k : Int) dl[k + 1].2.1) 87 1 (k : Int) dl[k + 1].2.2) j (if j < i then dl[j] else dl[j + 1]!) := by
      intro j hj hj2
      by_cases q : j = k
      · subst q
        rw [if_neg (by omega), getElem!_pos dl (j + 1) hk]
        exact ⟨by simp [zz_h_w], by simp [zz_h_w], by simp [zz_h_w]⟩
      · have := h1 j hj (by omega)
        have q' : ¬ (j : Int) = (k : Int) := by omega
        unfold ym1 at this ⊢
        simpa [zz_h_w, q, q'] using this
    have g2 : ∀ j (h : j < dl.length), k + 1 < j → ym1 (zz_w (zz_w (zz_w M 85 1 (k : Int) dl[k + 1].1) 86 1 (k : Int) dl[k + 1].2.1) 87 1 (k : Int) dl[k + 1].2.2) j dl[j] := by
      intro j hj hj2
      have := h2 j hj (by omega)
      have q' : ¬ (j : Int) = (k : Int) := by omega
      unfold ym1 at this ⊢
      simpa [zz_h_w, q', show ¬ j = k by omega] using this
    obtain ⟨M', e1, e2, e3⟩ := ih n (k + 1) (zz_w (zz_w (zz_w M 85 1 (k : Int) dl[k + 1].1) 86 1 (k : Int) dl[k + 1].2.1) 87 1 (k : Int) dl[k + 1].2.2) (by omega) (by omega) (by omega) hc g1 g2
    exact ⟨M', e1, e2, (show yK yn_Lm M _ from by (repeat (first | refine yK.w ?_ rfl | exact yK.rf))).tr e3⟩
theorem m_takeDue_ok {dl : List yd} {i : Nat} {M : zz_S} (h : yLm dl M) (hi : i < dl.length) (hl : dl.length ≤ 100) (hd : ∀ d ∈ dl, 0 ≤ d.1 ∧ (d.2.2 = 0 ∨ d.2.2 = 1)) : ∃ M', m_takeDue i M = some (0, M') ∧ yLm (dl.eraseIdx i) M' ∧ yK yn_Lm M M' := by
  have fu := yy_fu
  unfold m_takeDue
  rw [h.le, yy_r (by omega) (by omega)]
  obtain ⟨M', e1, e2, e3⟩ := m_takeDue_loop hi hl hd (dl.length - 1 - i) zz_fu i (zz_w M 40 1 53 (dl.length - 1)) (by omega) (by omega) (by omega) (by simp [zz_h_w]) (fun j hj hj2 => by
    rw [if_pos hj2]
    exact h.a j hj) (fun j hj hj2 => h.a j hj)
  exact ⟨M', e1, e2, (show yK yn_Lm M _ from by (repeat (first | refine yK.w ?_ rfl | exact yK.rf))).tr e3⟩
