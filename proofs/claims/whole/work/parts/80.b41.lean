/-! STAGE B: a new task -/
theorem xC_new_ok {v : Int} {s : zz_S} (hm : zz_m s 8 + 1 = v) : ∃ s', xC_new v s = some (0, s') ∧ (∀ k i j, (k ≠ 8 ∨ i ≠ v) → zz_h s' k i j = zz_h s k i j) ∧ (∀ k, zz_c s' k = zz_c s k) ∧ (∀ k, zz_m s' k = if k = 8 then v else zz_m s k) ∧ zz_h s' 8 v 0 = 0 ∧ zz_h s' 8 v 1 = -1 ∧ zz_h s' 8 v 2 = -1 ∧ zz_h s' 8 v 3 = -1 ∧ zz_h s' 8 v 4 = -1 ∧ zz_h s' 8 v 5 = -1 ∧ zz_h s' 8 v 6 = -1 ∧ zz_h s' 8 v 7 = 0 := by
  unfold xC_new
  have e1 : ∀ s1 : zz_S, zz_ow s1 8 v (zz_own 8) = true := fun _ => rfl
  simp only [e1, true_and, zz_m_w, hm, if_true]
  refine ⟨_, rfl, ?_, ?_, ?_, ?_⟩
  · intro k i j h
    simp only [zz_h_f, zz_h_w]
    have : ∀ x : Int, ¬ (k = 8 ∧ i = v ∧ j = x) := fun x z => by omega
    simp only [this, if_false]
  · intro k
    rfl
  · intro k
    simp only [zz_m_f, zz_m_w, hm]
  · simp [zz_h_f, zz_h_w]
theorem zz_ow_ok (s : zz_S) (k : Nat) (x : Int) : ∀ l : List (Nat × Nat), (∀ q ∈ l, zz_h s k x q.1 = x) → zz_ow s k x l = true
  | [], _ => rfl
  | q :: r, h => by
    rw [zz_ow, decide_eq_true (h q (by simp)), zz_ow_ok s k x r (fun q hq => h q (by simp [hq]))]
    rfl
theorem xN_new_ok {v : Int} {s : zz_S} (h29 : zz_c s 29 + 1 = v) (h30 : zz_c s 30 + 1 = v) (m29 : zz_m s 29 + 1 = v) (m30 : zz_m s 30 + 1 = v) (hm : zz_m s 9 + 1 = v) : ∃ s', xN_new v s = some (0, s') ∧ (∀ k i j, (¬ (k = 9 ∨ k = 29 ∨ k = 30) ∨ i ≠ v) → zz_h s' k i j = zz_h s k i j) ∧ (∀ k, zz_c s' k = if k = 29 ∨ k = 30 then v else zz_c s k) ∧ (∀ k, zz_m s' k = if k = 9 ∨ k = 29 ∨ k = 30 then v else zz_m s k) ∧ zz_h s' 9 v 2 = 0 := by
  unfold xN_new
  have e30 : zz_c (zz_w (zz_n s 29 1 4) 9 v 0 v) 30 + 1 = v := h30
  simp only [h29, e30, ne_eq, not_true_eq_false, and_false, if_false]
  have o : zz_ow (zz_w (zz_w (zz_n (zz_w (zz_n s 29 1 4) 9 v 0 v) 30 1 4) 9 v 1 v) 9 v 2 0) 9 v (zz_own 9) = true := by
    refine zz_ow_ok _ _ _ _ fun q hq => ?_
    rcases List.mem_cons.mp hq with hq | hq
    · rw [hq]
      simp [zz_h_w, zz_h_n]
    · rcases List.mem_cons.mp hq with hq | hq
      · rw [hq]
        simp [zz_h_w, zz_h_n]
      · exact absurd hq (by simp)
  have m9 : zz_m (zz_w (zz_w (zz_n (zz_w (zz_n s 29 1 4) 9 v 0 v) 30 1 4) 9 v 1 v) 9 v 2 0) 9 + 1 = v := hm
  rw [if_pos ⟨o, m9⟩]
  refine ⟨_, rfl, ?_, ?_, ?_, ?_⟩
  · intro k i j h
    simp only [zz_h_f, zz_h_w, zz_h_n]
    have n1 : ∀ x : Int, ¬ (k = 9 ∧ i = v ∧ j = x) := fun x z => by omega
    have n2 : ¬ (k = 30 ∧ i = zz_c (zz_w (zz_n s 29 1 4) 9 v 0 v) 30 + 1) := fun z => by
      have : zz_c (zz_w (zz_n s 29 1 4) 9 v 0 v) 30 + 1 = v := h30
      omega
    have n3 : ¬ (k = 29 ∧ i = zz_c s 29 + 1) := fun z => by omega
    simp only [n1, n2, n3, if_false]
  · intro k
    simp only [zz_c_f, zz_c_w, zz_c_n]
    by_cases c : k = 30
    · subst c
      simp [zz_c_w, zz_c_n, h30]
    · by_cases d : k = 29
      · subst d
        simp [h29]
      · simp [c, d]
  · intro k
    simp only [zz_m_f, zz_m_w, zz_m_n]
    by_cases c : k = 30
    · subst c
      simp [m30]
    · by_cases d : k = 29
      · subst d
        simp [m29]
      · by_cases e : k = 9
        · subst e
          simp [hm]
        · simp [c, d, e]
  · simp [zz_h_f, zz_h_w]
theorem yo1 {k : Nat} {i v : Int} (h : ¬ (k = 7 ∨ k = 8 ∨ k = 28) ∨ i ≠ v) : (k ≠ 8 ∨ i ≠ v) ∧ (¬ (k = 7 ∨ k = 28) ∨ i ≠ v) ∧ (∀ j x : Int, ¬ (k = 7 ∧ i = v ∧ j = x)) ∧ ¬ (k = 8 ∧ i = v) := by
  refine ⟨by omega, by omega, fun j x z => by omega, by omega⟩
theorem yo2 {k : Nat} {i v : Int} (h : ¬ (k = 7 ∨ k = 8 ∨ k = 9 ∨ k = 28 ∨ k = 29 ∨ k = 30) ∨ i ≠ v) : (k ≠ 7 ∨ i ≠ v) ∧ (¬ (k = 9 ∨ k = 29 ∨ k = 30) ∨ i ≠ v) ∧ (¬ (k = 7 ∨ k = 8 ∨ k = 28) ∨ i ≠ v) := by omega
theorem yo3 {k : Nat} {i j v : Int} (h : k = 28 ∨ (k = 7 ∧ j ≠ 5)) : ¬ (k = 7 ∧ i = v ∧ j = 5) ∧ (k ≠ 8 ∨ i ≠ v) ∧ (∀ w : Int, ¬ (k = 8 ∧ i = w)) := by
  refine ⟨by omega, by omega, fun w z => by omega⟩
theorem yo4 {k : Nat} {v w : Int} : (if k = 29 ∨ k = 30 then v else if k = 9 then v else if k = 8 ∨ k = 28 then v else w) = if k = 8 ∨ k = 9 ∨ k = 28 ∨ k = 29 ∨ k = 30 then v else w := by
  repeat' split
  all_goals first | rfl | omega
theorem yo5 {k : Nat} {v w : Int} : (if k = 7 then v else if k = 9 ∨ k = 29 ∨ k = 30 then v else if k = 8 ∨ k = 28 then v else w) = if k = 7 ∨ k = 8 ∨ k = 9 ∨ k = 28 ∨ k = 29 ∨ k = 30 then v else w := by
  repeat' split
  all_goals first | rfl | omega
theorem yo6 {k : Nat} {v w : Int} : (if k = 8 then v else if k = 28 then v else w) = if k = 8 ∨ k = 28 then v else w := by
  repeat' split
  all_goals first | rfl | omega
theorem yo7 {k : Nat} {v w x : Int} : (if k = 9 ∨ k = 29 ∨ k = 30 then v else if k = 9 then x else w) = if k = 9 ∨ k = 29 ∨ k = 30 then v else w := by
  repeat' split
  all_goals first | rfl | omega
theorem yo8 {k : Nat} {i v : Int} (h : ¬ (k = 9 ∨ k = 29 ∨ k = 30) ∨ i ≠ v) : ¬ (k = 9 ∧ i = v) := by omega
theorem xT_new_ok {n kd a b : Int} {s : zz_S} (n0 : 0 ≤ n) (c28 : zz_c s 28 = n) (c8 : zz_c s 8 = n) (c9 : zz_c s 9 = n) (c29 : zz_c s 29 = n) (c30 : zz_c s 30 = n) (m28 : zz_m s 28 = n) (m8 : zz_m s 8 = n) (m9 : zz_m s 9 = n) (m29 : zz_m s 29 = n) (m30 : zz_m s 30 = n) (m7 : zz_m s 7 = n) :
    ∃ s', xT_new (n + 1) n kd a b s = some (0, s') ∧ (∀ k i j, (¬ (k = 7 ∨ k = 8 ∨ k = 9 ∨ k = 28 ∨ k = 29 ∨ k = 30) ∨ i ≠ n + 1) → zz_h s' k i j = zz_h s k i j) ∧ (∀ k, zz_c s' k = if k = 8 ∨ k = 9 ∨ k = 28 ∨ k = 29 ∨ k = 30 then n + 1 else zz_c s k) ∧ (∀ k, zz_m s' k = if k = 7 ∨ k = 8 ∨ k = 9 ∨ k = 28 ∨ k = 29 ∨ k = 30 then n + 1 else zz_m s k) ∧
      (zz_h s' 7 (n + 1) 0 = n ∧ zz_h s' 7 (n + 1) 1 = kd ∧ zz_h s' 7 (n + 1) 2 = a ∧ zz_h s' 7 (n + 1) 3 = b ∧ zz_h s' 7 (n + 1) 7 = 0 ∧ zz_h s' 7 (n + 1) 8 = 0 ∧ zz_h s' 7 (n + 1) 9 = 0 ∧ zz_h s' 7 (n + 1) 10 = 0 ∧ zz_h s' 7 (n + 1) 11 = (if kd = 2 then a else -1) ∧ zz_h s' 7 (n + 1) 12 = 0 ∧ zz_h s' 7 (n + 1) 13 = 0 ∧ zz_h s' 7 (n + 1) 14 = 0 ∧ zz_h s' 7 (n + 1) 15 = 0 ∧ zz_h s' 7 (n + 1) 16 = 0 ∧ zz_h s' 7 (n + 1) 17 = 0 ∧ zz_h s' 7 (n + 1) 18 = -1 ∧ zz_h s' 7 (n + 1) 19 = -1) ∧
      (zz_h s' 28 (n + 1) 0 = 1 ∧ zz_h s' 28 (n + 1) 1 = 0 ∧ zz_h s' 28 (n + 1) 2 = -1 ∧ zz_h s' 28 (n + 1) 3 = 0 ∧ zz_h s' 28 (n + 1) 4 = 0 ∧ zz_h s' 28 (n + 1) 5 = 0) ∧
      (zz_h s' 8 (n + 1) 0 = 0 ∧ zz_h s' 8 (n + 1) 1 = -1 ∧ zz_h s' 8 (n + 1) 2 = -1 ∧ zz_h s' 8 (n + 1) 3 = -1 ∧ zz_h s' 8 (n + 1) 4 = -1 ∧ zz_h s' 8 (n + 1) 5 = -1 ∧ zz_h s' 8 (n + 1) 6 = -1 ∧ zz_h s' 8 (n + 1) 7 = 0) ∧ zz_h s' 9 (n + 1) 2 = 0 := by
  have a1 : ¬ n + 1 = 0 := by omega
  obtain ⟨sA, hA⟩ : ∃ sA, sA = zz_w (zz_w (zz_w (zz_w (zz_w (zz_w (zz_w (zz_n s 28 1 6) 28 (n + 1) 0 1) 28 (n + 1) 1 0) 28 (n + 1) 2 (-1)) 28 (n + 1) 3 0) 28 (n + 1) 4 0) 28 (n + 1) 5 0) 7 (n + 1) 4 (n + 1) := ⟨_, rfl⟩
  have cA : ∀ k, zz_c sA k = if k = 28 then n + 1 else zz_c s k := by
    intro k
    rw [hA]
    simp only [zz_c_w, zz_c_n, c28]
  have mA : ∀ k, zz_m sA k = if k = 28 then n + 1 else zz_m s k := by
    intro k
    rw [hA]
    simp only [zz_m_w, zz_m_n, m28]
  have kA : ∀ k i j, (¬ (k = 7 ∨ k = 28) ∨ i ≠ n + 1) → zz_h sA k i j = zz_h s k i j := by
    intro k i j h
    rw [hA]
    simp only [zz_h_w, zz_h_n, c28]
    have n1 : ∀ x : Int, ¬ (k = 7 ∧ i = n + 1 ∧ j = x) := fun x z => by omega
    have n2 : ∀ x : Int, ¬ (k = 28 ∧ i = n + 1 ∧ j = x) := fun x z => by omega
    have n3 : ¬ (k = 28 ∧ i = n + 1) := fun z => by omega
    simp only [n1, n2, n3, if_false]
  have tA : zz_h sA 28 (n + 1) 0 = 1 ∧ zz_h sA 28 (n + 1) 1 = 0 ∧ zz_h sA 28 (n + 1) 2 = -1 ∧ zz_h sA 28 (n + 1) 3 = 0 ∧ zz_h sA 28 (n + 1) 4 = 0 ∧ zz_h sA 28 (n + 1) 5 = 0 ∧ zz_h sA 7 (n + 1) 4 = n + 1 := by
    rw [hA]
    simp [zz_h_w]
  -- the calendar
  have cB : zz_c (zz_n sA 8 0 8) 8 = n + 1 := by
    rw [zz_c_n, if_pos rfl, cA, if_neg (by decide), c8]
  have mB : zz_m (zz_n sA 8 0 8) 8 + 1 = n + 1 := by
    rw [zz_m_n, if_pos rfl, mA, if_neg (by decide), m8]
    omega
  obtain ⟨sC, eC, kC, cC, mC, vC⟩ := xC_new_ok (v := n + 1) (s := zz_n sA 8 0 8) mB
  obtain ⟨sD, hD⟩ : ∃ sD, sD = zz_w sC 7 (n + 1) 5 (n + 1) := ⟨_, rfl⟩
  have c8A : zz_c sA 8 = n := by rw [cA, if_neg (by decide), c8]
  have kAD : ∀ k i j, (¬ (k = 7 ∨ k = 8 ∨ k = 28) ∨ i ≠ n + 1) → zz_h sD k i j = zz_h s k i j := by
    intro k i j h
    obtain ⟨o1, o2, o3, o4⟩ := yo1 h
    rw [hD, zz_h_w, if_neg (o3 j 5), kC k i j o1, zz_h_n, c8A, if_neg o4, kA k i j o2]
  have cD : ∀ k, zz_c sD k = if k = 8 ∨ k = 28 then n + 1 else zz_c s k := by
    intro k
    rw [hD, zz_c_w, cC, zz_c_n, c8A, cA, yo6]
  have mD : ∀ k, zz_m sD k = if k = 8 ∨ k = 28 then n + 1 else zz_m s k := by
    intro k
    have m8A : zz_m sA 8 + 0 = n := by rw [mA, if_neg (by decide), m8, Int.add_zero]
    rw [hD, zz_m_w, mC, zz_m_n, m8A, mA, ← yo6]
    by_cases c : k = 8
    · rw [if_pos c, if_pos c]
    · rw [if_neg c, if_neg c, if_neg c]
  have tD : zz_h sD 28 (n + 1) 0 = 1 ∧ zz_h sD 28 (n + 1) 1 = 0 ∧ zz_h sD 28 (n + 1) 2 = -1 ∧ zz_h sD 28 (n + 1) 3 = 0 ∧ zz_h sD 28 (n + 1) 4 = 0 ∧ zz_h sD 28 (n + 1) 5 = 0 ∧ zz_h sD 7 (n + 1) 4 = n + 1 ∧ zz_h sD 7 (n + 1) 5 = n + 1 := by
    have g : ∀ k i j, k = 28 ∨ (k = 7 ∧ j ≠ 5) → zz_h sD k i j = zz_h sA k i j := by
      intro k i j h
      obtain ⟨o1, o2, o3⟩ := yo3 (i := i) (v := n + 1) h
      rw [hD, zz_h_w, if_neg o1, kC k i j o2, zz_h_n, if_neg (o3 _)]
    refine ⟨(g 28 _ 0 (Or.inl rfl)).trans tA.1, (g 28 _ 1 (Or.inl rfl)).trans tA.2.1, (g 28 _ 2 (Or.inl rfl)).trans tA.2.2.1, (g 28 _ 3 (Or.inl rfl)).trans tA.2.2.2.1, (g 28 _ 4 (Or.inl rfl)).trans tA.2.2.2.2.1, (g 28 _ 5 (Or.inl rfl)).trans tA.2.2.2.2.2.1, (g 7 _ 4 (Or.inr ⟨rfl, by decide⟩)).trans tA.2.2.2.2.2.2, ?_⟩
    rw [hD, yy_same]
  have vD : ∀ j, zz_h sD 8 (n + 1) j = zz_h sC 8 (n + 1) j := fun j => by rw [hD, yy_kind (by decide)]
  -- the notes
  have c9D : zz_c sD 9 = n := by rw [cD, if_neg (by decide), c9]
  obtain ⟨sE, eE, kE, cE, mE, vE⟩ := xN_new_ok (v := n + 1) (s := zz_n sD 9 0 3) (by rw [zz_c_n, if_neg (by decide), cD, if_neg (by decide), c29]) (by rw [zz_c_n, if_neg (by decide), cD, if_neg (by decide), c30]) (by rw [zz_m_n, if_neg (by decide), mD, if_neg (by decide), m29]) (by rw [zz_m_n, if_neg (by decide), mD, if_neg (by decide), m30]) (by rw [zz_m_n, if_pos rfl, mD, if_neg (by decide), m9, Int.add_zero])
  have c9E : zz_c sE 9 = n + 1 := by rw [cE, if_neg (by decide), zz_c_n, if_pos rfl, c9D]
  have m9E : zz_m sE 9 = n + 1 := by rw [mE, if_pos (by decide)]
  have kDE : ∀ k i j, (¬ (k = 9 ∨ k = 29 ∨ k = 30) ∨ i ≠ n + 1) → zz_h sE k i j = zz_h sD k i j := by
    intro k i j h
    rw [kE k i j h, zz_h_n, c9D, if_neg (yo8 h)]
  obtain ⟨sF, hF⟩ : ∃ sF, sF = zz_w (zz_w (zz_w (zz_w (zz_w (zz_w (zz_w (zz_w (zz_w (zz_w (zz_w (zz_w (zz_w (zz_w (zz_w (zz_w (zz_w sE 7 (n + 1) 6 (n + 1)) 7 (n + 1) 7 0) 7 (n + 1) 8 0) 7 (n + 1) 9 0) 7 (n + 1) 10 0) 7 (n + 1) 12 0) 7 (n + 1) 13 0) 7 (n + 1) 14 0) 7 (n + 1) 15 0) 7 (n + 1) 16 0) 7 (n + 1) 17 0) 7 (n + 1) 18 (-1)) 7 (n + 1) 19 (-1)) 7 (n + 1) 0 n) 7 (n + 1) 1 kd) 7 (n + 1) 2 a) 7 (n + 1) 3 b := ⟨_, rfl⟩
  obtain ⟨sG, hG⟩ : ∃ sG, sG = zz_w sF 7 (n + 1) 11 (if kd = 2 then a else -1) := ⟨_, rfl⟩
  have kEG : ∀ k i j, k ≠ 7 ∨ i ≠ n + 1 → zz_h sG k i j = zz_h sE k i j := by
    intro k i j h
    rw [hG, hF]
    simp only [zz_h_w]
    have : ∀ x : Int, ¬ (k = 7 ∧ i = n + 1 ∧ j = x) := fun x z => h.elim (fun q => q z.1) (fun q => q z.2.1)
    simp only [this, if_false]
  have e45 : zz_h sE 7 (n + 1) 4 = n + 1 ∧ zz_h sE 7 (n + 1) 5 = n + 1 := ⟨(kDE 7 _ 4 (Or.inl (by decide))).trans tD.2.2.2.2.2.2.1, (kDE 7 _ 5 (Or.inl (by decide))).trans tD.2.2.2.2.2.2.2⟩
  have oG : zz_ow sG 7 (n + 1) (zz_own 7) = true := by
    have q1 : zz_h sG 7 (n + 1) 4 = n + 1 := by
      rw [hG, hF]
      simp [zz_h_w, e45.1]
    have q2 : zz_h sG 7 (n + 1) 5 = n + 1 := by
      rw [hG, hF]
      simp [zz_h_w, e45.2]
    have q3 : zz_h sG 7 (n + 1) 6 = n + 1 := by
      rw [hG, hF]
      simp [zz_h_w]
    refine zz_ow_ok _ _ _ _ fun q hq => ?_
    rcases List.mem_cons.mp hq with hq | hq
    · rw [hq]
      exact q1
    · rcases List.mem_cons.mp hq with hq | hq
      · rw [hq]
        exact q2
      · rcases List.mem_cons.mp hq with hq | hq
        · rw [hq]
          exact q3
        · exact absurd hq (by simp)
  have cG : ∀ k, zz_c sG k = zz_c sE k := fun k => by rw [hG, hF]; simp only [zz_c_w]
  have mG : ∀ k, zz_m sG k = zz_m sE k := fun k => by rw [hG, hF]; simp only [zz_m_w]
  have m7G : zz_m sG 7 + 1 = n + 1 := by rw [mG, mE, if_neg (by decide), zz_m_n, if_neg (by decide), mD, if_neg (by decide), m7]
  have ET : xT_new (n + 1) n kd a b s = some (0, zz_f sG 7) := by
    unfold xT_new
    simp only [c28, a1, if_false, zz_b, ya_28, Int.reduceLE, Int.reduceLT, and_self, if_true, ne_eq, not_true_eq_false, and_false]
    rw [← hA, show zz_c sA 8 = n by rw [cA, if_neg (by decide), c8], eC, Option.bind_some]
    simp only [cC, cB, mC, if_true, ne_eq, not_true_eq_false, and_false, if_false]
    rw [← hD, c9D, eE, Option.bind_some]
    simp only [c9E, m9E, if_true, ne_eq, not_true_eq_false, and_false, if_false]
    rw [← hF]
    by_cases ck : kd = 2
    · rw [if_pos ck] at hG
      rw [if_pos ck, ← hG, if_pos ⟨oG, m7G⟩]
    · rw [if_neg ck] at hG
      rw [if_neg ck, ← hG, if_pos ⟨oG, m7G⟩]
  refine ⟨_, ET, ?_, ?_, ?_, ?_, ?_, ?_, ?_⟩
  · intro k i j h
    obtain ⟨o1, o2, o3⟩ := yo2 h
    rw [zz_h_f, kEG k i j o1, kDE k i j o2, kAD k i j o3]
  · intro k
    rw [zz_c_f, cG, cE, zz_c_n, c9D, cD, yo4]
  · intro k
    rw [zz_m_f, m7G, mG, mE, zz_m_n, yo7, mD, yo5]
  · simp only [zz_h_f]
    rw [hG, hF]
    simp [zz_h_w]
  · simp only [zz_h_f]
    have g : ∀ j, zz_h sG 28 (n + 1) j = zz_h sD 28 (n + 1) j := fun j => (kEG 28 _ j (Or.inl (by decide))).trans (kDE 28 _ j (Or.inl (by decide)))
    simp only [g]
    exact ⟨tD.1, tD.2.1, tD.2.2.1, tD.2.2.2.1, tD.2.2.2.2.1, tD.2.2.2.2.2.1⟩
  · simp only [zz_h_f]
    have g : ∀ j, zz_h sG 8 (n + 1) j = zz_h sC 8 (n + 1) j := fun j => (kEG 8 _ j (Or.inl (by decide))).trans ((kDE 8 _ j (Or.inl (by decide))).trans (vD j))
    simp only [g]
    exact vC
  · rw [zz_h_f, kEG 9 _ 2 (Or.inl (by decide))]
    exact vE
