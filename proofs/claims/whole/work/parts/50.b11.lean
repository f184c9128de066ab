/-! STAGE B: notes -/
/-- the j-th note of t fits the end -/
def yP (M : zz_S) (t src g j : Int) : Prop := zz_h M 69 1 (4 * t + j) = src ∧ (zz_h M 70 1 (4 * t + j) = 2 ∨ (zz_h M 70 1 (4 * t + j) = 0 ∧ g = 1) ∨ (¬ zz_h M 70 1 (4 * t + j) = 0 ∧ g = 0))
theorem xN_fit_loop {X M : zz_S} {t src g : Int} (F : yF t X M) (h1 : 0 ≤ t) : ∀ (k n i : Nat), (i : Int) + k = zz_h M 68 1 t → k < n → xN_fit_2 n (t + 1) src g i X = some (@ite Int (∃ j : Int, (i : Int) ≤ j ∧ j < zz_h M 68 1 t ∧ yP M t src g j) (Classical.propDecidable _) 1 0, X) := by
  have nr := F.nr
  have t0 : ¬ t + 1 = 0 := by omega
  intro k
  induction k with
  | zero =>
    intro n i a b
    obtain ⟨n, rfl⟩ : ∃ q, n = q + 1 := ⟨n - 1, by omega⟩
    rw [xN_fit_2, if_neg t0, F.n, if_neg (by omega), if_neg]
    rintro ⟨j, a, b, -⟩
    omega
  | succ k ih =>
    intro n i a b
    obtain ⟨n, rfl⟩ : ∃ q, n = q + 1 := ⟨n - 1, by omega⟩
    have e := ih n (i + 1) (by omega) (by omega)
    have r : zz_r ((i : Int) + 1) = ((i + 1 : Nat) : Int) := by rw [yy_r (by omega) (by omega)]; omega
    have o := (F.o i (by omega) (by omega)).1
    have w := F.w i (by omega) (by omega)
    have i0 : (0 : Int) ≤ i := by omega
    have i4 : (i : Int) < 4 := by omega
    have more : ¬ yP M t src g i → (@ite Int (∃ j : Int, ((i + 1 : Nat) : Int) ≤ j ∧ j < zz_h M 68 1 t ∧ yP M t src g j) (Classical.propDecidable _) 1 0) = @ite Int (∃ j : Int, (i : Int) ≤ j ∧ j < zz_h M 68 1 t ∧ yP M t src g j) (Classical.propDecidable _) 1 0 := by
      intro hn
      refine yy_ite ⟨?_, ?_⟩ _ _
      · rintro ⟨j, a1, a2, a3⟩
        exact ⟨j, by omega, a2, a3⟩
      · rintro ⟨j, a1, a2, a3⟩
        refine ⟨j, ?_, a2, a3⟩
        by_cases q : j = i
        · rw [q] at a3
          exact absurd a3 hn
        · omega
    have here : yP M t src g i → (@ite Int (∃ j : Int, (i : Int) ≤ j ∧ j < zz_h M 68 1 t ∧ yP M t src g j) (Classical.propDecidable _) 1 0) = 1 := fun hp => if_pos ⟨i, by omega, by omega, hp⟩
    rw [xN_fit_2]
    simp only [t0, if_false, F.n, show (i : Int) < zz_h M 68 1 t by omega, if_true, zz_b, ya_11, ya_12, ya_13, ya_14, ya_15, ya_16, ya_17, ya_18, ya_19, ya_20, ya_21, ya_22, ya_23, ya_24, ya_25, ya_26, ya_27, ya_28, ya_29, ya_30, ya_41, ya_42, ya_43, ya_44, ya_45, ya_46, ya_47, ya_48, ya_49, ya_50, ya_51, ya_52, ya_53, ya_54, ya_55, ya_56, ya_57, ya_58, ya_59, ya_60, ya_61, ya_62, ya_63, ya_64, ya_65, ya_66, ya_67, ya_68, ya_69, ya_70, ya_71, ya_72, ya_73, ya_74, ya_75, ya_76, ya_77, ya_78, ya_79, ya_80, ya_81, ya_82, ya_83, ya_84, ya_85, ya_86, ya_87, ya_88, ya_89, ya_90, ya_91, i0, i4, and_self, o, w, r, e]
    by_cases c1 : zz_h M 69 1 (4 * t + i) = src
    · rw [if_pos c1]
      by_cases c2 : zz_h M 70 1 (4 * t + i) = 2
      · rw [if_pos c2, here ⟨c1, Or.inl c2⟩]
      · rw [if_neg c2]
        by_cases c3 : zz_h M 70 1 (4 * t + i) = 0
        · rw [if_pos c3]
          by_cases c4 : g = 1
          · rw [if_pos c4, here ⟨c1, Or.inr (Or.inl ⟨c3, c4⟩)⟩]
          · rw [if_neg c4, more]
            rintro ⟨-, q | q | q⟩
            · exact c2 q
            · exact c4 q.2
            · exact q.1 c3
        · rw [if_neg c3]
          by_cases c4 : g = 0
          · rw [if_pos c4, here ⟨c1, Or.inr (Or.inr ⟨c3, c4⟩)⟩]
          · rw [if_neg c4, more]
            rintro ⟨-, q | q | q⟩
            · exact c2 q
            · exact c3 q.1
            · exact c4 q.2
    · rw [if_neg c1, more]
      rintro ⟨q, -⟩
      exact c1 q
theorem m_notes_loop {X M : zz_S} {t src g u : Int} (F : yF t X M) (h1 : 0 ≤ t) (h60 : t < 60) (K : Int → Int → Int → Int → zz_S → zz_R) : ∀ (k n i : Nat) (f : Int), (i : Int) + k = zz_h M 68 1 t → k < n → (f = 0 ∨ f = 1) → m_notes_44 K n src g u t f (4 * t + i) M = @ite zz_R (f = 0 ∧ ¬ ∃ j : Int, (i : Int) ≤ j ∧ j < zz_h M 68 1 t ∧ yP M t src g j) (Classical.propDecidable _) (K src g u (t + 1) M) ((m_comes t u M).bind fun q => K src g u (t + 1) q.2) := by
  have nr := F.nr
  have r1 : zz_r (t + 1) = t + 1 := yy_r (by omega) (by omega)
  have r4 : zz_r (4 * t) = 4 * t := yy_r (by omega) (by omega)
  have r5 : zz_r (4 * t + zz_h M 68 1 t) = 4 * t + zz_h M 68 1 t := yy_r (by omega) (by omega)
  intro k
  induction k with
  | zero =>
    intro n i f a b hf
    obtain ⟨n, rfl⟩ : ∃ q, n = q + 1 := ⟨n - 1, by omega⟩
    rw [m_notes_44, if_pos (show zz_b M 68 1 t from ⟨h1, by rw [ya_68]; omega⟩), r4, r5, r1, if_neg (by omega)]
    have no : ¬ ∃ j : Int, (i : Int) ≤ j ∧ j < zz_h M 68 1 t ∧ yP M t src g j := by
      rintro ⟨j, a, b, -⟩
      omega
    by_cases c : f = 0
    · rw [if_pos c, if_pos ⟨c, no⟩]
    · rw [if_neg c, if_neg (fun z => c z.1)]
  | succ k ih =>
    intro n i f a b hf
    obtain ⟨n, rfl⟩ : ∃ q, n = q + 1 := ⟨n - 1, by omega⟩
    have e := fun f' hf' => ih n (i + 1) f' (by omega) (by omega) hf'
    have r : zz_r (4 * t + (i : Int) + 1) = 4 * t + ((i + 1 : Nat) : Int) := by rw [yy_r (by omega) (by omega)]; omega
    have here : yP M t src g i → ∀ f' : Int, (@ite zz_R (f' = 0 ∧ ¬ ∃ j : Int, (i : Int) ≤ j ∧ j < zz_h M 68 1 t ∧ yP M t src g j) (Classical.propDecidable _) (K src g u (t + 1) M) ((m_comes t u M).bind fun q => K src g u (t + 1) q.2)) = m_notes_44 K n src g u t 1 (4 * t + ((i + 1 : Nat) : Int)) M := by
      intro hp f'
      rw [e 1 (Or.inr rfl), if_neg (fun z => z.2 ⟨i, by omega, by omega, hp⟩), if_neg (fun z => absurd z.1 (by decide))]
    have more : ¬ yP M t src g i → (@ite zz_R (f = 0 ∧ ¬ ∃ j : Int, (i : Int) ≤ j ∧ j < zz_h M 68 1 t ∧ yP M t src g j) (Classical.propDecidable _) (K src g u (t + 1) M) ((m_comes t u M).bind fun q => K src g u (t + 1) q.2)) = m_notes_44 K n src g u t f (4 * t + ((i + 1 : Nat) : Int)) M := by
      intro hn
      rw [e f hf]
      refine yy_ite ⟨?_, ?_⟩ _ _
      · rintro ⟨q, z⟩
        exact ⟨q, fun ⟨j, a1, a2, a3⟩ => z ⟨j, by omega, a2, a3⟩⟩
      · rintro ⟨q, z⟩
        refine ⟨q, fun ⟨j, a1, a2, a3⟩ => z ⟨j, ?_, a2, a3⟩⟩
        by_cases q : j = i
        · rw [q] at a3
          exact absurd a3 hn
        · omega
    have b68 : zz_b M 68 1 t := ⟨h1, by rw [ya_68]; omega⟩
    have b69 : zz_b M 69 1 (4 * t + i) := ⟨by omega, by rw [ya_69]; omega⟩
    have b70 : zz_b M 70 1 (4 * t + i) := ⟨by omega, by rw [ya_70]; omega⟩
    rw [m_notes_44, if_pos b68, r4, r5, if_pos (by omega), if_pos b69, r]
    by_cases c1 : zz_h M 69 1 (4 * t + i) = src
    · rw [if_pos c1, if_pos b70]
      by_cases c2 : zz_h M 70 1 (4 * t + i) = 2
      · rw [if_pos c2, here ⟨c1, Or.inl c2⟩]
      · rw [if_neg c2, if_pos b70]
        by_cases c3 : zz_h M 70 1 (4 * t + i) = 0
        · rw [if_pos c3]
          by_cases c4 : g = 1
          · rw [if_pos c4.symm, here ⟨c1, Or.inr (Or.inl ⟨c3, c4⟩)⟩]
          · rw [if_neg (fun z => c4 z.symm), more]
            rintro ⟨-, q | q | q⟩
            · exact c2 q
            · exact c4 q.2
            · exact q.1 c3
        · rw [if_neg c3]
          by_cases c4 : g = 0
          · rw [if_pos c4.symm, here ⟨c1, Or.inr (Or.inr ⟨c3, c4⟩)⟩]
          · rw [if_neg (fun z => c4 z.symm), more]
            rintro ⟨-, q | q | q⟩
            · exact c2 q
            · exact c3 q.1
            · exact c4 q.2
    · rw [if_neg c1, more]
      rintro ⟨q, -⟩
      exact c1 q
