/-! STAGE B: comeDue and comes -/
def yn_cx (k : Nat) (j : Int) : Bool := !(k == 22 || k == 23 || k == 24 || (k == 5 && j == 3) || k == 19 || k == 20 || k == 21 || (k == 4 && j == 3) || (k == 7 && (j == 11 || j == 16 || j == 17)))
def yn_cm (k : Nat) (j : Int) : Bool := !(k == 88 || k == 89 || k == 90 || (k == 40 && (j == 57 || j == 53)) || k == 85 || k == 86 || k == 87 || k == 57 || k == 58)
theorem yS.comes {e : Nat} {b : Int} {aw : List Int} {dl : List yd} {X M : zz_S} (h : yS e b aw dl X M) (hb : b < 2000000000) (t : Int) (h1 : 0 ≤ t) (h2 : t < zz_h M 40 1 9) (ha : zz_h M 56 1 t = 0) :
    ∃ dl' X' M', x_comeDue (t + 1) X = some (0, X') ∧ m_comes t (zz_h M 40 1 0) M = some (0, M') ∧ yS e (b + 1) aw dl' X' M' ∧ yK yn_cx X X' ∧ yK yn_cm M M' := by
  have A := h.A
  have nr := A.nr
  have tr := A.tr
  have B := h.B t h1 h2
  have C := h.C t h1 h2
  have h60 : t < 60 := by omega
  have t0 : ¬ t + 1 = 0 := by omega
  have Ll := h.L.le
  -- a due that is lost by a row of the book
  have lost : ∀ f : Int, ∃ X' M', (∃ X1 M1, xB_add t (zz_h M 40 1 0) f X = some (0, X1) ∧ m_books t (zz_h M 40 1 0) f M = some (0, M1) ∧ x_pauseAgain (t + 1) X1 = some (0, X') ∧ m_dueGone t (zz_h M 40 1 0) M1 = some (0, M')) ∧ yS e (b + 1) aw dl X' M' ∧ yK yn_cx X X' ∧ yK yn_cm M M' := by
    intro f
    obtain ⟨X1, M1, e1, e2, g, k1, k2⟩ := h.book hb t (zz_h M 40 1 0) f
    have n1 : zz_h M1 40 1 9 = zz_h M 40 1 9 := k2 40 1 9 rfl
    have n2 : zz_h M1 40 1 0 = zz_h M 40 1 0 := k2 40 1 0 rfl
    have n3 : zz_h M1 56 1 t = zz_h M 56 1 t := k2 56 1 t rfl
    obtain ⟨X2, M2, e3, e4, g2, k3, k4⟩ := g.again t h1 (by rw [n1]; exact h2) (by rw [n3]; exact ha)
    rw [n2] at e4
    exact ⟨X2, M2, ⟨X1, M1, e1, e2, e3, e4⟩, g2, (k1.sub (by (intro k j e; simp [yn_cx, yn_cm] at e ⊢; omega))).tr (k3.sub (by (intro k j e; simp [yn_cx, yn_cm] at e ⊢; omega))), (k2.sub (by (intro k j e; simp [yn_cx, yn_cm] at e ⊢; omega))).tr (k4.sub (by (intro k j e; simp [yn_cx, yn_cm] at e ⊢; omega)))⟩
  have hrest : zz_h X 7 (t + 1) 12 ≤ zz_h M 40 1 0 ↔ zz_h M 60 1 t ≤ zz_h M 40 1 0 := by
    rcases C.rs with q | q <;> omega
  -- the due waits, or finds no room
  have wait : ∃ dl' X' M', ((x_fateOfDue_41 X).bind fun q1 => (if q1.1 = 8 then ((xD_add (t + 1) (zz_h q1.2 3 1 16) q1.2).bind fun q2 => (some ((0 : Int), q2.2))) else ((xB_add t (zz_h q1.2 3 1 16) q1.1 q1.2).bind fun q5 => ((x_pauseAgain (t + 1) q5.2).bind fun q6 => (some (0, q6.2)))))) = some (0, X') ∧ m_comes_85 t (zz_h M 40 1 0) M = some (0, M') ∧ yS e (b + 1) aw dl' X' M' ∧ yK yn_cx X X' ∧ yK yn_cm M M' := by
    unfold x_fateOfDue_41
    rw [h.L.x.le]
    by_cases c : dl.length < 100
    · obtain ⟨X', M', e1, e2, g, k1, k2⟩ := h.addDue t (zz_h M 40 1 0) h1 h2 ha c
      have e2 := e2 (zz_h M 40 1 0)
      rw [if_neg (by rw [h.L.m.le]; omega), if_pos rfl] at e2
      refine ⟨_, X', M', ?_, e2, g.up (by omega), k1.sub (by (intro k j e; simp [yn_cx, yn_cm] at e ⊢; omega)), k2.sub (by (intro k j e; simp [yn_cx, yn_cm] at e ⊢; omega))⟩
      rw [if_pos (show (dl.length : Int) < 100 by omega), Option.bind_some]
      dsimp only
      rw [if_pos rfl, A.t, e1]
      rfl
    · obtain ⟨X', M', ⟨X1, M1, e1, e2, e3, e4⟩, g, k1, k2⟩ := lost 6
      refine ⟨_, X', M', ?_, ?_, g, k1, k2⟩
      · rw [if_neg (show ¬ (dl.length : Int) < 100 by omega), Option.bind_some]
        dsimp only
        rw [if_neg (by decide), A.t, e1, Option.bind_some]
        dsimp only
        rw [e3]
        rfl
      · unfold m_comes_85
        rw [h.L.m.le, if_pos (show (dl.length : Int) = 100 by omega), e2, Option.bind_some]
        dsimp only
        rw [e4]
        rfl
  have x41 : ∀ q : Int × zz_S, x_fateOfDue_41 X = some q → (q.1 = 8 ∨ q.1 = 6) ∧ q.2 = X := by
    intro q hq
    unfold x_fateOfDue_41 at hq
    split at hq <;> cases hq <;> simp
  obtain ⟨q41, hq41⟩ : ∃ q, x_fateOfDue_41 X = some q := by
    unfold x_fateOfDue_41
    split <;> exact ⟨_, rfl⟩
  obtain ⟨d1, d2⟩ := x41 q41 hq41
  have hrun := h.running t h1 h2
  unfold x_comeDue m_comes x_fateOfDue
  simp only [t0, if_false, zz_b, ya_11, ya_12, ya_13, ya_14, ya_15, ya_16, ya_17, ya_18, ya_19, ya_20, ya_21, ya_22, ya_23, ya_24, ya_25, ya_26, ya_27, ya_28, ya_29, ya_30, ya_41, ya_42, ya_43, ya_44, ya_45, ya_46, ya_47, ya_48, ya_49, ya_50, ya_51, ya_52, ya_53, ya_54, ya_55, ya_56, ya_57, ya_58, ya_59, ya_60, ya_61, ya_62, ya_63, ya_64, ya_65, ya_66, ya_67, ya_68, ya_69, ya_70, ya_71, ya_72, ya_73, ya_74, ya_75, ya_76, ya_77, ya_78, ya_79, ya_80, ya_81, ya_82, ya_83, ya_84, ya_85, ya_86, ya_87, ya_88, ya_89, ya_90, ya_91, h1, h60, and_self, if_true, A.t, A.s, B.t3, Int.reduceLE, Int.reduceLT]
  by_cases c1 : zz_h M 40 1 3 = 0
  · rw [if_pos c1, if_pos c1]
    by_cases c2 : zz_h M 60 1 t ≤ zz_h M 40 1 0
    · rw [if_pos (hrest.mpr c2), if_pos c2]
      -- what both do when the due may wait
      have fin : ∃ dl' X' M', ((x_fateOfDue_41 X).bind fun q1 => (if q1.1 = 8 then ((xD_add (t + 1) (zz_h q1.2 3 1 16) q1.2).bind fun q2 => (some ((0 : Int), q2.2))) else (if q1.1 = 7 then ((x_pauseAgain (t + 1) (zz_w q1.2 7 (t + 1) 17 (zz_r ((zz_h q1.2 7 (t + 1) 17) + 1)))).bind fun q4 => (some (0, q4.2))) else ((xB_add (zz_h q1.2 7 (t + 1) 0) (zz_h q1.2 3 1 16) q1.1 q1.2).bind fun q5 => ((x_pauseAgain (t + 1) q5.2).bind fun q6 => (some (0, q6.2))))))) = some (0, X') ∧ m_comes_85 t (zz_h M 40 1 0) M = some (0, M') ∧ yS e (b + 1) aw dl' X' M' ∧ yK yn_cx X X' ∧ yK yn_cm M M' := by
        obtain ⟨dl', X', M', w1, w2, w3⟩ := wait
        refine ⟨dl', X', M', ?_, w2, w3⟩
        rw [hq41, Option.bind_some] at w1 ⊢
        obtain ⟨qa, qb⟩ := q41
        simp only at d1 d2
        subst d2
        dsimp only at w1 ⊢
        rw [B.nu, if_neg (show ¬ qa = 7 by omega)]
        exact w1
      by_cases c3 : zz_h M 50 1 t = 0
      · rw [if_pos c3, if_pos c3, hrun]
        by_cases c4 : zz_h X 7 (t + 1) 15 ≤ 0
        · rw [if_pos c4, if_pos c4, Option.bind_some, if_pos rfl]
          exact fin
        · rw [if_neg c4, if_neg c4, Option.bind_some, Option.bind_some]
          have g := h.setSkip t (zz_r (zz_h M 58 1 t + 1)) h2
          obtain ⟨X2, M2, e3, e4, g2, k3, k4⟩ := g.again t h1 h2 ha
          refine ⟨_, X2, M2, ?_, ?_, g2.up (by omega), (show yK yn_cx X _ from by (repeat (first | refine yK.w ?_ rfl | exact yK.rf))).tr (k3.sub (by (intro k j e; simp [yn_cx, yn_cm] at e ⊢; omega))), (show yK yn_cm M _ from by (repeat (first | refine yK.w ?_ rfl | exact yK.rf))).tr (k4.sub (by (intro k j e; simp [yn_cx, yn_cm] at e ⊢; omega)))⟩
          · dsimp only
            rw [if_neg (by decide), if_pos rfl, C.sk, e3]
            rfl
          · dsimp only
            rw [if_neg (by decide)]
            rw [show m_dueGone t (zz_h M 40 1 0) (zz_w M 58 1 t (zz_r (zz_h M 58 1 t + 1))) = some (0, M2) from e4]
            rfl
      · rw [if_neg c3, if_neg c3]
        exact fin
    · rw [if_neg (fun z => c2 (hrest.mp z)), if_neg c2, Option.bind_some]
      obtain ⟨X', M', ⟨X1, M1, e1, e2, e3, e4⟩, g, k1, k2⟩ := lost 5
      refine ⟨_, X', M', ?_, ?_, g, k1, k2⟩
      · dsimp only
        rw [if_neg (by decide), if_neg (by decide), B.nu, A.t, e1, Option.bind_some]
        dsimp only
        rw [e3]
        rfl
      · rw [e2, Option.bind_some]
        dsimp only
        rw [e4]
        rfl
  · rw [if_neg c1, if_neg c1, Option.bind_some]
    obtain ⟨X', M', ⟨X1, M1, e1, e2, e3, e4⟩, g, k1, k2⟩ := lost 4
    refine ⟨_, X', M', ?_, ?_, g, k1, k2⟩
    · dsimp only
      rw [if_neg (by decide), if_neg (by decide), B.nu, A.t, e1, Option.bind_some]
      dsimp only
      rw [e3]
      rfl
    · rw [e2, Option.bind_some]
      dsimp only
      rw [e4]
      rfl
