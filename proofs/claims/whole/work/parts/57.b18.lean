/-! STAGE B: what is planned, and what a body does -/
theorem yS.planned_loop {e : Nat} {b : Int} {aw : List Int} {dl : List yd} {X M : zz_S} (h : yS e b aw dl X M) (t u : Int) : ∀ (k n m i : Nat), (i : Int) + k = zz_h M 40 1 37 → k < n → k < m → ∃ p : Int, 0 ≤ p ∧ xP_placeOf_2 n t u i X = some (p, X) ∧ ((p < zz_h M 40 1 37 ∧ zz_h M 71 1 p = t ∧ zz_h M 72 1 p = u ∧ m_planned_2 m t u i M = some (zz_h M 73 1 p, M)) ∨ (p = zz_h M 40 1 37 ∧ m_planned_2 m t u i M = some (-1, M))) := by
  have pr := h.A.pr
  intro k
  induction k with
  | zero =>
    intro n m i a b1 b2
    obtain ⟨n, rfl⟩ : ∃ q, n = q + 1 := ⟨n - 1, by omega⟩
    obtain ⟨m, rfl⟩ : ∃ q, m = q + 1 := ⟨m - 1, by omega⟩
    refine ⟨zz_h M 40 1 37, pr.1, ?_, Or.inr ⟨rfl, ?_⟩⟩
    · rw [xP_placeOf_2, h.A.p, if_neg (by omega)]
    · rw [m_planned_2, if_neg (by omega)]
  | succ k ih =>
    intro n m i a b1 b2
    obtain ⟨n, rfl⟩ : ∃ q, n = q + 1 := ⟨n - 1, by omega⟩
    obtain ⟨m, rfl⟩ : ∃ q, m = q + 1 := ⟨m - 1, by omega⟩
    have r : zz_r ((i : Int) + 1) = ((i + 1 : Nat) : Int) := by rw [yy_r (by omega) (by omega)]; omega
    have i0 : (0 : Int) ≤ i := by omega
    have i1 : (i : Int) < zz_h M 40 1 37 := by omega
    have i4 : (i : Int) < 40 := by omega
    have g1 := h.G.p1 i i0 i1
    have g2 := h.G.p2 i i0 i1
    have e := ih n m (i + 1) (by omega) (by omega) (by omega)
    rw [xP_placeOf_2, m_planned_2]
    simp only [h.A.p, i1, if_true, zz_b, ya_11, ya_12, ya_13, ya_14, ya_15, ya_16, ya_17, ya_18, ya_19, ya_20, ya_21, ya_22, ya_23, ya_24, ya_25, ya_26, ya_27, ya_28, ya_29, ya_30, ya_41, ya_42, ya_43, ya_44, ya_45, ya_46, ya_47, ya_48, ya_49, ya_50, ya_51, ya_52, ya_53, ya_54, ya_55, ya_56, ya_57, ya_58, ya_59, ya_60, ya_61, ya_62, ya_63, ya_64, ya_65, ya_66, ya_67, ya_68, ya_69, ya_70, ya_71, ya_72, ya_73, ya_74, ya_75, ya_76, ya_77, ya_78, ya_79, ya_80, ya_81, ya_82, ya_83, ya_84, ya_85, ya_86, ya_87, ya_88, ya_89, ya_90, ya_91, i0, i4, and_self, g1, g2, r]
    by_cases c1 : zz_h M 71 1 i = t
    · rw [if_pos c1, if_pos c1]
      by_cases c2 : zz_h M 72 1 i = u
      · rw [if_pos c2, if_pos c2]
        exact ⟨i, i0, rfl, Or.inl ⟨i1, c1, c2, rfl⟩⟩
      · rw [if_neg c2, if_neg c2]
        exact e
    · rw [if_neg c1, if_neg c1]
      exact e
theorem yS.planned {e : Nat} {b : Int} {aw : List Int} {dl : List yd} {X M : zz_S} (h : yS e b aw dl X M) (t u : Int) : ∃ v, xP_kindOf t u X = some (v, X) ∧ m_planned t u M = some (v, M) := by
  have pr := h.A.pr
  have fu := yy_fu
  obtain ⟨p, p0, e1, e2⟩ := h.planned_loop t u (zz_h M 40 1 37).toNat zz_fu zz_fu 0 (by omega) (by omega) (by omega)
  rw [show ((0 : Nat) : Int) = 0 from rfl] at e1 e2
  unfold xP_kindOf xP_placeOf m_planned
  rw [e1, Option.bind_some]
  dsimp only
  rw [h.A.p]
  rcases e2 with ⟨a1, -, -, a2⟩ | ⟨a1, a2⟩
  · rw [if_pos a1, if_pos (show zz_b X 27 1 p from ⟨p0, by rw [ya_27]; omega⟩), a2, h.G.p3 p p0 a1]
    exact ⟨_, rfl, rfl⟩
  · rw [if_neg (by omega), a2]
    exact ⟨_, rfl, rfl⟩
def yn_ax (k : Nat) (j : Int) : Bool := !(k == 17 || k == 19 || k == 20 || k == 21 || (k == 4 && j == 3) || (k == 7 && (j == 10 || j == 16 || j == 18 || j == 19)))
def yn_am (k : Nat) (j : Int) : Bool := !(k == 74 || k == 85 || k == 86 || k == 87 || (k == 40 && j == 53) || k == 56 || k == 63)
theorem yS.fire {b : Int} {aw : List Int} {dl : List yd} {X M : zz_S} (h : yS 1 b aw dl X M) (t : Int) (h1 : 0 ≤ t) (h2 : t < zz_h M 40 1 9) : ∃ X', xT_fireFor (t + 1) (zz_h M 40 1 0 + 1) X = some (0, X') ∧ yS 1 b aw dl X' (zz_w M 63 1 t 1) ∧ yK yn_ax X X' := by
  have D := h.D t h1 h2
  have t0 : ¬ t + 1 = 0 := by omega
  have u0 := h.A.tr
  have m := D.m
  have o := D.o
  have a := D.a rfl
  unfold xT_fireFor
  rw [if_neg t0]
  by_cases c : zz_h X 7 (t + 1) 18 = zz_h M 40 1 0 + 1
  · rw [if_pos c]
    refine ⟨X, rfl, ?_, yK.rf⟩
    (refine yS.by_ h ?_ rfl rfl rfl ?_ ?_ ?_ ?_ ?_ ?_ ?_ ?_ ?_ ?_ ?_ ?_ <;> try (first | (refine yA.cg (yS.A h) ?_ ?_ <;> ((repeat (first | refine yK.w ?_ rfl | exact yK.rf)); done))| (intro t h1 h2; refine yB.cg (yS.B h t h1 h2) ?_ ?_ <;> ((repeat (first | refine yK.w ?_ rfl | exact yK.rf)); done))| (intro t h1 h2; refine yC.cg (yC.up (yS.C h t h1 h2) (by omega)) ?_ ?_ <;> ((repeat (first | refine yK.w ?_ rfl | exact yK.rf)); done))| (intro t h1 h2; refine yD.cg (yS.D h t h1 h2) ?_ ?_ <;> ((repeat (first | refine yK.w ?_ rfl | exact yK.rf)); done))| (intro t h1 h2; refine yE.cg (yS.E h t h1 h2) ?_ ?_ <;> ((repeat (first | refine yK.w ?_ rfl | exact yK.rf)); done))| (intro t h1 h2; refine yF.cg (yS.F h t h1 h2) ?_ ?_ <;> ((repeat (first | refine yK.w ?_ rfl | exact yK.rf)); done))| (refine yG.cg (yS.G h) ?_ ?_ <;> ((repeat (first | refine yK.w ?_ rfl | exact yK.rf)); done))| (intro t h1 h2; refine yI.cg (yS.I h t h1 h2) ?_ ?_ <;> ((repeat (first | refine yK.w ?_ rfl | exact yK.rf)); done))| (refine yJ.cg (yS.J h) ?_ ?_ <;> ((repeat (first | refine yK.w ?_ rfl | exact yK.rf)); done))| (refine yL.cg (yS.L h) ?_ ?_ <;> ((repeat (first | refine yK.w ?_ rfl | exact yK.rf)); done))| (refine yM.cg (yM.up (yS.R h) (by omega)) ?_ ?_ <;> ((repeat (first | refine yK.w ?_ rfl | exact yK.rf)); done))| (refine yN.cg (yS.N h) ?_ (fun _ => ⟨rfl, rfl⟩) <;> ((repeat (first | refine yK.w ?_ rfl | exact yK.rf)); done))| (refine yU.cg (yS.U h) ?_ <;> ((repeat (first | refine yK.w ?_ rfl | exact yK.rf)); done))))
    · intro s s1 s2
      have d := h.D s s1 s2
      by_cases q : s = t
      · subst q
        unfold yD
        refine ⟨fun _ => ?_, ?_, d.m, d.o⟩
        · simpa [zz_h_w] using a
        · exact Or.inr ⟨by simp [zz_h_w], Or.inl c⟩
      · unfold yD
        refine ⟨fun _ => ?_, ?_, d.m, d.o⟩
        · simpa [zz_h_w] using d.a rfl
        · simpa [zz_h_w, q] using d.c
    · exact h.U.wr (by decide) h2
  · rw [if_neg c, if_neg t0, if_neg t0]
    dsimp only
    rw [if_neg t0]
    refine ⟨_, rfl, ?_, by (repeat (first | refine yK.w ?_ rfl | exact yK.rf))⟩
    (refine yS.by_ h ?_ rfl rfl rfl ?_ ?_ ?_ ?_ ?_ ?_ ?_ ?_ ?_ ?_ ?_ ?_ <;> try (first | (refine yA.cg (yS.A h) ?_ ?_ <;> ((repeat (first | refine yK.w ?_ rfl | exact yK.rf)); done))| (intro t h1 h2; refine yB.cg (yS.B h t h1 h2) ?_ ?_ <;> ((repeat (first | refine yK.w ?_ rfl | exact yK.rf)); done))| (intro t h1 h2; refine yC.cg (yC.up (yS.C h t h1 h2) (by omega)) ?_ ?_ <;> ((repeat (first | refine yK.w ?_ rfl | exact yK.rf)); done))| (intro t h1 h2; refine yD.cg (yS.D h t h1 h2) ?_ ?_ <;> ((repeat (first | refine yK.w ?_ rfl | exact yK.rf)); done))| (intro t h1 h2; refine yE.cg (yS.E h t h1 h2) ?_ ?_ <;> ((repeat (first | refine yK.w ?_ rfl | exact yK.rf)); done))| (intro t h1 h2; refine yF.cg (yS.F h t h1 h2) ?_ ?_ <;> ((repeat (first | refine yK.w ?_ rfl | exact yK.rf)); done))| (refine yG.cg (yS.G h) ?_ ?_ <;> ((repeat (first | refine yK.w ?_ rfl | exact yK.rf)); done))| (intro t h1 h2; refine yI.cg (yS.I h t h1 h2) ?_ ?_ <;> ((repeat (first | refine yK.w ?_ rfl | exact yK.rf)); done))| (refine yJ.cg (yS.J h) ?_ ?_ <;> ((repeat (first | refine yK.w ?_ rfl | exact yK.rf)); done))| (refine yL.cg (yS.L h) ?_ ?_ <;> ((repeat (first | refine yK.w ?_ rfl | exact yK.rf)); done))| (refine yM.cg (yM.up (yS.R h) (by omega)) ?_ ?_ <;> ((repeat (first | refine yK.w ?_ rfl | exact yK.rf)); done))| (refine yN.cg (yS.N h) ?_ (fun _ => ⟨rfl, rfl⟩) <;> ((repeat (first | refine yK.w ?_ rfl | exact yK.rf)); done))| (refine yU.cg (yS.U h) ?_ <;> ((repeat (first | refine yK.w ?_ rfl | exact yK.rf)); done))))
    · intro s s1 s2
      have d := h.D s s1 s2
      by_cases q : s = t
      · subst q
        unfold yD
        refine ⟨fun _ => ?_, ?_, ?_, ?_⟩
        · simp [zz_h_w]
          omega
        · simp [zz_h_w]
        · simp [zz_h_w]
        · simp [zz_h_w]
          omega
      · unfold yD
        refine ⟨fun _ => ?_, ?_, ?_, ?_⟩
        · simpa [zz_h_w, q] using d.a rfl
        · simpa [zz_h_w, q] using d.c
        · simpa [zz_h_w, q] using d.m
        · simpa [zz_h_w, q] using d.o
    · exact h.U.wr (by decide) h2
theorem yS.does {b : Int} {aw : List Int} {dl : List yd} {X M : zz_S} (h : yS 1 b aw dl X M) (r : Int) (r1 : 0 ≤ r) (r2 : r < zz_h M 40 1 42) :
    ∃ v dl' X' M', x_act (r + 1) X = some (v, X') ∧ m_does r (zz_h M 75 1 r) (zz_h M 40 1 0) M = some (v, M') ∧ yS 1 b aw dl' X' M' ∧ yK yn_ax X X' ∧ yK yn_am M M' := by
  have nr := h.A.nr
  have I := h.I r r1 r2
  have tr := I.tr
  have B := h.B _ tr.1 tr.2
  have a1 : ¬ r + 1 = 0 := by omega
  have a2 : ¬ zz_h M 75 1 r + 1 = 0 := by omega
  have t60 : zz_h M 75 1 r < 60 := by omega
  obtain ⟨c0, c8⟩ := zz_and7 (zz_h M 55 1 (zz_h M 75 1 r))
  have hc := h.G.c _ c0 c8
  have tu := h.A.tr
  have ru : zz_r (zz_h M 40 1 0 + 1) = zz_h M 40 1 0 + 1 := yy_r (by omega) (by omega)
  obtain ⟨ref, hx, hn⟩ : ∃ ref, x_taskAt (zz_h M 54 1 (zz_h M 75 1 r)) X = some (ref, X) ∧ ((ref = 0 ∧ m_isTask (zz_h M 54 1 (zz_h M 75 1 r)) M = some (0, M)) ∨ (ref = zz_h M 54 1 (zz_h M 75 1 r) + 1 ∧ 0 ≤ zz_h M 54 1 (zz_h M 75 1 r) ∧ zz_h M 54 1 (zz_h M 75 1 r) < zz_h M 40 1 9 ∧ m_isTask (zz_h M 54 1 (zz_h M 75 1 r)) M = some (1, M))) := by
    by_cases c : 0 ≤ zz_h M 54 1 (zz_h M 75 1 r) ∧ zz_h M 54 1 (zz_h M 75 1 r) < zz_h M 40 1 9
    · exact ⟨_, x_taskAt_in h c.1 c.2, Or.inr ⟨rfl, c.1, c.2, by rw [m_isTask_ok _ _ nr, if_pos c]⟩⟩
    · exact ⟨_, x_taskAt_out h c, Or.inl ⟨rfl, by rw [m_isTask_ok _ _ nr, if_neg c]⟩⟩
  unfold x_act m_does
  simp only [a1, if_false, I.ta, a2, B.ax, B.ay, hx, Option.bind_some, B.ac, zz_b, ya_11, ya_12, ya_13, ya_14, ya_15, ya_16, ya_17, ya_18, ya_19, ya_20, ya_21, ya_22, ya_23, ya_24, ya_25, ya_26, ya_27, ya_28, ya_29, ya_30, ya_41, ya_42, ya_43, ya_44, ya_45, ya_46, ya_47, ya_48, ya_49, ya_50, ya_51, ya_52, ya_53, ya_54, ya_55, ya_56, ya_57, ya_58, ya_59, ya_60, ya_61, ya_62, ya_63, ya_64, ya_65, ya_66, ya_67, ya_68, ya_69, ya_70, ya_71, ya_72, ya_73, ya_74, ya_75, ya_76, ya_77, ya_78, ya_79, ya_80, ya_81, ya_82, ya_83, ya_84, ya_85, ya_86, ya_87, ya_88, ya_89, ya_90, ya_91, c0, c8, and_self, if_true, tr.1, t60, hc, I.nu, h.A.t, ru]
  by_cases g1 : zz_h M 53 1 (zz_h M 75 1 r) = 1
  · rw [if_pos g1, if_pos g1]
    exact ⟨_, _, _, _, rfl, rfl, h.setCell _ _, by (repeat (first | refine yK.w ?_ rfl | exact yK.rf)), by (repeat (first | refine yK.w ?_ rfl | exact yK.rf))⟩
  rw [if_neg g1, if_neg g1]
  by_cases g2 : zz_h M 53 1 (zz_h M 75 1 r) = 2
  · rw [if_pos g2, if_pos g2]
    exact ⟨_, _, _, _, rfl, rfl, h.setCell _ _, by (repeat (first | refine yK.w ?_ rfl | exact yK.rf)), by (repeat (first | refine yK.w ?_ rfl | exact yK.rf))⟩
  rw [if_neg g2, if_neg g2]
  by_cases g3 : zz_h M 53 1 (zz_h M 75 1 r) = 3
  · rw [if_pos g3, if_pos g3]
    split
    · exact ⟨_, _, _, _, rfl, rfl, h, yK.rf, yK.rf⟩
    · exact ⟨_, _, _, _, rfl, rfl, h, yK.rf, yK.rf⟩
  rw [if_neg g3, if_neg g3]
  by_cases g4 : zz_h M 53 1 (zz_h M 75 1 r) = 4
  · rw [if_pos g4, if_pos g4]
    exact ⟨_, _, _, _, rfl, rfl, h.setCell _ _, by (repeat (first | refine yK.w ?_ rfl | exact yK.rf)), by (repeat (first | refine yK.w ?_ rfl | exact yK.rf))⟩
  rw [if_neg g4, if_neg g4]
  by_cases g5 : zz_h M 53 1 (zz_h M 75 1 r) = 5
  · rw [if_pos g5, if_pos g5]
    rcases hn with ⟨q1, q2⟩ | ⟨q1, q2, q3, q4⟩
    · rw [if_pos q1, q2, Option.bind_some]
      exact ⟨_, _, _, _, rfl, rfl, h, yK.rf, yK.rf⟩
    · have z0 : ¬ ref = 0 := by omega
      rw [if_neg z0, if_neg z0, q4, Option.bind_some]
      dsimp only
      rw [q1, xT_isActive_ok h q2 q3, m_isActive_ok _ _ ⟨q2, by omega⟩]
      by_cases ca : zz_h M 56 1 (zz_h M 54 1 (zz_h M 75 1 r)) = 0
      · simp only [ca, if_true, Option.bind_some, show ¬ (1 : Int) = 0 by decide, if_false]
        obtain ⟨X', M', e1, e2, e3, e4, e5, -⟩ := h.leave _ 3 q2 q3 (Or.inl rfl)
        have q60 : zz_h M 54 1 (zz_h M 75 1 r) < 60 := by omega
        simp only [e1, q2, q60, and_self, if_true, e2, Option.bind_some]
        exact ⟨_, _, _, _, rfl, rfl, e3, e4.sub (by (intro k j e; first | rfl | (simp [yk_A, yk_B, yk_C, yk_D, yk_E, yk_F, yk_G, yk_M, yk_I, yk_J, yk_L, yk_Lx, yk_Lm, yk_N, yk_U, yn_cx, yn_cm, yn_Lx, yn_Lm, yn_vx, yn_ax] at e ⊢; omega))), e5.sub (by (intro k j e; first | rfl | (simp [yk_A, yk_B, yk_C, yk_D, yk_E, yk_F, yk_G, yk_M, yk_I, yk_J, yk_L, yk_Lx, yk_Lm, yk_N, yk_U, yn_cx, yn_cm, yn_Lx, yn_Lm, yn_vm, yn_am] at e ⊢; omega)))⟩
      · simp only [ca, if_true, Option.bind_some, show ¬ (1 : Int) = 0 by decide, if_false]
        exact ⟨_, _, _, _, rfl, rfl, h, yK.rf, yK.rf⟩
  rw [if_neg g5, if_neg g5]
  by_cases g6 : zz_h M 53 1 (zz_h M 75 1 r) = 6
  · rw [if_pos g6, if_pos g6]
    rcases hn with ⟨q1, q2⟩ | ⟨q1, q2, q3, q4⟩
    · rw [if_pos q1, q2, Option.bind_some]
      exact ⟨_, _, _, _, rfl, rfl, h, yK.rf, yK.rf⟩
    · have z0 : ¬ ref = 0 := by omega
      rw [if_neg z0, if_neg z0, q4, Option.bind_some]
      dsimp only
      rw [q1, xT_isActive_ok h q2 q3, m_isActive_ok _ _ ⟨q2, by omega⟩]
      by_cases ca : zz_h M 56 1 (zz_h M 54 1 (zz_h M 75 1 r)) = 0
      · simp only [ca, if_true, Option.bind_some, show ¬ (1 : Int) = 0 by decide, if_false]
        rw [if_neg (by omega), h.A.t, ru]
        obtain ⟨X', e1, e3, e4⟩ := h.fire _ q2 q3
        have q60 : zz_h M 54 1 (zz_h M 75 1 r) < 60 := by omega
        simp only [e1, q2, q60, and_self, if_true, Option.bind_some]
        exact ⟨_, _, _, _, rfl, rfl, e3, e4, by (repeat (first | refine yK.w ?_ rfl | exact yK.rf))⟩
      · simp only [ca, if_true, Option.bind_some, show ¬ (1 : Int) = 0 by decide, if_false]
        exact ⟨_, _, _, _, rfl, rfl, h, yK.rf, yK.rf⟩
  rw [if_neg g6, if_neg g6]
  exact ⟨_, _, _, _, rfl, rfl, h, yK.rf, yK.rf⟩
