/-! STAGE B: a FORM more, on both sides -/
theorem yE.cg2 {s : Int} {X M X' M' : zz_S} (h : yE s X M) (hx : ∀ j, zz_h X' 8 (s + 1) j = zz_h X 8 (s + 1) j) (h0 : zz_h M' 64 1 s = zz_h M 64 1 s) (hm : ∀ i, 0 ≤ i → i < zz_h M 64 1 s → zz_h M' 65 1 (4 * s + i) = zz_h M 65 1 (4 * s + i) ∧ zz_h M' 66 1 (4 * s + i) = zz_h M 66 1 (4 * s + i) ∧ zz_h M' 67 1 (4 * s + i) = zz_h M 67 1 (4 * s + i)) : yE s X' M' := by
  have g : ∀ q v, yfa q s M' v ↔ yfa q s M v := by
    intro q v
    unfold yfa
    rw [h0]
    constructor
    · intro z i i1 i2
      have := z i i1 i2
      obtain ⟨e1, e2, e3⟩ := hm i i1 i2
      rw [e1, e2, e3] at this
      exact this
    · intro z i i1 i2
      obtain ⟨e1, e2, e3⟩ := hm i i1 i2
      rw [e1, e2, e3]
      exact z i i1 i2
  simp only [yE, hx, h0, g]
  exact h
theorem yW.calendar {c : Int} {X M : zz_S} (hW : yW c X M) (t f a b : Int) : yR c (x_calendar t f a b) (m_calendar t f a b) X M := by
  obtain ⟨aw, dl, h⟩ := hW
  have nr := h.A.nr
  have hW : yW c X M := ⟨aw, dl, h⟩
  by_cases g : 0 ≤ t ∧ t < zz_h M 40 1 9
  · have B := h.B t g.1 g.2
    have E := h.E t g.1 g.2
    have a1 : ¬ t + 1 = 0 := by omega
    have t60 : t < 60 := by omega
    have b44 : zz_b M 44 1 t := ⟨g.1, by rw [ya_44]; omega⟩
    have b64 : ∀ s, zz_b s 64 1 t := fun s => ⟨g.1, by rw [ya_64]; omega⟩
    unfold yR x_calendar m_calendar
    rw [x_taskAt_in h g.1 g.2, m_isTask_ok _ _ nr, if_pos g, Option.bind_some, Option.bind_some]
    dsimp only
    rw [if_neg yy_10, if_pos b44, B.ki]
    simp only [a1, if_false]
    by_cases k : zz_h M 44 1 t = 3
    · rw [if_pos k, if_pos k, xC_isForm_ok h.N, m_isForm_ok, Option.bind_some, Option.bind_some]
      dsimp only
      by_cases v : yfv f a b
      · rw [yi_pos v, if_neg yy_10, if_neg yy_10, if_pos (b64 M), E.n]
        have nr4 := E.nr
        by_cases k4 : zz_h M 64 1 t = 4
        · rw [if_neg (by omega), if_pos k4]
          exact ⟨_, _, _, rfl, rfl, hW.up (by omega)⟩
        · have n4 : zz_h M 64 1 t < 4 := by omega
          rw [if_pos n4, if_neg k4, if_pos (b64 M)]
          have r1 : zz_r (zz_r (4 * t) + zz_h M 64 1 t) = 4 * t + zz_h M 64 1 t := by rw [yy_r (z := 4 * t) (by omega) (by omega), yy_r (by omega) (by omega)]
          have r2 : zz_r (zz_h M 64 1 t + 1) = zz_h M 64 1 t + 1 := yy_r (by omega) (by omega)
          obtain ⟨X', x1, x2, x3, x4, x5⟩ := xC_add_ok (X := X) g.1 E.n nr4.1 n4 v
          rw [x1, Option.bind_some, r1, if_pos (show zz_b M 65 1 _ from ⟨by omega, by rw [ya_65]; omega⟩)]
          dsimp only
          rw [x5.1, if_pos (show zz_b _ 66 1 (4 * t + zz_h M 64 1 t) from ⟨by omega, by rw [ya_66]; omega⟩), if_pos (show zz_b _ 67 1 (4 * t + zz_h M 64 1 t) from ⟨by omega, by rw [ya_67]; omega⟩), if_pos (b64 _), if_pos (b64 _)]
          have e64 : zz_h (zz_w (zz_w (zz_w M 65 1 (4 * t + zz_h M 64 1 t) f) 66 1 (4 * t + zz_h M 64 1 t) a) 67 1 (4 * t + zz_h M 64 1 t) b) 64 1 t = zz_h M 64 1 t := rfl
          rw [e64, r2]
          have h' : yS 0 (50000 * c + 1100 * zz_h M 40 1 0) aw dl X' (zz_w (zz_w (zz_w (zz_w M 65 1 (4 * t + zz_h M 64 1 t) f) 66 1 (4 * t + zz_h M 64 1 t) a) 67 1 (4 * t + zz_h M 64 1 t) b) 64 1 t (zz_h M 64 1 t + 1)) := by
            have km : yK (fun k _ => !(k == 65 || k == 66 || k == 67 || k == 64)) M (zz_w (zz_w (zz_w (zz_w M 65 1 (4 * t + zz_h M 64 1 t) f) 66 1 (4 * t + zz_h M 64 1 t) a) 67 1 (4 * t + zz_h M 64 1 t) b) 64 1 t (zz_h M 64 1 t + 1)) := by (repeat (first | refine yK.w ?_ rfl | exact yK.rf))
            (refine yS.by_ h ?_ ?_ ?_ ?_ ?_ ?_ ?_ ?_ ?_ ?_ ?_ ?_ ?_ ?_ ?_ ?_ <;> try (first | (exact km 40 1 9 rfl)| (exact km 40 1 42 rfl)| (exact km 40 1 0 rfl)| (refine yA.cg (yS.A h) (yK.sub x2 ?_) (yK.sub km ?_) <;> (intro k j e; first | rfl | (simp [yk_A, yk_B, yk_C, yk_D, yk_E, yk_F, yk_G, yk_M, yk_I, yk_J, yk_L, yk_Lx, yk_Lm, yk_N, yk_U, yn_cx, yn_cm, yn_Lx, yn_Lm, yn_Lx] at e ⊢; omega)))| (intro t h1 h2; refine yB.cg (yS.B h t h1 h2) (yK.sub x2 ?_) (yK.sub km ?_) <;> (intro k j e; first | rfl | (simp [yk_A, yk_B, yk_C, yk_D, yk_E, yk_F, yk_G, yk_M, yk_I, yk_J, yk_L, yk_Lx, yk_Lm, yk_N, yk_U, yn_cx, yn_cm, yn_Lx, yn_Lm, yn_Lx] at e ⊢; omega)))| (intro t h1 h2; refine yC.cg (yC.up (yS.C h t h1 h2) (by omega)) (yK.sub x2 ?_) (yK.sub km ?_) <;> (intro k j e; first | rfl | (simp [yk_A, yk_B, yk_C, yk_D, yk_E, yk_F, yk_G, yk_M, yk_I, yk_J, yk_L, yk_Lx, yk_Lm, yk_N, yk_U, yn_cx, yn_cm, yn_Lx, yn_Lm, yn_Lx] at e ⊢; omega)))| (intro t h1 h2; refine yD.cg (yS.D h t h1 h2) (yK.sub x2 ?_) (yK.sub km ?_) <;> (intro k j e; first | rfl | (simp [yk_A, yk_B, yk_C, yk_D, yk_E, yk_F, yk_G, yk_M, yk_I, yk_J, yk_L, yk_Lx, yk_Lm, yk_N, yk_U, yn_cx, yn_cm, yn_Lx, yn_Lm, yn_Lx] at e ⊢; omega)))| (intro t h1 h2; refine yE.cg (yS.E h t h1 h2) (yK.sub x2 ?_) (yK.sub km ?_) <;> (intro k j e; first | rfl | (simp [yk_A, yk_B, yk_C, yk_D, yk_E, yk_F, yk_G, yk_M, yk_I, yk_J, yk_L, yk_Lx, yk_Lm, yk_N, yk_U, yn_cx, yn_cm, yn_Lx, yn_Lm, yn_Lx] at e ⊢; omega)))| (intro t h1 h2; refine yF.cg (yS.F h t h1 h2) (yK.sub x2 ?_) (yK.sub km ?_) <;> (intro k j e; first | rfl | (simp [yk_A, yk_B, yk_C, yk_D, yk_E, yk_F, yk_G, yk_M, yk_I, yk_J, yk_L, yk_Lx, yk_Lm, yk_N, yk_U, yn_cx, yn_cm, yn_Lx, yn_Lm, yn_Lx] at e ⊢; omega)))| (refine yG.cg (yS.G h) (yK.sub x2 ?_) (yK.sub km ?_) <;> (intro k j e; first | rfl | (simp [yk_A, yk_B, yk_C, yk_D, yk_E, yk_F, yk_G, yk_M, yk_I, yk_J, yk_L, yk_Lx, yk_Lm, yk_N, yk_U, yn_cx, yn_cm, yn_Lx, yn_Lm, yn_Lx] at e ⊢; omega)))| (intro t h1 h2; refine yI.cg (yS.I h t h1 h2) (yK.sub x2 ?_) (yK.sub km ?_) <;> (intro k j e; first | rfl | (simp [yk_A, yk_B, yk_C, yk_D, yk_E, yk_F, yk_G, yk_M, yk_I, yk_J, yk_L, yk_Lx, yk_Lm, yk_N, yk_U, yn_cx, yn_cm, yn_Lx, yn_Lm, yn_Lx] at e ⊢; omega)))| (refine yJ.cg (yS.J h) (yK.sub x2 ?_) (yK.sub km ?_) <;> (intro k j e; first | rfl | (simp [yk_A, yk_B, yk_C, yk_D, yk_E, yk_F, yk_G, yk_M, yk_I, yk_J, yk_L, yk_Lx, yk_Lm, yk_N, yk_U, yn_cx, yn_cm, yn_Lx, yn_Lm, yn_Lx] at e ⊢; omega)))| (refine yL.cg (yS.L h) (yK.sub x2 ?_) (yK.sub km ?_) <;> (intro k j e; first | rfl | (simp [yk_A, yk_B, yk_C, yk_D, yk_E, yk_F, yk_G, yk_M, yk_I, yk_J, yk_L, yk_Lx, yk_Lm, yk_N, yk_U, yn_cx, yn_cm, yn_Lx, yn_Lm, yn_Lx] at e ⊢; omega)))| (refine yM.cg (yM.up (yS.R h) (by omega)) (yK.sub x2 ?_) (yK.sub km ?_) <;> (intro k j e; first | rfl | (simp [yk_A, yk_B, yk_C, yk_D, yk_E, yk_F, yk_G, yk_M, yk_I, yk_J, yk_L, yk_Lx, yk_Lm, yk_N, yk_U, yn_cx, yn_cm, yn_Lx, yn_Lm, yn_Lx] at e ⊢; omega)))| (refine yN.cg (yS.N h) (yK.sub x2 ?_) x3 <;> (intro k j e; first | rfl | (simp [yk_A, yk_B, yk_C, yk_D, yk_E, yk_F, yk_G, yk_M, yk_I, yk_J, yk_L, yk_Lx, yk_Lm, yk_N, yk_U, yn_cx, yn_cm, yn_Lx, yn_Lm, yn_Lx] at e ⊢; omega)))| (refine yU.cg (yS.U h) (yK.sub km ?_) <;> (intro k j e; first | rfl | (simp [yk_A, yk_B, yk_C, yk_D, yk_E, yk_F, yk_G, yk_M, yk_I, yk_J, yk_L, yk_Lx, yk_Lm, yk_N, yk_U, yn_cx, yn_cm, yn_Lx, yn_Lm, yn_Lx] at e ⊢; omega)))))
            · intro s s1 s2
              have Es := h.E s s1 s2
              by_cases q : s = t
              · subst q
                refine yE.add Es n4 v (by rw [yy_same]) (fun i i1 i2 => ?_) x5.1 x5.2.1 x5.2.2.1 x5.2.2.2.1 x5.2.2.2.2.1 x5.2.2.2.2.2.1 x5.2.2.2.2.2.2.1 x5.2.2.2.2.2.2.2
                by_cases z : i = zz_h M 64 1 s
                · simp [zz_h_w, z]
                · simp [zz_h_w, z]
              · have nrs := Es.nr
                refine Es.cg2 (fun j => x4 (s + 1) j (by omega)) (by rw [yy_slot q]; rfl) (fun i i1 i2 => ?_)
                have z : ¬ 4 * s + i = 4 * t + zz_h M 64 1 t := by omega
                simp [zz_h_w, z]
            · have u1 : yU (zz_w M 65 1 (4 * t + zz_h M 64 1 t) f) := h.U.cg (yK.rf.w rfl)
              have u2 : yU (zz_w (zz_w M 65 1 (4 * t + zz_h M 64 1 t) f) 66 1 (4 * t + zz_h M 64 1 t) a) := u1.cg (yK.rf.w rfl)
              have u3 : yU (zz_w (zz_w (zz_w M 65 1 (4 * t + zz_h M 64 1 t) f) 66 1 (4 * t + zz_h M 64 1 t) a) 67 1 (4 * t + zz_h M 64 1 t) b) := u2.cg (yK.rf.w rfl)
              exact u3.wr (by decide) g.2
          exact ⟨_, _, _, rfl, rfl, aw, dl, h'.up (by rw [yy_kind (by decide), yy_kind (by decide), yy_kind (by decide), yy_kind (by decide)]; omega)⟩
      · rw [yi_neg v, if_pos rfl, if_pos rfl]
        exact ⟨_, _, _, rfl, rfl, hW.up (by omega)⟩
    · rw [if_neg k, if_neg k]
      exact ⟨_, _, _, rfl, rfl, hW.up (by omega)⟩
  · refine hW.q ⟨-2, ?_, ?_⟩
    · unfold x_calendar
      rw [x_taskAt_out h g, Option.bind_some]
      rfl
    · unfold m_calendar
      rw [m_isTask_ok _ _ nr, if_neg g, Option.bind_some]
      rfl
