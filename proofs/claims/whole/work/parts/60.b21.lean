/-! STAGE B: what is fired moves on -/
def yn_fm (k : Nat) (_j : Int) : Bool := !(k == 62 || k == 63)
theorem m_treat_fire : ∀ (k n i : Nat) (M : zz_S), (i : Int) + k = zz_h M 40 1 9 → zz_h M 40 1 9 ≤ 60 → k < n → (∀ t, 0 ≤ t → t < zz_h M 40 1 9 → zz_h M 63 1 t = 0 ∨ zz_h M 63 1 t = 1) → ∃ M', m_treat_2 n (zz_h M 40 1 0) i M = m_treat_37 zz_fu (zz_h M 40 1 0) 0 M' ∧ yK yn_fm M M' ∧ (∀ t : Int, i ≤ t → t < zz_h M 40 1 9 → zz_h M' 62 1 t = zz_h M 63 1 t ∧ zz_h M' 63 1 t = 0) ∧ (∀ t : Int, ¬ (i ≤ t ∧ t < zz_h M 40 1 9) → zz_h M' 63 1 t = zz_h M 63 1 t ∧ zz_h M' 62 1 t = zz_h M 62 1 t) := by
  intro k
  induction k with
  | zero =>
    intro n i M a h60 b ho
    obtain ⟨n, rfl⟩ : ∃ q, n = q + 1 := ⟨n - 1, by omega⟩
    refine ⟨M, ?_, yK.rf, fun t h1 h2 => by omega, fun t _ => ⟨rfl, rfl⟩⟩
    rw [m_treat_2, if_neg (by omega)]
  | succ k ih =>
    intro n i M a h60 b ho
    obtain ⟨n, rfl⟩ : ∃ q, n = q + 1 := ⟨n - 1, by omega⟩
    have rz : zz_r ((i : Int) + 1) = ((i + 1 : Nat) : Int) := by rw [yy_r (by omega) (by omega)]; omega
    have b62 : zz_b M 62 1 (i : Int) := ⟨by omega, by rw [ya_62]; omega⟩
    have b63 : zz_b M 63 1 (i : Int) := ⟨by omega, by rw [ya_63]; omega⟩
    have o := ho i (by omega) (by omega)
    obtain ⟨M', e1, e2, e3, e4⟩ := ih n (i + 1) (zz_w (zz_w M 62 1 (i : Int) (zz_h M 63 1 i)) 63 1 (i : Int) 0) (by rw [yy_kind (by decide), yy_kind (by decide)]; omega) h60 (by omega) (fun t h1 h2 => by
      by_cases q : t = i
      · simp [zz_h_w, q]
      · simpa [zz_h_w, q] using ho t h1 h2)
    have n9 : zz_h (zz_w (zz_w M 62 1 (i : Int) (zz_h M 63 1 i)) 63 1 (i : Int) 0) 40 1 9 = zz_h M 40 1 9 := rfl
    rw [n9] at e3 e4
    refine ⟨M', ?_, (show yK yn_fm M _ from by (repeat (first | refine yK.w ?_ rfl | exact yK.rf))).tr e2, ?_, ?_⟩
    · rw [m_treat_2, if_pos (by omega), if_pos b63, if_pos b62, if_pos o]
      dsimp only
      rw [if_pos (show zz_b (zz_w M 62 1 (i : Int) (zz_h M 63 1 i)) 63 1 (i : Int) from b63), rz]
      exact e1
    · intro t h1 h2
      by_cases q : t = i
      · have := e4 t (by omega)
        subst q
        rw [this.1, this.2]
        simp [zz_h_w]
      · have := e3 t (by omega) h2
        rw [this.1, this.2]
        simp [zz_h_w, q]
    · intro t h1
      have q : ¬ t = i := by omega
      have := e4 t (by omega)
      rw [this.1, this.2]
      simp [zz_h_w, q]
theorem yS.fireOn {b : Int} {aw : List Int} {dl : List yd} {X M : zz_S} (h : yS 0 b aw dl X M) : ∃ M', m_treat (zz_h M 40 1 0) M = m_treat_37 zz_fu (zz_h M 40 1 0) 0 M' ∧ yS 1 b aw dl X M' ∧ yK yn_fm M M' := by
  have nr := h.A.nr
  have fu := yy_fu
  have tr := h.A.tr
  obtain ⟨M', e1, e2, e3, e4⟩ := m_treat_fire (zz_h M 40 1 9).toNat zz_fu 0 M (by omega) nr.2 (by omega) (fun t h1 h2 => by
    rcases (h.D t h1 h2).c with q | q
    · exact Or.inl q.1
    · exact Or.inr q.1)
  refine ⟨M', e1, ?_, e2⟩
  have kx : yK (fun _ _ => true) X X := yK.rf
  have hq : yQ X X := yQ.rf
  (refine yS.by_ h ?_ ?_ ?_ ?_ ?_ ?_ ?_ ?_ ?_ ?_ ?_ ?_ ?_ ?_ ?_ ?_ <;> try (first | (exact e2 40 1 9 rfl)| (exact e2 40 1 42 rfl)| (exact e2 40 1 0 rfl)| (refine yA.cg (yS.A h) (yK.sub kx ?_) (yK.sub e2 ?_) <;> (intro k j e; first | rfl | (simp [yk_A, yk_B, yk_C, yk_D, yk_E, yk_F, yk_G, yk_M, yk_I, yk_J, yk_L, yk_Lx, yk_Lm, yk_N, yk_U, yn_cx, yn_cm, yn_Lx, yn_Lm, yn_fm] at e ⊢; omega)))| (intro t h1 h2; refine yB.cg (yS.B h t h1 h2) (yK.sub kx ?_) (yK.sub e2 ?_) <;> (intro k j e; first | rfl | (simp [yk_A, yk_B, yk_C, yk_D, yk_E, yk_F, yk_G, yk_M, yk_I, yk_J, yk_L, yk_Lx, yk_Lm, yk_N, yk_U, yn_cx, yn_cm, yn_Lx, yn_Lm, yn_fm] at e ⊢; omega)))| (intro t h1 h2; refine yC.cg (yC.up (yS.C h t h1 h2) (by omega)) (yK.sub kx ?_) (yK.sub e2 ?_) <;> (intro k j e; first | rfl | (simp [yk_A, yk_B, yk_C, yk_D, yk_E, yk_F, yk_G, yk_M, yk_I, yk_J, yk_L, yk_Lx, yk_Lm, yk_N, yk_U, yn_cx, yn_cm, yn_Lx, yn_Lm, yn_fm] at e ⊢; omega)))| (intro t h1 h2; refine yD.cg (yS.D h t h1 h2) (yK.sub kx ?_) (yK.sub e2 ?_) <;> (intro k j e; first | rfl | (simp [yk_A, yk_B, yk_C, yk_D, yk_E, yk_F, yk_G, yk_M, yk_I, yk_J, yk_L, yk_Lx, yk_Lm, yk_N, yk_U, yn_cx, yn_cm, yn_Lx, yn_Lm, yn_fm] at e ⊢; omega)))| (intro t h1 h2; refine yE.cg (yS.E h t h1 h2) (yK.sub kx ?_) (yK.sub e2 ?_) <;> (intro k j e; first | rfl | (simp [yk_A, yk_B, yk_C, yk_D, yk_E, yk_F, yk_G, yk_M, yk_I, yk_J, yk_L, yk_Lx, yk_Lm, yk_N, yk_U, yn_cx, yn_cm, yn_Lx, yn_Lm, yn_fm] at e ⊢; omega)))| (intro t h1 h2; refine yF.cg (yS.F h t h1 h2) (yK.sub kx ?_) (yK.sub e2 ?_) <;> (intro k j e; first | rfl | (simp [yk_A, yk_B, yk_C, yk_D, yk_E, yk_F, yk_G, yk_M, yk_I, yk_J, yk_L, yk_Lx, yk_Lm, yk_N, yk_U, yn_cx, yn_cm, yn_Lx, yn_Lm, yn_fm] at e ⊢; omega)))| (refine yG.cg (yS.G h) (yK.sub kx ?_) (yK.sub e2 ?_) <;> (intro k j e; first | rfl | (simp [yk_A, yk_B, yk_C, yk_D, yk_E, yk_F, yk_G, yk_M, yk_I, yk_J, yk_L, yk_Lx, yk_Lm, yk_N, yk_U, yn_cx, yn_cm, yn_Lx, yn_Lm, yn_fm] at e ⊢; omega)))| (intro t h1 h2; refine yI.cg (yS.I h t h1 h2) (yK.sub kx ?_) (yK.sub e2 ?_) <;> (intro k j e; first | rfl | (simp [yk_A, yk_B, yk_C, yk_D, yk_E, yk_F, yk_G, yk_M, yk_I, yk_J, yk_L, yk_Lx, yk_Lm, yk_N, yk_U, yn_cx, yn_cm, yn_Lx, yn_Lm, yn_fm] at e ⊢; omega)))| (refine yJ.cg (yS.J h) (yK.sub kx ?_) (yK.sub e2 ?_) <;> (intro k j e; first | rfl | (simp [yk_A, yk_B, yk_C, yk_D, yk_E, yk_F, yk_G, yk_M, yk_I, yk_J, yk_L, yk_Lx, yk_Lm, yk_N, yk_U, yn_cx, yn_cm, yn_Lx, yn_Lm, yn_fm] at e ⊢; omega)))| (refine yL.cg (yS.L h) (yK.sub kx ?_) (yK.sub e2 ?_) <;> (intro k j e; first | rfl | (simp [yk_A, yk_B, yk_C, yk_D, yk_E, yk_F, yk_G, yk_M, yk_I, yk_J, yk_L, yk_Lx, yk_Lm, yk_N, yk_U, yn_cx, yn_cm, yn_Lx, yn_Lm, yn_fm] at e ⊢; omega)))| (refine yM.cg (yM.up (yS.R h) (by omega)) (yK.sub kx ?_) (yK.sub e2 ?_) <;> (intro k j e; first | rfl | (simp [yk_A, yk_B, yk_C, yk_D, yk_E, yk_F, yk_G, yk_M, yk_I, yk_J, yk_L, yk_Lx, yk_Lm, yk_N, yk_U, yn_cx, yn_cm, yn_Lx, yn_Lm, yn_fm] at e ⊢; omega)))| (refine yN.cg (yS.N h) (yK.sub kx ?_) hq <;> (intro k j e; first | rfl | (simp [yk_A, yk_B, yk_C, yk_D, yk_E, yk_F, yk_G, yk_M, yk_I, yk_J, yk_L, yk_Lx, yk_Lm, yk_N, yk_U, yn_cx, yn_cm, yn_Lx, yn_Lm, yn_fm] at e ⊢; omega)))| (refine yU.cg (yS.U h) (yK.sub e2 ?_) <;> (intro k j e; first | rfl | (simp [yk_A, yk_B, yk_C, yk_D, yk_E, yk_F, yk_G, yk_M, yk_I, yk_J, yk_L, yk_Lx, yk_Lm, yk_N, yk_U, yn_cx, yn_cm, yn_Lx, yn_Lm, yn_fm] at e ⊢; omega)))))
  · intro t h1 h2
    have d := h.D t h1 h2
    have c := d.c
    have m := d.m
    have o := d.o
    obtain ⟨f1, f2⟩ := e3 t (by omega) h2
    unfold yD
    rw [f1, f2]
    refine ⟨fun _ => by omega, Or.inl ⟨rfl, by omega⟩, by omega, o⟩
  · intro t h1 h2
    have n9 := e2 40 1 9 rfl
    rw [n9] at h1
    refine (h.U t h1 h2).cg fun k e => ?_
    by_cases c : k = 63
    · subst c
      exact (e4 t (by omega)).1
    · exact e2 k 1 t (by
        simp [yk_U, yn_fm] at e ⊢
        omega)
