/-! STAGE B: primitives -/
theorem yS.up {e : Nat} {b c : Int} {aw : List Int} {dl : List yd} {X M : zz_S} (h : yS e b aw dl X M) (hc : b ≤ c) : yS e c aw dl X M := by
  unfold yS
  exact ⟨h.A, h.B, fun t h1 h2 => (h.C t h1 h2).up hc, h.D, h.E, h.F, h.G, h.I, h.J, h.L, h.R.up hc, h.N, h.U⟩
-- keys kept, group by group
def yk_A' (p : Nat → Int → Bool) : Prop := ∀ k j, yk_A k j = true → p k j = true
/-- the relation after a step: each group by its keys, or by a proof of its own -/
theorem yS.by_ {e e' : Nat} {b b0 : Int} {aw aw' : List Int} {dl dl' : List yd} {X M X' M' : zz_S} (_h : yS e b0 aw dl X M)
    (A : yA X' M') (n : zz_h M' 40 1 9 = zz_h M 40 1 9) (r : zz_h M' 40 1 42 = zz_h M 40 1 42) (u : zz_h M' 40 1 0 = zz_h M 40 1 0)
    (B : ∀ t, 0 ≤ t → t < zz_h M 40 1 9 → yB t X' M') (C : ∀ t, 0 ≤ t → t < zz_h M 40 1 9 → yC b t X' M')
    (D : ∀ t, 0 ≤ t → t < zz_h M 40 1 9 → yD e' (zz_h M 40 1 0) t X' M') (E : ∀ t, 0 ≤ t → t < zz_h M 40 1 9 → yE t X' M')
    (F : ∀ t, 0 ≤ t → t < zz_h M 40 1 9 → yF t X' M') (G : yG X' M') (I : ∀ t, 0 ≤ t → t < zz_h M 40 1 42 → yI t X' M')
    (J : yJ aw' X' M') (L : yL dl' X' M') (R : yM b X' M') (N : yN X') (U : yU M') : yS e' b aw' dl' X' M' := by
  unfold yS
  exact ⟨A, by rw [n]; exact B, by rw [n]; exact C, by rw [n, u]; exact D, by rw [n]; exact E, by rw [n]; exact F, G, by rw [r]; exact I, J, L, R, N, U⟩
/-- one row of the book, on both sides -/
theorem yS.book {e : Nat} {b : Int} {aw : List Int} {dl : List yd} {X M : zz_S} (h : yS e b aw dl X M) (hb : b < 2000000000) (t u f : Int) :
    ∃ X' M', xB_add t u f X = some (0, X') ∧ m_books t u f M = some (0, M') ∧ yS e (b + 1) aw dl X' M' ∧
      yK (fun k j => !(k == 22 || k == 23 || k == 24 || (k == 5 && j == 3))) X X' ∧ yK (fun k j => !(k == 88 || k == 89 || k == 90 || (k == 40 && j == 57))) M M' := by
  have hk := h.R.k
  have hr := h.R.kr
  have e1 : zz_r (zz_h M 40 1 57 + 1) = zz_h M 40 1 57 + 1 := yy_r (by omega) (by omega)
  unfold xB_add m_books
  dsimp only
  rw [hk]
  by_cases c : zz_h M 40 1 57 < 300
  · rw [if_pos c, if_pos c, if_pos (show zz_b X 22 1 (zz_h M 40 1 57) from ⟨hr.1, by rw [ya_22]; exact c⟩), if_pos (show zz_b M 88 1 (zz_h M 40 1 57) from ⟨hr.1, by rw [ya_88]; exact c⟩)]
    have k1 : zz_h (zz_w X 22 1 (zz_h M 40 1 57) t) 5 1 3 = zz_h M 40 1 57 := hk
    have k2 : zz_h (zz_w (zz_w X 22 1 (zz_h M 40 1 57) t) 23 1 (zz_h M 40 1 57) u) 5 1 3 = zz_h M 40 1 57 := hk
    have k3 : zz_h (zz_w (zz_w (zz_w X 22 1 (zz_h M 40 1 57) t) 23 1 (zz_h M 40 1 57) u) 24 1 (zz_h M 40 1 57) f) 5 1 3 = zz_h M 40 1 57 := hk
    have k4 : zz_h (zz_w M 88 1 (zz_h M 40 1 57) t) 40 1 57 = zz_h M 40 1 57 := rfl
    have k5 : zz_h (zz_w (zz_w M 88 1 (zz_h M 40 1 57) t) 89 1 (zz_h M 40 1 57) u) 40 1 57 = zz_h M 40 1 57 := rfl
    have k6 : zz_h (zz_w (zz_w (zz_w M 88 1 (zz_h M 40 1 57) t) 89 1 (zz_h M 40 1 57) u) 90 1 (zz_h M 40 1 57) f) 40 1 57 = zz_h M 40 1 57 := rfl
    rw [k1, k4, if_pos (show zz_b _ 23 1 (zz_h M 40 1 57) from ⟨hr.1, by rw [ya_23]; exact c⟩), if_pos (show zz_b _ 89 1 (zz_h M 40 1 57) from ⟨hr.1, by rw [ya_89]; exact c⟩)]
    rw [k2, k5, if_pos (show zz_b _ 24 1 (zz_h M 40 1 57) from ⟨hr.1, by rw [ya_24]; exact c⟩), if_pos (show zz_b _ 90 1 (zz_h M 40 1 57) from ⟨hr.1, by rw [ya_90]; exact c⟩)]
    rw [k3, k6, e1]
    refine ⟨_, _, rfl, rfl, ?_, by (repeat (first | refine yK.w ?_ rfl | exact yK.rf)), by (repeat (first | refine yK.w ?_ rfl | exact yK.rf))⟩
    (refine yS.by_ h ?_ rfl rfl rfl ?_ ?_ ?_ ?_ ?_ ?_ ?_ ?_ ?_ ?_ ?_ ?_ <;> try (first | (refine yA.cg (yS.A h) ?_ ?_ <;> ((repeat (first | refine yK.w ?_ rfl | exact yK.rf)); done))| (intro t h1 h2; refine yB.cg (yS.B h t h1 h2) ?_ ?_ <;> ((repeat (first | refine yK.w ?_ rfl | exact yK.rf)); done))| (intro t h1 h2; refine yC.cg (yC.up (yS.C h t h1 h2) (by omega)) ?_ ?_ <;> ((repeat (first | refine yK.w ?_ rfl | exact yK.rf)); done))| (intro t h1 h2; refine yD.cg (yS.D h t h1 h2) ?_ ?_ <;> ((repeat (first | refine yK.w ?_ rfl | exact yK.rf)); done))| (intro t h1 h2; refine yE.cg (yS.E h t h1 h2) ?_ ?_ <;> ((repeat (first | refine yK.w ?_ rfl | exact yK.rf)); done))| (intro t h1 h2; refine yF.cg (yS.F h t h1 h2) ?_ ?_ <;> ((repeat (first | refine yK.w ?_ rfl | exact yK.rf)); done))| (refine yG.cg (yS.G h) ?_ ?_ <;> ((repeat (first | refine yK.w ?_ rfl | exact yK.rf)); done))| (intro t h1 h2; refine yI.cg (yS.I h t h1 h2) ?_ ?_ <;> ((repeat (first | refine yK.w ?_ rfl | exact yK.rf)); done))| (refine yJ.cg (yS.J h) ?_ ?_ <;> ((repeat (first | refine yK.w ?_ rfl | exact yK.rf)); done))| (refine yL.cg (yS.L h) ?_ ?_ <;> ((repeat (first | refine yK.w ?_ rfl | exact yK.rf)); done))| (refine yM.cg (yM.up (yS.R h) (by omega)) ?_ ?_ <;> ((repeat (first | refine yK.w ?_ rfl | exact yK.rf)); done))| (refine yN.cg (yS.N h) ?_ (fun _ => ⟨rfl, rfl⟩) <;> ((repeat (first | refine yK.w ?_ rfl | exact yK.rf)); done))| (refine yU.cg (yS.U h) ?_ <;> ((repeat (first | refine yK.w ?_ rfl | exact yK.rf)); done))))
    have ra := h.R.a
    have rb := h.R.b
    have rc := h.R.c
    unfold yM
    refine ⟨?_, ?_, ?_, ?_, ?_⟩
    · rfl
    · simp only [zz_h_w]
      simp
      omega
    · intro i h1 h2 h3
      by_cases q : i = zz_h M 40 1 57
      · simp [zz_h_w, q]
      · simp [zz_h_w, q] at h3 ⊢
        exact ra i h1 h2 (by omega)
    · intro i h1 h2 h3
      by_cases q : i = zz_h M 40 1 57
      · simp [zz_h_w, q]
      · simp [zz_h_w, q] at h3 ⊢
        exact rb i h1 h2 (by omega)
    · intro i h1 h2 h3
      by_cases q : i = zz_h M 40 1 57
      · simp [zz_h_w, q]
      · simp [zz_h_w, q] at h3 ⊢
        exact rc i h1 h2 (by omega)
  · rw [if_neg c, if_neg c, e1]
    refine ⟨_, _, rfl, rfl, ?_, by (repeat (first | refine yK.w ?_ rfl | exact yK.rf)), by (repeat (first | refine yK.w ?_ rfl | exact yK.rf))⟩
    (refine yS.by_ h ?_ rfl rfl rfl ?_ ?_ ?_ ?_ ?_ ?_ ?_ ?_ ?_ ?_ ?_ ?_ <;> try (first | (refine yA.cg (yS.A h) ?_ ?_ <;> ((repeat (first | refine yK.w ?_ rfl | exact yK.rf)); done))| (intro t h1 h2; refine yB.cg (yS.B h t h1 h2) ?_ ?_ <;> ((repeat (first | refine yK.w ?_ rfl | exact yK.rf)); done))| (intro t h1 h2; refine yC.cg (yC.up (yS.C h t h1 h2) (by omega)) ?_ ?_ <;> ((repeat (first | refine yK.w ?_ rfl | exact yK.rf)); done))| (intro t h1 h2; refine yD.cg (yS.D h t h1 h2) ?_ ?_ <;> ((repeat (first | refine yK.w ?_ rfl | exact yK.rf)); done))| (intro t h1 h2; refine yE.cg (yS.E h t h1 h2) ?_ ?_ <;> ((repeat (first | refine yK.w ?_ rfl | exact yK.rf)); done))| (intro t h1 h2; refine yF.cg (yS.F h t h1 h2) ?_ ?_ <;> ((repeat (first | refine yK.w ?_ rfl | exact yK.rf)); done))| (refine yG.cg (yS.G h) ?_ ?_ <;> ((repeat (first | refine yK.w ?_ rfl | exact yK.rf)); done))| (intro t h1 h2; refine yI.cg (yS.I h t h1 h2) ?_ ?_ <;> ((repeat (first | refine yK.w ?_ rfl | exact yK.rf)); done))| (refine yJ.cg (yS.J h) ?_ ?_ <;> ((repeat (first | refine yK.w ?_ rfl | exact yK.rf)); done))| (refine yL.cg (yS.L h) ?_ ?_ <;> ((repeat (first | refine yK.w ?_ rfl | exact yK.rf)); done))| (refine yM.cg (yM.up (yS.R h) (by omega)) ?_ ?_ <;> ((repeat (first | refine yK.w ?_ rfl | exact yK.rf)); done))| (refine yN.cg (yS.N h) ?_ (fun _ => ⟨rfl, rfl⟩) <;> ((repeat (first | refine yK.w ?_ rfl | exact yK.rf)); done))| (refine yU.cg (yS.U h) ?_ <;> ((repeat (first | refine yK.w ?_ rfl | exact yK.rf)); done))))
    have ra := h.R.a
    have rb := h.R.b
    have rc := h.R.c
    unfold yM
    refine ⟨?_, ?_, ?_, ?_, ?_⟩
    · rfl
    · simp only [zz_h_w]
      simp
      omega
    · intro i h1 h2 h3
      simp [zz_h_w] at h3 ⊢
      exact ra i h1 h2 (by omega)
    · intro i h1 h2 h3
      simp [zz_h_w] at h3 ⊢
      exact rb i h1 h2 (by omega)
    · intro i h1 h2 h3
      simp [zz_h_w] at h3 ⊢
      exact rc i h1 h2 (by omega)
