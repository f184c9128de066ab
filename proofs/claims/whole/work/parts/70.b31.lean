/-! STAGE B: what the house is told -/
theorem yw_none (M : zz_S) : ∀ n : Nat, (∀ w : Int, 0 ≤ w → w < n → zz_h M 41 1 w = -1) → yw M n = []
  | 0, _ => rfl
  | n + 1, h => by rw [yw, if_pos (h n (by omega) (by omega)), yw_none M n (fun w a b => h w a (by omega))]
theorem yW.go {c : Int} {X M : zz_S} (hW : yW c X M) : yR c x_go m_go X M := by
  obtain ⟨aw, dl, h⟩ := hW
  unfold yR x_go m_go
  rw [h.A.s]
  by_cases g : zz_h M 40 1 3 = 0
  · rw [if_pos g, if_pos g]
    exact ⟨_, _, _, rfl, rfl, aw, dl, h.up (by omega)⟩
  · rw [if_neg g, if_neg g]
    have h' : yS 0 (50000 * c + 1100 * zz_h M 40 1 0) aw dl (zz_w X 3 1 19 0) (zz_w M 40 1 3 0) := by
      (refine yS.by_ h ?_ rfl rfl rfl ?_ ?_ ?_ ?_ ?_ ?_ ?_ ?_ ?_ ?_ ?_ ?_ <;> try (first | (refine yA.cg (yS.A h) ?_ ?_ <;> ((repeat (first | refine yK.w ?_ rfl | exact yK.rf)); done))| (intro t h1 h2; refine yB.cg (yS.B h t h1 h2) ?_ ?_ <;> ((repeat (first | refine yK.w ?_ rfl | exact yK.rf)); done))| (intro t h1 h2; refine yC.cg (yC.up (yS.C h t h1 h2) (by omega)) ?_ ?_ <;> ((repeat (first | refine yK.w ?_ rfl | exact yK.rf)); done))| (intro t h1 h2; refine yD.cg (yS.D h t h1 h2) ?_ ?_ <;> ((repeat (first | refine yK.w ?_ rfl | exact yK.rf)); done))| (intro t h1 h2; refine yE.cg (yS.E h t h1 h2) ?_ ?_ <;> ((repeat (first | refine yK.w ?_ rfl | exact yK.rf)); done))| (intro t h1 h2; refine yF.cg (yS.F h t h1 h2) ?_ ?_ <;> ((repeat (first | refine yK.w ?_ rfl | exact yK.rf)); done))| (refine yG.cg (yS.G h) ?_ ?_ <;> ((repeat (first | refine yK.w ?_ rfl | exact yK.rf)); done))| (intro t h1 h2; refine yI.cg (yS.I h t h1 h2) ?_ ?_ <;> ((repeat (first | refine yK.w ?_ rfl | exact yK.rf)); done))| (refine yJ.cg (yS.J h) ?_ ?_ <;> ((repeat (first | refine yK.w ?_ rfl | exact yK.rf)); done))| (refine yL.cg (yS.L h) ?_ ?_ <;> ((repeat (first | refine yK.w ?_ rfl | exact yK.rf)); done))| (refine yM.cg (yM.up (yS.R h) (by omega)) ?_ ?_ <;> ((repeat (first | refine yK.w ?_ rfl | exact yK.rf)); done))| (refine yN.cg (yS.N h) ?_ (fun _ => ⟨rfl, rfl⟩) <;> ((repeat (first | refine yK.w ?_ rfl | exact yK.rf)); done))| (refine yU.cg (yS.U h) ?_ <;> ((repeat (first | refine yK.w ?_ rfl | exact yK.rf)); done))))
      have a := h.A
      unfold yA
      exact ⟨a.n, a.nr, a.r, a.rr, a.g, a.gr, a.w, a.wr, a.t, a.tr, a.o, a.or, a.to, a.h, a.hr, rfl, Or.inl rfl, a.p, a.pr⟩
    exact ⟨_, _, _, rfl, rfl, aw, dl, h'.up (by rw [yy_slot (by decide)]; omega)⟩
theorem yW.clearPlan {c : Int} {X M : zz_S} (hW : yW c X M) : yR c x_clearPlan m_clearPlan X M := by
  obtain ⟨aw, dl, h⟩ := hW
  have h' : yS 0 (50000 * c + 1100 * zz_h M 40 1 0) aw dl (zz_w X 6 1 3 0) (zz_w M 40 1 37 0) := by
    (refine yS.by_ h ?_ rfl rfl rfl ?_ ?_ ?_ ?_ ?_ ?_ ?_ ?_ ?_ ?_ ?_ ?_ <;> try (first | (refine yA.cg (yS.A h) ?_ ?_ <;> ((repeat (first | refine yK.w ?_ rfl | exact yK.rf)); done))| (intro t h1 h2; refine yB.cg (yS.B h t h1 h2) ?_ ?_ <;> ((repeat (first | refine yK.w ?_ rfl | exact yK.rf)); done))| (intro t h1 h2; refine yC.cg (yC.up (yS.C h t h1 h2) (by omega)) ?_ ?_ <;> ((repeat (first | refine yK.w ?_ rfl | exact yK.rf)); done))| (intro t h1 h2; refine yD.cg (yS.D h t h1 h2) ?_ ?_ <;> ((repeat (first | refine yK.w ?_ rfl | exact yK.rf)); done))| (intro t h1 h2; refine yE.cg (yS.E h t h1 h2) ?_ ?_ <;> ((repeat (first | refine yK.w ?_ rfl | exact yK.rf)); done))| (intro t h1 h2; refine yF.cg (yS.F h t h1 h2) ?_ ?_ <;> ((repeat (first | refine yK.w ?_ rfl | exact yK.rf)); done))| (refine yG.cg (yS.G h) ?_ ?_ <;> ((repeat (first | refine yK.w ?_ rfl | exact yK.rf)); done))| (intro t h1 h2; refine yI.cg (yS.I h t h1 h2) ?_ ?_ <;> ((repeat (first | refine yK.w ?_ rfl | exact yK.rf)); done))| (refine yJ.cg (yS.J h) ?_ ?_ <;> ((repeat (first | refine yK.w ?_ rfl | exact yK.rf)); done))| (refine yL.cg (yS.L h) ?_ ?_ <;> ((repeat (first | refine yK.w ?_ rfl | exact yK.rf)); done))| (refine yM.cg (yM.up (yS.R h) (by omega)) ?_ ?_ <;> ((repeat (first | refine yK.w ?_ rfl | exact yK.rf)); done))| (refine yN.cg (yS.N h) ?_ (fun _ => ⟨rfl, rfl⟩) <;> ((repeat (first | refine yK.w ?_ rfl | exact yK.rf)); done))| (refine yU.cg (yS.U h) ?_ <;> ((repeat (first | refine yK.w ?_ rfl | exact yK.rf)); done))))
    · have a := h.A
      unfold yA
      exact ⟨a.n, a.nr, a.r, a.rr, a.g, a.gr, a.w, a.wr, a.t, a.tr, a.o, a.or, a.to, a.h, a.hr, a.s, a.sr, rfl, ⟨Int.le_refl _, by rw [yy_same]; decide⟩⟩
    · have a := h.G
      unfold yG
      rw [yy_same]
      exact ⟨a.g, fun i h1 h2 => by omega, fun i h1 h2 => by omega, fun i h1 h2 => by omega, a.c, a.d⟩
  unfold yR x_clearPlan m_clearPlan
  rw [h.A.p]
  exact ⟨_, _, _, rfl, rfl, aw, dl, h'.up (by rw [yy_slot (by decide)]; omega)⟩
theorem yS.workers_loop {e : Nat} {b : Int} {aw : List Int} {dl : List yd} (v : Int) : ∀ (k n m w : Nat) (X M : zz_S), yS e b aw dl X M → w + k = 8 → k < n → k < m → ∃ X' M', x_workers_30 n v w X = some (v, X') ∧ m_workers_30 m v w M = some (v, M') ∧ yS e b aw dl X' M' ∧ yK (fun k _ => !(k == 42)) M M' := by
  intro k
  induction k with
  | zero =>
    intro n m w X M h a c d
    obtain ⟨n, rfl⟩ : ∃ q, n = q + 1 := ⟨n - 1, by omega⟩
    obtain ⟨m, rfl⟩ : ∃ q, m = q + 1 := ⟨m - 1, by omega⟩
    refine ⟨X, M, ?_, ?_, h, yK.rf⟩
    · rw [x_workers_30, if_neg (by omega)]
    · rw [m_workers_30, if_neg (by omega)]
  | succ k ih =>
    intro n m w X M h a c d
    obtain ⟨n, rfl⟩ : ∃ q, n = q + 1 := ⟨n - 1, by omega⟩
    obtain ⟨m, rfl⟩ : ∃ q, m = q + 1 := ⟨m - 1, by omega⟩
    have r : zz_r ((w : Int) + 1) = ((w + 1 : Nat) : Int) := by rw [yy_r (by omega) (by omega)]; omega
    obtain ⟨X', M', z1, z2, z3, z4⟩ := ih n m (w + 1) _ _ (h.setIdle w 0) (by omega) (by omega) (by omega)
    refine ⟨X', M', ?_, ?_, z3, (show yK _ M (zz_w M 42 1 (w : Int) 0) from by (repeat (first | refine yK.w ?_ rfl | exact yK.rf))).tr z4⟩
    · rw [x_workers_30, if_pos (by omega), if_pos (show zz_b X 15 1 (w : Int) from ⟨by omega, by rw [ya_15]; omega⟩), r]
      exact z1
    · rw [m_workers_30, if_pos (by omega), if_pos (show zz_b M 42 1 (w : Int) from ⟨by omega, by rw [ya_42]; omega⟩), r]
      exact z2
theorem yW.workers {c : Int} {X M : zz_S} (hW : yW c X M) (v : Int) : yR c (x_workers v) (m_workers v) X M := by
  obtain ⟨aw, dl, h⟩ := hW
  have fu := yy_fu
  have wr := h.A.wr
  have hW : yW c X M := ⟨aw, dl, h⟩
  by_cases g : 1 ≤ v ∧ v ≤ 8
  · by_cases k : (aw.length : Int) ≤ 0
    · have k0 : aw = [] := List.length_eq_zero_iff.mp (by omega)
      subst k0
      have J := h.J
      have free : ∀ w : Int, 0 ≤ w → w < 8 → zz_h X 16 1 w = 0 ∧ zz_h M 41 1 w = -1 := by
        intro w h1 h2
        rcases J.bu w h1 h2 with q | ⟨-, -, q, -⟩
        · exact q
        · exact absurd q (by simp)
      have h' : yS 0 (50000 * c + 1100 * zz_h M 40 1 0) [] dl (zz_w X 3 1 15 v) (zz_w M 40 1 4 v) := by
        (refine yS.by_ h ?_ rfl rfl rfl ?_ ?_ ?_ ?_ ?_ ?_ ?_ ?_ ?_ ?_ ?_ ?_ <;> try (first | (refine yA.cg (yS.A h) ?_ ?_ <;> ((repeat (first | refine yK.w ?_ rfl | exact yK.rf)); done))| (intro t h1 h2; refine yB.cg (yS.B h t h1 h2) ?_ ?_ <;> ((repeat (first | refine yK.w ?_ rfl | exact yK.rf)); done))| (intro t h1 h2; refine yC.cg (yC.up (yS.C h t h1 h2) (by omega)) ?_ ?_ <;> ((repeat (first | refine yK.w ?_ rfl | exact yK.rf)); done))| (intro t h1 h2; refine yD.cg (yS.D h t h1 h2) ?_ ?_ <;> ((repeat (first | refine yK.w ?_ rfl | exact yK.rf)); done))| (intro t h1 h2; refine yE.cg (yS.E h t h1 h2) ?_ ?_ <;> ((repeat (first | refine yK.w ?_ rfl | exact yK.rf)); done))| (intro t h1 h2; refine yF.cg (yS.F h t h1 h2) ?_ ?_ <;> ((repeat (first | refine yK.w ?_ rfl | exact yK.rf)); done))| (refine yG.cg (yS.G h) ?_ ?_ <;> ((repeat (first | refine yK.w ?_ rfl | exact yK.rf)); done))| (intro t h1 h2; refine yI.cg (yS.I h t h1 h2) ?_ ?_ <;> ((repeat (first | refine yK.w ?_ rfl | exact yK.rf)); done))| (refine yJ.cg (yS.J h) ?_ ?_ <;> ((repeat (first | refine yK.w ?_ rfl | exact yK.rf)); done))| (refine yL.cg (yS.L h) ?_ ?_ <;> ((repeat (first | refine yK.w ?_ rfl | exact yK.rf)); done))| (refine yM.cg (yM.up (yS.R h) (by omega)) ?_ ?_ <;> ((repeat (first | refine yK.w ?_ rfl | exact yK.rf)); done))| (refine yN.cg (yS.N h) ?_ (fun _ => ⟨rfl, rfl⟩) <;> ((repeat (first | refine yK.w ?_ rfl | exact yK.rf)); done))| (refine yU.cg (yS.U h) ?_ <;> ((repeat (first | refine yK.w ?_ rfl | exact yK.rf)); done))))
        · have a := h.A
          unfold yA
          exact ⟨a.n, a.nr, a.r, a.rr, a.g, a.gr, rfl, g, a.t, a.tr, a.o, a.or, a.to, a.h, a.hr, a.s, a.sr, a.p, a.pr⟩
        · unfold yJ
          refine ⟨J.le, J.at_, J.mem, J.so, fun r hr => absurd hr (by simp), fun w h1 h2 => Or.inl (free w h1 h2), ?_, J.wo⟩
          rw [yy_same, yw_none _ _ (fun w h1 h2 => by
            rw [yy_kind (by decide)]
            exact (free w h1 (by omega)).2)]
      obtain ⟨X', M', e1, e2, e3, e4⟩ := yS.workers_loop v 8 zz_fu zz_fu 0 _ _ h' (by omega) (by omega) (by omega)
      refine yW.w v e3 ?_ ?_ (by rw [e4 40 1 0 rfl, yy_slot (by decide)]; omega)
      · unfold x_workers
        rw [x_isWithin_ok, Option.bind_some, if_pos g, if_neg yy_10]
        dsimp only
        rw [J.le, if_pos k]
        exact e1
      · unfold m_workers
        rw [m_in_ok, Option.bind_some, if_pos g, if_neg yy_10]
        dsimp only
        rw [h.atWork, Option.bind_some, if_pos k]
        exact e2
    · refine hW.q ⟨-3, ?_, ?_⟩
      · unfold x_workers
        rw [x_isWithin_ok, Option.bind_some, if_pos g, if_neg yy_10]
        dsimp only
        rw [h.J.le, if_neg k]
      · unfold m_workers
        rw [m_in_ok, Option.bind_some, if_pos g, if_neg yy_10]
        dsimp only
        rw [h.atWork, Option.bind_some, if_neg k]
  · refine hW.q ⟨-2, ?_, ?_⟩
    · unfold x_workers
      rw [x_isWithin_ok, Option.bind_some, if_neg g, if_pos rfl]
    · unfold m_workers
      rw [m_in_ok, Option.bind_some, if_neg g, if_pos rfl]
theorem yW.group {c : Int} {X M : zz_S} (hW : yW c X M) (v : Int) : yR c (x_group v) (m_group v) X M := by
  obtain ⟨aw, dl, h⟩ := hW
  have gr := h.A.gr
  have hW : yW c X M := ⟨aw, dl, h⟩
  by_cases g : 1 ≤ v ∧ v ≤ 8
  · by_cases k : zz_h M 40 1 7 = 8
    · refine hW.q ⟨-4, ?_, ?_⟩
      · unfold x_group
        rw [x_isWithin_ok, Option.bind_some, if_pos g, if_neg yy_10]
        dsimp only
        rw [h.A.g, if_neg (by omega)]
      · unfold m_group
        rw [m_in_ok, Option.bind_some, if_pos g, if_neg yy_10]
        dsimp only
        rw [if_pos k]
    · have h' : yS 0 (50000 * c + 1100 * zz_h M 40 1 0) aw dl (zz_w (zz_w X 14 1 (zz_h M 40 1 7) v) 3 1 14 (zz_h M 40 1 7 + 1)) (zz_w (zz_w M 43 1 (zz_h M 40 1 7) v) 40 1 7 (zz_h M 40 1 7 + 1)) := by
        (refine yS.by_ h ?_ rfl rfl rfl ?_ ?_ ?_ ?_ ?_ ?_ ?_ ?_ ?_ ?_ ?_ ?_ <;> try (first | (refine yA.cg (yS.A h) ?_ ?_ <;> ((repeat (first | refine yK.w ?_ rfl | exact yK.rf)); done))| (intro t h1 h2; refine yB.cg (yS.B h t h1 h2) ?_ ?_ <;> ((repeat (first | refine yK.w ?_ rfl | exact yK.rf)); done))| (intro t h1 h2; refine yC.cg (yC.up (yS.C h t h1 h2) (by omega)) ?_ ?_ <;> ((repeat (first | refine yK.w ?_ rfl | exact yK.rf)); done))| (intro t h1 h2; refine yD.cg (yS.D h t h1 h2) ?_ ?_ <;> ((repeat (first | refine yK.w ?_ rfl | exact yK.rf)); done))| (intro t h1 h2; refine yE.cg (yS.E h t h1 h2) ?_ ?_ <;> ((repeat (first | refine yK.w ?_ rfl | exact yK.rf)); done))| (intro t h1 h2; refine yF.cg (yS.F h t h1 h2) ?_ ?_ <;> ((repeat (first | refine yK.w ?_ rfl | exact yK.rf)); done))| (refine yG.cg (yS.G h) ?_ ?_ <;> ((repeat (first | refine yK.w ?_ rfl | exact yK.rf)); done))| (intro t h1 h2; refine yI.cg (yS.I h t h1 h2) ?_ ?_ <;> ((repeat (first | refine yK.w ?_ rfl | exact yK.rf)); done))| (refine yJ.cg (yS.J h) ?_ ?_ <;> ((repeat (first | refine yK.w ?_ rfl | exact yK.rf)); done))| (refine yL.cg (yS.L h) ?_ ?_ <;> ((repeat (first | refine yK.w ?_ rfl | exact yK.rf)); done))| (refine yM.cg (yM.up (yS.R h) (by omega)) ?_ ?_ <;> ((repeat (first | refine yK.w ?_ rfl | exact yK.rf)); done))| (refine yN.cg (yS.N h) ?_ (fun _ => ⟨rfl, rfl⟩) <;> ((repeat (first | refine yK.w ?_ rfl | exact yK.rf)); done))| (refine yU.cg (yS.U h) ?_ <;> ((repeat (first | refine yK.w ?_ rfl | exact yK.rf)); done))))
        · have a := h.A
          unfold yA
          exact ⟨a.n, a.nr, a.r, a.rr, rfl, by rw [yy_same]; omega, a.w, a.wr, a.t, a.tr, a.o, a.or, a.to, a.h, a.hr, a.s, a.sr, a.p, a.pr⟩
        · intro t h1 h2
          have a := h.B t h1 h2
          have r2 := a.r2
          unfold yB
          refine ⟨a.re, a.nu, a.ki, a.kr, a.fi, a.fr, a.ga, a.gr, a.ac, a.ax, a.ay, a.t0, a.r0, a.t1, a.t2, ?_, a.t3, a.r3, a.t4, a.r4, a.t5, a.r5⟩
          rw [yy_same, yy_kind (by decide), yy_kind (by decide)]
          omega
        · have a := h.G
          unfold yG
          refine ⟨fun i h1 h2 => ?_, a.p1, a.p2, a.p3, a.c, a.d⟩
          rw [yy_same] at h2
          rw [yy_kind (show ¬ 14 = 3 by decide), yy_kind (show ¬ 43 = 40 by decide)]
          by_cases q : i = zz_h M 40 1 7
          · rw [q, yy_same, yy_same]
          · rw [yy_slot q, yy_slot q]
            exact a.g i h1 (by omega)
      have r1 : zz_r (zz_h M 40 1 7 + 1) = zz_h M 40 1 7 + 1 := yy_r (by omega) (by omega)
      refine yW.w (zz_h M 40 1 7) h' ?_ ?_ (by rw [yy_slot (by decide), yy_kind (by decide)]; omega)
      · unfold x_group
        rw [x_isWithin_ok, Option.bind_some, if_pos g, if_neg yy_10]
        dsimp only
        rw [h.A.g, if_pos (by omega), if_pos (show zz_b X 14 1 _ from ⟨gr.1, by rw [ya_14]; omega⟩), show zz_h (zz_w X 14 1 (zz_h M 40 1 7) v) 3 1 14 = zz_h M 40 1 7 from h.A.g, r1, yy_same, yy_r (by omega) (by omega)]
        congr 2
        omega
      · unfold m_group
        rw [m_in_ok, Option.bind_some, if_pos g, if_neg yy_10]
        dsimp only
        rw [if_neg k, if_pos (show zz_b M 43 1 _ from ⟨gr.1, by rw [ya_43]; omega⟩), show zz_h (zz_w M 43 1 (zz_h M 40 1 7) v) 40 1 7 = zz_h M 40 1 7 from rfl, r1]
  · refine hW.q ⟨-2, ?_, ?_⟩
    · unfold x_group
      rw [x_isWithin_ok, Option.bind_some, if_neg g, if_pos rfl]
    · unfold m_group
      rw [m_in_ok, Option.bind_some, if_neg g, if_pos rfl]
theorem yW.body {c : Int} {X M : zz_S} (hW : yW c X M) (t v x y : Int) : yR c (x_body t v x y) (m_body t v x y) X M := by
  obtain ⟨aw, dl, h⟩ := hW
  have nr := h.A.nr
  have hW : yW c X M := ⟨aw, dl, h⟩
  by_cases g : 0 ≤ t ∧ t < zz_h M 40 1 9
  · have a1 : ¬ t + 1 = 0 := by omega
    by_cases k : 0 ≤ v ∧ v ≤ 6
    · have h' : yS 0 (50000 * c + 1100 * zz_h M 40 1 0) aw dl (zz_w (zz_w (zz_w X 7 (t + 1) 7 v) 7 (t + 1) 8 x) 7 (t + 1) 9 y) (zz_w (zz_w (zz_w M 53 1 t v) 54 1 t x) 55 1 t y) := by
        (refine yS.by_ h ?_ rfl rfl rfl ?_ ?_ ?_ ?_ ?_ ?_ ?_ ?_ ?_ ?_ ?_ ?_ <;> try (first | (refine yA.cg (yS.A h) ?_ ?_ <;> ((repeat (first | refine yK.w ?_ rfl | exact yK.rf)); done))| (intro t h1 h2; refine yB.cg (yS.B h t h1 h2) ?_ ?_ <;> ((repeat (first | refine yK.w ?_ rfl | exact yK.rf)); done))| (intro t h1 h2; refine yC.cg (yC.up (yS.C h t h1 h2) (by omega)) ?_ ?_ <;> ((repeat (first | refine yK.w ?_ rfl | exact yK.rf)); done))| (intro t h1 h2; refine yD.cg (yS.D h t h1 h2) ?_ ?_ <;> ((repeat (first | refine yK.w ?_ rfl | exact yK.rf)); done))| (intro t h1 h2; refine yE.cg (yS.E h t h1 h2) ?_ ?_ <;> ((repeat (first | refine yK.w ?_ rfl | exact yK.rf)); done))| (intro t h1 h2; refine yF.cg (yS.F h t h1 h2) ?_ ?_ <;> ((repeat (first | refine yK.w ?_ rfl | exact yK.rf)); done))| (refine yG.cg (yS.G h) ?_ ?_ <;> ((repeat (first | refine yK.w ?_ rfl | exact yK.rf)); done))| (intro t h1 h2; refine yI.cg (yS.I h t h1 h2) ?_ ?_ <;> ((repeat (first | refine yK.w ?_ rfl | exact yK.rf)); done))| (refine yJ.cg (yS.J h) ?_ ?_ <;> ((repeat (first | refine yK.w ?_ rfl | exact yK.rf)); done))| (refine yL.cg (yS.L h) ?_ ?_ <;> ((repeat (first | refine yK.w ?_ rfl | exact yK.rf)); done))| (refine yM.cg (yM.up (yS.R h) (by omega)) ?_ ?_ <;> ((repeat (first | refine yK.w ?_ rfl | exact yK.rf)); done))| (refine yN.cg (yS.N h) ?_ (fun _ => ⟨rfl, rfl⟩) <;> ((repeat (first | refine yK.w ?_ rfl | exact yK.rf)); done))| (refine yU.cg (yS.U h) ?_ <;> ((repeat (first | refine yK.w ?_ rfl | exact yK.rf)); done))))
        · intro s h1 h2
          have a := h.B s h1 h2
          unfold yB
          by_cases q : s = t
          · subst q
            exact ⟨a.re, by simpa [zz_h_w] using a.nu, by simpa [zz_h_w] using a.ki, a.kr, by simpa [zz_h_w] using a.fi, a.fr, by simpa [zz_h_w] using a.ga, a.gr, by simp [zz_h_w], by simp [zz_h_w], by simp [zz_h_w], a.t0, a.r0, a.t1, a.t2, a.r2, a.t3, a.r3, a.t4, a.r4, a.t5, a.r5⟩
          · exact ⟨a.re, by simpa [zz_h_w] using a.nu, by simpa [zz_h_w] using a.ki, a.kr, by simpa [zz_h_w] using a.fi, a.fr, by simpa [zz_h_w] using a.ga, a.gr, by simpa [zz_h_w, q] using a.ac, by simpa [zz_h_w, q] using a.ax, by simpa [zz_h_w, q] using a.ay, a.t0, a.r0, a.t1, a.t2, a.r2, a.t3, a.r3, a.t4, a.r4, a.t5, a.r5⟩
        · exact ((h.U.wr (by decide) g.2).wr (by decide) g.2).wr (by decide) g.2
      refine yW.w (zz_h M 53 1 t) h' ?_ ?_ (by rw [yy_kind (by decide), yy_kind (by decide), yy_kind (by decide)]; omega)
      · unfold x_body
        rw [x_taskAt_in h g.1 g.2, Option.bind_some]
        dsimp only
        rw [if_neg a1, x_isWithin_ok, Option.bind_some, if_pos k, if_neg yy_10]
        simp only [a1, if_false, (h.B t g.1 g.2).ac]
      · unfold m_body
        have t60 : t < 60 := by omega
        rw [m_isTask_ok _ _ nr, if_pos g, Option.bind_some, if_neg yy_10, m_in_ok, Option.bind_some, if_pos k, if_neg yy_10]
        simp only [zz_b, ya_11, ya_12, ya_13, ya_14, ya_15, ya_16, ya_17, ya_18, ya_19, ya_20, ya_21, ya_22, ya_23, ya_24, ya_25, ya_26, ya_27, ya_28, ya_29, ya_30, ya_41, ya_42, ya_43, ya_44, ya_45, ya_46, ya_47, ya_48, ya_49, ya_50, ya_51, ya_52, ya_53, ya_54, ya_55, ya_56, ya_57, ya_58, ya_59, ya_60, ya_61, ya_62, ya_63, ya_64, ya_65, ya_66, ya_67, ya_68, ya_69, ya_70, ya_71, ya_72, ya_73, ya_74, ya_75, ya_76, ya_77, ya_78, ya_79, ya_80, ya_81, ya_82, ya_83, ya_84, ya_85, ya_86, ya_87, ya_88, ya_89, ya_90, ya_91, g.1, t60, and_self, if_true]
    · refine hW.q ⟨-2, ?_, ?_⟩
      · unfold x_body
        rw [x_taskAt_in h g.1 g.2, Option.bind_some]
        dsimp only
        rw [if_neg a1, x_isWithin_ok, Option.bind_some, if_neg k, if_pos rfl]
      · unfold m_body
        rw [m_isTask_ok _ _ nr, if_pos g, Option.bind_some, if_neg yy_10, m_in_ok, Option.bind_some, if_neg k, if_pos rfl]
  · refine hW.q ⟨-2, ?_, ?_⟩
    · unfold x_body
      rw [x_taskAt_out h g, Option.bind_some]
      rfl
    · unfold m_body
      rw [m_isTask_ok _ _ nr, if_neg g, Option.bind_some]
      rfl
theorem yS.told0 {e : Nat} {b : Int} {aw : List Int} {dl : List yd} {X M : zz_S} (h : yS e b aw dl X M) (t v : Int) (h2 : t < zz_h M 40 1 9) (hv : 1 ≤ v ∧ v ≤ 120) : yS e b aw dl (zz_w X 28 (t + 1) 0 v) (zz_w M 47 1 t v) := by
  (refine yS.by_ h ?_ rfl rfl rfl ?_ ?_ ?_ ?_ ?_ ?_ ?_ ?_ ?_ ?_ ?_ ?_ <;> try (first | (refine yA.cg (yS.A h) ?_ ?_ <;> ((repeat (first | refine yK.w ?_ rfl | exact yK.rf)); done))| (intro t h1 h2; refine yB.cg (yS.B h t h1 h2) ?_ ?_ <;> ((repeat (first | refine yK.w ?_ rfl | exact yK.rf)); done))| (intro t h1 h2; refine yC.cg (yC.up (yS.C h t h1 h2) (by omega)) ?_ ?_ <;> ((repeat (first | refine yK.w ?_ rfl | exact yK.rf)); done))| (intro t h1 h2; refine yD.cg (yS.D h t h1 h2) ?_ ?_ <;> ((repeat (first | refine yK.w ?_ rfl | exact yK.rf)); done))| (intro t h1 h2; refine yE.cg (yS.E h t h1 h2) ?_ ?_ <;> ((repeat (first | refine yK.w ?_ rfl | exact yK.rf)); done))| (intro t h1 h2; refine yF.cg (yS.F h t h1 h2) ?_ ?_ <;> ((repeat (first | refine yK.w ?_ rfl | exact yK.rf)); done))| (refine yG.cg (yS.G h) ?_ ?_ <;> ((repeat (first | refine yK.w ?_ rfl | exact yK.rf)); done))| (intro t h1 h2; refine yI.cg (yS.I h t h1 h2) ?_ ?_ <;> ((repeat (first | refine yK.w ?_ rfl | exact yK.rf)); done))| (refine yJ.cg (yS.J h) ?_ ?_ <;> ((repeat (first | refine yK.w ?_ rfl | exact yK.rf)); done))| (refine yL.cg (yS.L h) ?_ ?_ <;> ((repeat (first | refine yK.w ?_ rfl | exact yK.rf)); done))| (refine yM.cg (yM.up (yS.R h) (by omega)) ?_ ?_ <;> ((repeat (first | refine yK.w ?_ rfl | exact yK.rf)); done))| (refine yN.cg (yS.N h) ?_ (fun _ => ⟨rfl, rfl⟩) <;> ((repeat (first | refine yK.w ?_ rfl | exact yK.rf)); done))| (refine yU.cg (yS.U h) ?_ <;> ((repeat (first | refine yK.w ?_ rfl | exact yK.rf)); done))))
  · intro s h1 h2
    have a := h.B s h1 h2
    unfold yB
    by_cases q : s = t
    · subst q
      exact ⟨a.re, a.nu, a.ki, a.kr, a.fi, a.fr, a.ga, a.gr, a.ac, a.ax, a.ay, by simp [zz_h_w], by simp [zz_h_w]; omega, by simpa [zz_h_w] using a.t1, by simpa [zz_h_w] using a.t2, a.r2, by simpa [zz_h_w] using a.t3, a.r3, by simpa [zz_h_w] using a.t4, a.r4, by simpa [zz_h_w] using a.t5, a.r5⟩
    · exact ⟨a.re, a.nu, a.ki, a.kr, a.fi, a.fr, a.ga, a.gr, a.ac, a.ax, a.ay, by simpa [zz_h_w, q] using a.t0, by simpa [zz_h_w, q] using a.r0, by simpa [zz_h_w] using a.t1, by simpa [zz_h_w] using a.t2, a.r2, by simpa [zz_h_w] using a.t3, a.r3, by simpa [zz_h_w] using a.t4, a.r4, by simpa [zz_h_w] using a.t5, a.r5⟩
theorem yS.told1 {e : Nat} {b : Int} {aw : List Int} {dl : List yd} {X M : zz_S} (h : yS e b aw dl X M) (t v : Int) (h2 : t < zz_h M 40 1 9) (hv : 0 ≤ v ∧ v ≤ 9) : yS e b aw dl (zz_w X 28 (t + 1) 1 v) (zz_w M 48 1 t v) := by
  (refine yS.by_ h ?_ rfl rfl rfl ?_ ?_ ?_ ?_ ?_ ?_ ?_ ?_ ?_ ?_ ?_ ?_ <;> try (first | (refine yA.cg (yS.A h) ?_ ?_ <;> ((repeat (first | refine yK.w ?_ rfl | exact yK.rf)); done))| (intro t h1 h2; refine yB.cg (yS.B h t h1 h2) ?_ ?_ <;> ((repeat (first | refine yK.w ?_ rfl | exact yK.rf)); done))| (intro t h1 h2; refine yC.cg (yC.up (yS.C h t h1 h2) (by omega)) ?_ ?_ <;> ((repeat (first | refine yK.w ?_ rfl | exact yK.rf)); done))| (intro t h1 h2; refine yD.cg (yS.D h t h1 h2) ?_ ?_ <;> ((repeat (first | refine yK.w ?_ rfl | exact yK.rf)); done))| (intro t h1 h2; refine yE.cg (yS.E h t h1 h2) ?_ ?_ <;> ((repeat (first | refine yK.w ?_ rfl | exact yK.rf)); done))| (intro t h1 h2; refine yF.cg (yS.F h t h1 h2) ?_ ?_ <;> ((repeat (first | refine yK.w ?_ rfl | exact yK.rf)); done))| (refine yG.cg (yS.G h) ?_ ?_ <;> ((repeat (first | refine yK.w ?_ rfl | exact yK.rf)); done))| (intro t h1 h2; refine yI.cg (yS.I h t h1 h2) ?_ ?_ <;> ((repeat (first | refine yK.w ?_ rfl | exact yK.rf)); done))| (refine yJ.cg (yS.J h) ?_ ?_ <;> ((repeat (first | refine yK.w ?_ rfl | exact yK.rf)); done))| (refine yL.cg (yS.L h) ?_ ?_ <;> ((repeat (first | refine yK.w ?_ rfl | exact yK.rf)); done))| (refine yM.cg (yM.up (yS.R h) (by omega)) ?_ ?_ <;> ((repeat (first | refine yK.w ?_ rfl | exact yK.rf)); done))| (refine yN.cg (yS.N h) ?_ (fun _ => ⟨rfl, rfl⟩) <;> ((repeat (first | refine yK.w ?_ rfl | exact yK.rf)); done))| (refine yU.cg (yS.U h) ?_ <;> ((repeat (first | refine yK.w ?_ rfl | exact yK.rf)); done))))
  · intro s h1 h2
    have a := h.B s h1 h2
    unfold yB
    by_cases q : s = t
    · subst q
      exact ⟨a.re, a.nu, a.ki, a.kr, a.fi, a.fr, a.ga, a.gr, a.ac, a.ax, a.ay, by simpa [zz_h_w] using a.t0, a.r0, by simp [zz_h_w], by simpa [zz_h_w] using a.t2, a.r2, by simpa [zz_h_w] using a.t3, a.r3, by simpa [zz_h_w] using a.t4, a.r4, by simpa [zz_h_w] using a.t5, a.r5⟩
    · exact ⟨a.re, a.nu, a.ki, a.kr, a.fi, a.fr, a.ga, a.gr, a.ac, a.ax, a.ay, by simpa [zz_h_w] using a.t0, a.r0, by simpa [zz_h_w, q] using a.t1, by simpa [zz_h_w] using a.t2, a.r2, by simpa [zz_h_w] using a.t3, a.r3, by simpa [zz_h_w] using a.t4, a.r4, by simpa [zz_h_w] using a.t5, a.r5⟩
  · exact h.U.wr (by decide) h2
theorem yS.told2 {e : Nat} {b : Int} {aw : List Int} {dl : List yd} {X M : zz_S} (h : yS e b aw dl X M) (t v : Int) (h2 : t < zz_h M 40 1 9) (hv : -1 ≤ v ∧ v ≤ zz_h M 40 1 7 - 1) : yS e b aw dl (zz_w X 28 (t + 1) 2 v) (zz_w M 49 1 t v) := by
  (refine yS.by_ h ?_ rfl rfl rfl ?_ ?_ ?_ ?_ ?_ ?_ ?_ ?_ ?_ ?_ ?_ ?_ <;> try (first | (refine yA.cg (yS.A h) ?_ ?_ <;> ((repeat (first | refine yK.w ?_ rfl | exact yK.rf)); done))| (intro t h1 h2; refine yB.cg (yS.B h t h1 h2) ?_ ?_ <;> ((repeat (first | refine yK.w ?_ rfl | exact yK.rf)); done))| (intro t h1 h2; refine yC.cg (yC.up (yS.C h t h1 h2) (by omega)) ?_ ?_ <;> ((repeat (first | refine yK.w ?_ rfl | exact yK.rf)); done))| (intro t h1 h2; refine yD.cg (yS.D h t h1 h2) ?_ ?_ <;> ((repeat (first | refine yK.w ?_ rfl | exact yK.rf)); done))| (intro t h1 h2; refine yE.cg (yS.E h t h1 h2) ?_ ?_ <;> ((repeat (first | refine yK.w ?_ rfl | exact yK.rf)); done))| (intro t h1 h2; refine yF.cg (yS.F h t h1 h2) ?_ ?_ <;> ((repeat (first | refine yK.w ?_ rfl | exact yK.rf)); done))| (refine yG.cg (yS.G h) ?_ ?_ <;> ((repeat (first | refine yK.w ?_ rfl | exact yK.rf)); done))| (intro t h1 h2; refine yI.cg (yS.I h t h1 h2) ?_ ?_ <;> ((repeat (first | refine yK.w ?_ rfl | exact yK.rf)); done))| (refine yJ.cg (yS.J h) ?_ ?_ <;> ((repeat (first | refine yK.w ?_ rfl | exact yK.rf)); done))| (refine yL.cg (yS.L h) ?_ ?_ <;> ((repeat (first | refine yK.w ?_ rfl | exact yK.rf)); done))| (refine yM.cg (yM.up (yS.R h) (by omega)) ?_ ?_ <;> ((repeat (first | refine yK.w ?_ rfl | exact yK.rf)); done))| (refine yN.cg (yS.N h) ?_ (fun _ => ⟨rfl, rfl⟩) <;> ((repeat (first | refine yK.w ?_ rfl | exact yK.rf)); done))| (refine yU.cg (yS.U h) ?_ <;> ((repeat (first | refine yK.w ?_ rfl | exact yK.rf)); done))))
  · intro s h1 h2
    have a := h.B s h1 h2
    unfold yB
    by_cases q : s = t
    · subst q
      exact ⟨a.re, a.nu, a.ki, a.kr, a.fi, a.fr, a.ga, a.gr, a.ac, a.ax, a.ay, by simpa [zz_h_w] using a.t0, a.r0, by simpa [zz_h_w] using a.t1, by simp [zz_h_w], by simp [zz_h_w]; omega, by simpa [zz_h_w] using a.t3, a.r3, by simpa [zz_h_w] using a.t4, a.r4, by simpa [zz_h_w] using a.t5, a.r5⟩
    · exact ⟨a.re, a.nu, a.ki, a.kr, a.fi, a.fr, a.ga, a.gr, a.ac, a.ax, a.ay, by simpa [zz_h_w] using a.t0, a.r0, by simpa [zz_h_w] using a.t1, by simpa [zz_h_w, q] using a.t2, by simpa [zz_h_w, q] using a.r2, by simpa [zz_h_w] using a.t3, a.r3, by simpa [zz_h_w] using a.t4, a.r4, by simpa [zz_h_w] using a.t5, a.r5⟩
theorem yS.told3 {e : Nat} {b : Int} {aw : List Int} {dl : List yd} {X M : zz_S} (h : yS e b aw dl X M) (t v : Int) (h2 : t < zz_h M 40 1 9) (hv : 0 ≤ v ∧ v ≤ 2) : yS e b aw dl (zz_w X 28 (t + 1) 3 v) (zz_w M 50 1 t v) := by
  (refine yS.by_ h ?_ rfl rfl rfl ?_ ?_ ?_ ?_ ?_ ?_ ?_ ?_ ?_ ?_ ?_ ?_ <;> try (first | (refine yA.cg (yS.A h) ?_ ?_ <;> ((repeat (first | refine yK.w ?_ rfl | exact yK.rf)); done))| (intro t h1 h2; refine yB.cg (yS.B h t h1 h2) ?_ ?_ <;> ((repeat (first | refine yK.w ?_ rfl | exact yK.rf)); done))| (intro t h1 h2; refine yC.cg (yC.up (yS.C h t h1 h2) (by omega)) ?_ ?_ <;> ((repeat (first | refine yK.w ?_ rfl | exact yK.rf)); done))| (intro t h1 h2; refine yD.cg (yS.D h t h1 h2) ?_ ?_ <;> ((repeat (first | refine yK.w ?_ rfl | exact yK.rf)); done))| (intro t h1 h2; refine yE.cg (yS.E h t h1 h2) ?_ ?_ <;> ((repeat (first | refine yK.w ?_ rfl | exact yK.rf)); done))| (intro t h1 h2; refine yF.cg (yS.F h t h1 h2) ?_ ?_ <;> ((repeat (first | refine yK.w ?_ rfl | exact yK.rf)); done))| (refine yG.cg (yS.G h) ?_ ?_ <;> ((repeat (first | refine yK.w ?_ rfl | exact yK.rf)); done))| (intro t h1 h2; refine yI.cg (yS.I h t h1 h2) ?_ ?_ <;> ((repeat (first | refine yK.w ?_ rfl | exact yK.rf)); done))| (refine yJ.cg (yS.J h) ?_ ?_ <;> ((repeat (first | refine yK.w ?_ rfl | exact yK.rf)); done))| (refine yL.cg (yS.L h) ?_ ?_ <;> ((repeat (first | refine yK.w ?_ rfl | exact yK.rf)); done))| (refine yM.cg (yM.up (yS.R h) (by omega)) ?_ ?_ <;> ((repeat (first | refine yK.w ?_ rfl | exact yK.rf)); done))| (refine yN.cg (yS.N h) ?_ (fun _ => ⟨rfl, rfl⟩) <;> ((repeat (first | refine yK.w ?_ rfl | exact yK.rf)); done))| (refine yU.cg (yS.U h) ?_ <;> ((repeat (first | refine yK.w ?_ rfl | exact yK.rf)); done))))
  · intro s h1 h2
    have a := h.B s h1 h2
    unfold yB
    by_cases q : s = t
    · subst q
      exact ⟨a.re, a.nu, a.ki, a.kr, a.fi, a.fr, a.ga, a.gr, a.ac, a.ax, a.ay, by simpa [zz_h_w] using a.t0, a.r0, by simpa [zz_h_w] using a.t1, by simpa [zz_h_w] using a.t2, a.r2, by simp [zz_h_w], by simp [zz_h_w]; omega, by simpa [zz_h_w] using a.t4, a.r4, by simpa [zz_h_w] using a.t5, a.r5⟩
    · exact ⟨a.re, a.nu, a.ki, a.kr, a.fi, a.fr, a.ga, a.gr, a.ac, a.ax, a.ay, by simpa [zz_h_w] using a.t0, a.r0, by simpa [zz_h_w] using a.t1, by simpa [zz_h_w] using a.t2, a.r2, by simpa [zz_h_w, q] using a.t3, by simpa [zz_h_w, q] using a.r3, by simpa [zz_h_w] using a.t4, a.r4, by simpa [zz_h_w] using a.t5, a.r5⟩
  · exact h.U.wr (by decide) h2
theorem yS.told4 {e : Nat} {b : Int} {aw : List Int} {dl : List yd} {X M : zz_S} (h : yS e b aw dl X M) (t v : Int) (h2 : t < zz_h M 40 1 9) (hv : 0 ≤ v ∧ v ≤ 2) : yS e b aw dl (zz_w X 28 (t + 1) 4 v) (zz_w M 51 1 t v) := by
  (refine yS.by_ h ?_ rfl rfl rfl ?_ ?_ ?_ ?_ ?_ ?_ ?_ ?_ ?_ ?_ ?_ ?_ <;> try (first | (refine yA.cg (yS.A h) ?_ ?_ <;> ((repeat (first | refine yK.w ?_ rfl | exact yK.rf)); done))| (intro t h1 h2; refine yB.cg (yS.B h t h1 h2) ?_ ?_ <;> ((repeat (first | refine yK.w ?_ rfl | exact yK.rf)); done))| (intro t h1 h2; refine yC.cg (yC.up (yS.C h t h1 h2) (by omega)) ?_ ?_ <;> ((repeat (first | refine yK.w ?_ rfl | exact yK.rf)); done))| (intro t h1 h2; refine yD.cg (yS.D h t h1 h2) ?_ ?_ <;> ((repeat (first | refine yK.w ?_ rfl | exact yK.rf)); done))| (intro t h1 h2; refine yE.cg (yS.E h t h1 h2) ?_ ?_ <;> ((repeat (first | refine yK.w ?_ rfl | exact yK.rf)); done))| (intro t h1 h2; refine yF.cg (yS.F h t h1 h2) ?_ ?_ <;> ((repeat (first | refine yK.w ?_ rfl | exact yK.rf)); done))| (refine yG.cg (yS.G h) ?_ ?_ <;> ((repeat (first | refine yK.w ?_ rfl | exact yK.rf)); done))| (intro t h1 h2; refine yI.cg (yS.I h t h1 h2) ?_ ?_ <;> ((repeat (first | refine yK.w ?_ rfl | exact yK.rf)); done))| (refine yJ.cg (yS.J h) ?_ ?_ <;> ((repeat (first | refine yK.w ?_ rfl | exact yK.rf)); done))| (refine yL.cg (yS.L h) ?_ ?_ <;> ((repeat (first | refine yK.w ?_ rfl | exact yK.rf)); done))| (refine yM.cg (yM.up (yS.R h) (by omega)) ?_ ?_ <;> ((repeat (first | refine yK.w ?_ rfl | exact yK.rf)); done))| (refine yN.cg (yS.N h) ?_ (fun _ => ⟨rfl, rfl⟩) <;> ((repeat (first | refine yK.w ?_ rfl | exact yK.rf)); done))| (refine yU.cg (yS.U h) ?_ <;> ((repeat (first | refine yK.w ?_ rfl | exact yK.rf)); done))))
  · intro s h1 h2
    have a := h.B s h1 h2
    unfold yB
    by_cases q : s = t
    · subst q
      exact ⟨a.re, a.nu, a.ki, a.kr, a.fi, a.fr, a.ga, a.gr, a.ac, a.ax, a.ay, by simpa [zz_h_w] using a.t0, a.r0, by simpa [zz_h_w] using a.t1, by simpa [zz_h_w] using a.t2, a.r2, by simpa [zz_h_w] using a.t3, a.r3, by simp [zz_h_w], by simp [zz_h_w]; omega, by simpa [zz_h_w] using a.t5, a.r5⟩
    · exact ⟨a.re, a.nu, a.ki, a.kr, a.fi, a.fr, a.ga, a.gr, a.ac, a.ax, a.ay, by simpa [zz_h_w] using a.t0, a.r0, by simpa [zz_h_w] using a.t1, by simpa [zz_h_w] using a.t2, a.r2, by simpa [zz_h_w] using a.t3, a.r3, by simpa [zz_h_w, q] using a.t4, by simpa [zz_h_w, q] using a.r4, by simpa [zz_h_w] using a.t5, a.r5⟩
  · exact h.U.wr (by decide) h2
theorem yS.told5 {e : Nat} {b : Int} {aw : List Int} {dl : List yd} {X M : zz_S} (h : yS e b aw dl X M) (t v : Int) (h2 : t < zz_h M 40 1 9) (hv : 0 ≤ v ∧ v ≤ 2) : yS e b aw dl (zz_w X 28 (t + 1) 5 v) (zz_w M 52 1 t v) := by
  (refine yS.by_ h ?_ rfl rfl rfl ?_ ?_ ?_ ?_ ?_ ?_ ?_ ?_ ?_ ?_ ?_ ?_ <;> try (first | (refine yA.cg (yS.A h) ?_ ?_ <;> ((repeat (first | refine yK.w ?_ rfl | exact yK.rf)); done))| (intro t h1 h2; refine yB.cg (yS.B h t h1 h2) ?_ ?_ <;> ((repeat (first | refine yK.w ?_ rfl | exact yK.rf)); done))| (intro t h1 h2; refine yC.cg (yC.up (yS.C h t h1 h2) (by omega)) ?_ ?_ <;> ((repeat (first | refine yK.w ?_ rfl | exact yK.rf)); done))| (intro t h1 h2; refine yD.cg (yS.D h t h1 h2) ?_ ?_ <;> ((repeat (first | refine yK.w ?_ rfl | exact yK.rf)); done))| (intro t h1 h2; refine yE.cg (yS.E h t h1 h2) ?_ ?_ <;> ((repeat (first | refine yK.w ?_ rfl | exact yK.rf)); done))| (intro t h1 h2; refine yF.cg (yS.F h t h1 h2) ?_ ?_ <;> ((repeat (first | refine yK.w ?_ rfl | exact yK.rf)); done))| (refine yG.cg (yS.G h) ?_ ?_ <;> ((repeat (first | refine yK.w ?_ rfl | exact yK.rf)); done))| (intro t h1 h2; refine yI.cg (yS.I h t h1 h2) ?_ ?_ <;> ((repeat (first | refine yK.w ?_ rfl | exact yK.rf)); done))| (refine yJ.cg (yS.J h) ?_ ?_ <;> ((repeat (first | refine yK.w ?_ rfl | exact yK.rf)); done))| (refine yL.cg (yS.L h) ?_ ?_ <;> ((repeat (first | refine yK.w ?_ rfl | exact yK.rf)); done))| (refine yM.cg (yM.up (yS.R h) (by omega)) ?_ ?_ <;> ((repeat (first | refine yK.w ?_ rfl | exact yK.rf)); done))| (refine yN.cg (yS.N h) ?_ (fun _ => ⟨rfl, rfl⟩) <;> ((repeat (first | refine yK.w ?_ rfl | exact yK.rf)); done))| (refine yU.cg (yS.U h) ?_ <;> ((repeat (first | refine yK.w ?_ rfl | exact yK.rf)); done))))
  · intro s h1 h2
    have a := h.B s h1 h2
    unfold yB
    by_cases q : s = t
    · subst q
      exact ⟨a.re, a.nu, a.ki, a.kr, a.fi, a.fr, a.ga, a.gr, a.ac, a.ax, a.ay, by simpa [zz_h_w] using a.t0, a.r0, by simpa [zz_h_w] using a.t1, by simpa [zz_h_w] using a.t2, a.r2, by simpa [zz_h_w] using a.t3, a.r3, by simpa [zz_h_w] using a.t4, a.r4, by simp [zz_h_w], by simp [zz_h_w]; omega⟩
    · exact ⟨a.re, a.nu, a.ki, a.kr, a.fi, a.fr, a.ga, a.gr, a.ac, a.ax, a.ay, by simpa [zz_h_w] using a.t0, a.r0, by simpa [zz_h_w] using a.t1, by simpa [zz_h_w] using a.t2, a.r2, by simpa [zz_h_w] using a.t3, a.r3, by simpa [zz_h_w] using a.t4, a.r4, by simpa [zz_h_w, q] using a.t5, by simpa [zz_h_w, q] using a.r5⟩
  · exact h.U.wr (by decide) h2
theorem yW.set {c : Int} {X M : zz_S} (hW : yW c X M) (t w v : Int) : yR c (x_set t w v) (m_set t w v) X M := by
  obtain ⟨aw, dl, h⟩ := hW
  have nr := h.A.nr
  have gr := h.A.gr
  have hW : yW c X M := ⟨aw, dl, h⟩
  by_cases g : 0 ≤ t ∧ t < zz_h M 40 1 9
  · have a1 : ¬ t + 1 = 0 := by omega
    have t60 : t < 60 := by omega
    have B := h.B t g.1 g.2
    have r1 : zz_r (zz_h M 40 1 7 - 1) = zz_h M 40 1 7 - 1 := yy_r (by omega) (by omega)
    by_cases w0 : w = 0
    · subst w0
      by_cases k : 1 ≤ v ∧ v ≤ 120
      · refine yW.w (zz_h M 47 1 t) (h.told0 t v g.2 k) ?_ ?_ (by rw [yy_kind (by decide)]; omega)
        · unfold x_set x_leastTold x_mostTold
          simp only [x_taskAt_in h g.1 g.2, Option.bind_some, a1, if_false, x_isWithin_ok, Int.reduceLE, Int.reduceEq, and_self, if_true, h.A.g, r1, k, zz_b, ya_11, ya_12, ya_13, ya_14, ya_15, ya_16, ya_17, ya_18, ya_19, ya_20, ya_21, ya_22, ya_23, ya_24, ya_25, ya_26, ya_27, ya_28, ya_29, ya_30, ya_41, ya_42, ya_43, ya_44, ya_45, ya_46, ya_47, ya_48, ya_49, ya_50, ya_51, ya_52, ya_53, ya_54, ya_55, ya_56, ya_57, ya_58, ya_59, ya_60, ya_61, ya_62, ya_63, ya_64, ya_65, ya_66, ya_67, ya_68, ya_69, ya_70, ya_71, ya_72, ya_73, ya_74, ya_75, ya_76, ya_77, ya_78, ya_79, ya_80, ya_81, ya_82, ya_83, ya_84, ya_85, ya_86, ya_87, ya_88, ya_89, ya_90, ya_91, Int.reduceLT, B.t0, show ¬ (1 : Int) = 0 from yy_10]
        · unfold m_set
          simp only [m_isTask_ok _ _ nr, g.1, g.2, and_self, if_true, Option.bind_some, if_neg yy_10, Int.reduceEq, if_false, if_true, m_in_ok, r1, k, and_self, zz_b, ya_11, ya_12, ya_13, ya_14, ya_15, ya_16, ya_17, ya_18, ya_19, ya_20, ya_21, ya_22, ya_23, ya_24, ya_25, ya_26, ya_27, ya_28, ya_29, ya_30, ya_41, ya_42, ya_43, ya_44, ya_45, ya_46, ya_47, ya_48, ya_49, ya_50, ya_51, ya_52, ya_53, ya_54, ya_55, ya_56, ya_57, ya_58, ya_59, ya_60, ya_61, ya_62, ya_63, ya_64, ya_65, ya_66, ya_67, ya_68, ya_69, ya_70, ya_71, ya_72, ya_73, ya_74, ya_75, ya_76, ya_77, ya_78, ya_79, ya_80, ya_81, ya_82, ya_83, ya_84, ya_85, ya_86, ya_87, ya_88, ya_89, ya_90, ya_91, g.1, t60]
      · refine hW.q ⟨-2, ?_, ?_⟩
        · unfold x_set x_leastTold x_mostTold
          simp only [x_taskAt_in h g.1 g.2, Option.bind_some, a1, if_false, x_isWithin_ok, Int.reduceLE, Int.reduceEq, and_self, if_true, h.A.g, r1, k]
        · unfold m_set
          simp only [m_isTask_ok _ _ nr, g.1, g.2, and_self, if_true, Option.bind_some, if_neg yy_10, Int.reduceEq, if_false, if_true, m_in_ok, r1, k]
    by_cases w1 : w = 1
    · subst w1
      by_cases k : 0 ≤ v ∧ v ≤ 9
      · refine yW.w (zz_h M 48 1 t) (h.told1 t v g.2 k) ?_ ?_ (by rw [yy_kind (by decide)]; omega)
        · unfold x_set x_leastTold x_mostTold
          simp only [x_taskAt_in h g.1 g.2, Option.bind_some, a1, if_false, x_isWithin_ok, Int.reduceLE, Int.reduceEq, and_self, if_true, h.A.g, r1, k, zz_b, ya_11, ya_12, ya_13, ya_14, ya_15, ya_16, ya_17, ya_18, ya_19, ya_20, ya_21, ya_22, ya_23, ya_24, ya_25, ya_26, ya_27, ya_28, ya_29, ya_30, ya_41, ya_42, ya_43, ya_44, ya_45, ya_46, ya_47, ya_48, ya_49, ya_50, ya_51, ya_52, ya_53, ya_54, ya_55, ya_56, ya_57, ya_58, ya_59, ya_60, ya_61, ya_62, ya_63, ya_64, ya_65, ya_66, ya_67, ya_68, ya_69, ya_70, ya_71, ya_72, ya_73, ya_74, ya_75, ya_76, ya_77, ya_78, ya_79, ya_80, ya_81, ya_82, ya_83, ya_84, ya_85, ya_86, ya_87, ya_88, ya_89, ya_90, ya_91, Int.reduceLT, B.t1, show ¬ (1 : Int) = 0 from yy_10]
        · unfold m_set
          simp only [m_isTask_ok _ _ nr, g.1, g.2, and_self, if_true, Option.bind_some, if_neg yy_10, Int.reduceEq, if_false, if_true, m_in_ok, r1, k, and_self, zz_b, ya_11, ya_12, ya_13, ya_14, ya_15, ya_16, ya_17, ya_18, ya_19, ya_20, ya_21, ya_22, ya_23, ya_24, ya_25, ya_26, ya_27, ya_28, ya_29, ya_30, ya_41, ya_42, ya_43, ya_44, ya_45, ya_46, ya_47, ya_48, ya_49, ya_50, ya_51, ya_52, ya_53, ya_54, ya_55, ya_56, ya_57, ya_58, ya_59, ya_60, ya_61, ya_62, ya_63, ya_64, ya_65, ya_66, ya_67, ya_68, ya_69, ya_70, ya_71, ya_72, ya_73, ya_74, ya_75, ya_76, ya_77, ya_78, ya_79, ya_80, ya_81, ya_82, ya_83, ya_84, ya_85, ya_86, ya_87, ya_88, ya_89, ya_90, ya_91, g.1, t60]
      · refine hW.q ⟨-2, ?_, ?_⟩
        · unfold x_set x_leastTold x_mostTold
          simp only [x_taskAt_in h g.1 g.2, Option.bind_some, a1, if_false, x_isWithin_ok, Int.reduceLE, Int.reduceEq, and_self, if_true, h.A.g, r1, k]
        · unfold m_set
          simp only [m_isTask_ok _ _ nr, g.1, g.2, and_self, if_true, Option.bind_some, if_neg yy_10, Int.reduceEq, if_false, if_true, m_in_ok, r1, k]
    by_cases w2 : w = 2
    · subst w2
      by_cases k : -1 ≤ v ∧ v ≤ zz_h M 40 1 7 - 1
      · refine yW.w (zz_h M 49 1 t) (h.told2 t v g.2 k) ?_ ?_ (by rw [yy_kind (by decide)]; omega)
        · unfold x_set x_leastTold x_mostTold
          simp only [x_taskAt_in h g.1 g.2, Option.bind_some, a1, if_false, x_isWithin_ok, Int.reduceLE, Int.reduceEq, and_self, if_true, h.A.g, r1, k, zz_b, ya_11, ya_12, ya_13, ya_14, ya_15, ya_16, ya_17, ya_18, ya_19, ya_20, ya_21, ya_22, ya_23, ya_24, ya_25, ya_26, ya_27, ya_28, ya_29, ya_30, ya_41, ya_42, ya_43, ya_44, ya_45, ya_46, ya_47, ya_48, ya_49, ya_50, ya_51, ya_52, ya_53, ya_54, ya_55, ya_56, ya_57, ya_58, ya_59, ya_60, ya_61, ya_62, ya_63, ya_64, ya_65, ya_66, ya_67, ya_68, ya_69, ya_70, ya_71, ya_72, ya_73, ya_74, ya_75, ya_76, ya_77, ya_78, ya_79, ya_80, ya_81, ya_82, ya_83, ya_84, ya_85, ya_86, ya_87, ya_88, ya_89, ya_90, ya_91, Int.reduceLT, B.t2, show ¬ (1 : Int) = 0 from yy_10]
        · unfold m_set
          simp only [m_isTask_ok _ _ nr, g.1, g.2, and_self, if_true, Option.bind_some, if_neg yy_10, Int.reduceEq, if_false, if_true, m_in_ok, r1, k, and_self, zz_b, ya_11, ya_12, ya_13, ya_14, ya_15, ya_16, ya_17, ya_18, ya_19, ya_20, ya_21, ya_22, ya_23, ya_24, ya_25, ya_26, ya_27, ya_28, ya_29, ya_30, ya_41, ya_42, ya_43, ya_44, ya_45, ya_46, ya_47, ya_48, ya_49, ya_50, ya_51, ya_52, ya_53, ya_54, ya_55, ya_56, ya_57, ya_58, ya_59, ya_60, ya_61, ya_62, ya_63, ya_64, ya_65, ya_66, ya_67, ya_68, ya_69, ya_70, ya_71, ya_72, ya_73, ya_74, ya_75, ya_76, ya_77, ya_78, ya_79, ya_80, ya_81, ya_82, ya_83, ya_84, ya_85, ya_86, ya_87, ya_88, ya_89, ya_90, ya_91, g.1, t60]
      · refine hW.q ⟨-2, ?_, ?_⟩
        · unfold x_set x_leastTold x_mostTold
          simp only [x_taskAt_in h g.1 g.2, Option.bind_some, a1, if_false, x_isWithin_ok, Int.reduceLE, Int.reduceEq, and_self, if_true, h.A.g, r1, k]
        · unfold m_set
          simp only [m_isTask_ok _ _ nr, g.1, g.2, and_self, if_true, Option.bind_some, if_neg yy_10, Int.reduceEq, if_false, if_true, m_in_ok, r1, k]
    by_cases w3 : w = 3
    · subst w3
      by_cases k : 0 ≤ v ∧ v ≤ 2
      · refine yW.w (zz_h M 50 1 t) (h.told3 t v g.2 k) ?_ ?_ (by rw [yy_kind (by decide)]; omega)
        · unfold x_set x_leastTold x_mostTold
          simp only [x_taskAt_in h g.1 g.2, Option.bind_some, a1, if_false, x_isWithin_ok, Int.reduceLE, Int.reduceEq, and_self, if_true, h.A.g, r1, k, zz_b, ya_11, ya_12, ya_13, ya_14, ya_15, ya_16, ya_17, ya_18, ya_19, ya_20, ya_21, ya_22, ya_23, ya_24, ya_25, ya_26, ya_27, ya_28, ya_29, ya_30, ya_41, ya_42, ya_43, ya_44, ya_45, ya_46, ya_47, ya_48, ya_49, ya_50, ya_51, ya_52, ya_53, ya_54, ya_55, ya_56, ya_57, ya_58, ya_59, ya_60, ya_61, ya_62, ya_63, ya_64, ya_65, ya_66, ya_67, ya_68, ya_69, ya_70, ya_71, ya_72, ya_73, ya_74, ya_75, ya_76, ya_77, ya_78, ya_79, ya_80, ya_81, ya_82, ya_83, ya_84, ya_85, ya_86, ya_87, ya_88, ya_89, ya_90, ya_91, Int.reduceLT, B.t3, show ¬ (1 : Int) = 0 from yy_10]
        · unfold m_set
          simp only [m_isTask_ok _ _ nr, g.1, g.2, and_self, if_true, Option.bind_some, if_neg yy_10, Int.reduceEq, if_false, if_true, m_in_ok, r1, k, and_self, zz_b, ya_11, ya_12, ya_13, ya_14, ya_15, ya_16, ya_17, ya_18, ya_19, ya_20, ya_21, ya_22, ya_23, ya_24, ya_25, ya_26, ya_27, ya_28, ya_29, ya_30, ya_41, ya_42, ya_43, ya_44, ya_45, ya_46, ya_47, ya_48, ya_49, ya_50, ya_51, ya_52, ya_53, ya_54, ya_55, ya_56, ya_57, ya_58, ya_59, ya_60, ya_61, ya_62, ya_63, ya_64, ya_65, ya_66, ya_67, ya_68, ya_69, ya_70, ya_71, ya_72, ya_73, ya_74, ya_75, ya_76, ya_77, ya_78, ya_79, ya_80, ya_81, ya_82, ya_83, ya_84, ya_85, ya_86, ya_87, ya_88, ya_89, ya_90, ya_91, g.1, t60]
      · refine hW.q ⟨-2, ?_, ?_⟩
        · unfold x_set x_leastTold x_mostTold
          simp only [x_taskAt_in h g.1 g.2, Option.bind_some, a1, if_false, x_isWithin_ok, Int.reduceLE, Int.reduceEq, and_self, if_true, h.A.g, r1, k]
        · unfold m_set
          simp only [m_isTask_ok _ _ nr, g.1, g.2, and_self, if_true, Option.bind_some, if_neg yy_10, Int.reduceEq, if_false, if_true, m_in_ok, r1, k]
    by_cases w4 : w = 4
    · subst w4
      by_cases k : 0 ≤ v ∧ v ≤ 2
      · refine yW.w (zz_h M 51 1 t) (h.told4 t v g.2 k) ?_ ?_ (by rw [yy_kind (by decide)]; omega)
        · unfold x_set x_leastTold x_mostTold
          simp only [x_taskAt_in h g.1 g.2, Option.bind_some, a1, if_false, x_isWithin_ok, Int.reduceLE, Int.reduceEq, and_self, if_true, h.A.g, r1, k, zz_b, ya_11, ya_12, ya_13, ya_14, ya_15, ya_16, ya_17, ya_18, ya_19, ya_20, ya_21, ya_22, ya_23, ya_24, ya_25, ya_26, ya_27, ya_28, ya_29, ya_30, ya_41, ya_42, ya_43, ya_44, ya_45, ya_46, ya_47, ya_48, ya_49, ya_50, ya_51, ya_52, ya_53, ya_54, ya_55, ya_56, ya_57, ya_58, ya_59, ya_60, ya_61, ya_62, ya_63, ya_64, ya_65, ya_66, ya_67, ya_68, ya_69, ya_70, ya_71, ya_72, ya_73, ya_74, ya_75, ya_76, ya_77, ya_78, ya_79, ya_80, ya_81, ya_82, ya_83, ya_84, ya_85, ya_86, ya_87, ya_88, ya_89, ya_90, ya_91, Int.reduceLT, B.t4, show ¬ (1 : Int) = 0 from yy_10]
        · unfold m_set
          simp only [m_isTask_ok _ _ nr, g.1, g.2, and_self, if_true, Option.bind_some, if_neg yy_10, Int.reduceEq, if_false, if_true, m_in_ok, r1, k, and_self, zz_b, ya_11, ya_12, ya_13, ya_14, ya_15, ya_16, ya_17, ya_18, ya_19, ya_20, ya_21, ya_22, ya_23, ya_24, ya_25, ya_26, ya_27, ya_28, ya_29, ya_30, ya_41, ya_42, ya_43, ya_44, ya_45, ya_46, ya_47, ya_48, ya_49, ya_50, ya_51, ya_52, ya_53, ya_54, ya_55, ya_56, ya_57, ya_58, ya_59, ya_60, ya_61, ya_62, ya_63, ya_64, ya_65, ya_66, ya_67, ya_68, ya_69, ya_70, ya_71, ya_72, ya_73, ya_74, ya_75, ya_76, ya_77, ya_78, ya_79, ya_80, ya_81, ya_82, ya_83, ya_84, ya_85, ya_86, ya_87, ya_88, ya_89, ya_90, ya_91, g.1, t60]
      · refine hW.q ⟨-2, ?_, ?_⟩
        · unfold x_set x_leastTold x_mostTold
          simp only [x_taskAt_in h g.1 g.2, Option.bind_some, a1, if_false, x_isWithin_ok, Int.reduceLE, Int.reduceEq, and_self, if_true, h.A.g, r1, k]
        · unfold m_set
          simp only [m_isTask_ok _ _ nr, g.1, g.2, and_self, if_true, Option.bind_some, if_neg yy_10, Int.reduceEq, if_false, if_true, m_in_ok, r1, k]
    by_cases w5 : w = 5
    · subst w5
      by_cases k : 0 ≤ v ∧ v ≤ 2
      · refine yW.w (zz_h M 52 1 t) (h.told5 t v g.2 k) ?_ ?_ (by rw [yy_kind (by decide)]; omega)
        · unfold x_set x_leastTold x_mostTold
          simp only [x_taskAt_in h g.1 g.2, Option.bind_some, a1, if_false, x_isWithin_ok, Int.reduceLE, Int.reduceEq, and_self, if_true, h.A.g, r1, k, zz_b, ya_11, ya_12, ya_13, ya_14, ya_15, ya_16, ya_17, ya_18, ya_19, ya_20, ya_21, ya_22, ya_23, ya_24, ya_25, ya_26, ya_27, ya_28, ya_29, ya_30, ya_41, ya_42, ya_43, ya_44, ya_45, ya_46, ya_47, ya_48, ya_49, ya_50, ya_51, ya_52, ya_53, ya_54, ya_55, ya_56, ya_57, ya_58, ya_59, ya_60, ya_61, ya_62, ya_63, ya_64, ya_65, ya_66, ya_67, ya_68, ya_69, ya_70, ya_71, ya_72, ya_73, ya_74, ya_75, ya_76, ya_77, ya_78, ya_79, ya_80, ya_81, ya_82, ya_83, ya_84, ya_85, ya_86, ya_87, ya_88, ya_89, ya_90, ya_91, Int.reduceLT, B.t5, show ¬ (1 : Int) = 0 from yy_10]
        · unfold m_set
          simp only [m_isTask_ok _ _ nr, g.1, g.2, and_self, if_true, Option.bind_some, if_neg yy_10, Int.reduceEq, if_false, if_true, m_in_ok, r1, k, and_self, zz_b, ya_11, ya_12, ya_13, ya_14, ya_15, ya_16, ya_17, ya_18, ya_19, ya_20, ya_21, ya_22, ya_23, ya_24, ya_25, ya_26, ya_27, ya_28, ya_29, ya_30, ya_41, ya_42, ya_43, ya_44, ya_45, ya_46, ya_47, ya_48, ya_49, ya_50, ya_51, ya_52, ya_53, ya_54, ya_55, ya_56, ya_57, ya_58, ya_59, ya_60, ya_61, ya_62, ya_63, ya_64, ya_65, ya_66, ya_67, ya_68, ya_69, ya_70, ya_71, ya_72, ya_73, ya_74, ya_75, ya_76, ya_77, ya_78, ya_79, ya_80, ya_81, ya_82, ya_83, ya_84, ya_85, ya_86, ya_87, ya_88, ya_89, ya_90, ya_91, g.1, t60]
      · refine hW.q ⟨-2, ?_, ?_⟩
        · unfold x_set x_leastTold x_mostTold
          simp only [x_taskAt_in h g.1 g.2, Option.bind_some, a1, if_false, x_isWithin_ok, Int.reduceLE, Int.reduceEq, and_self, if_true, h.A.g, r1, k]
        · unfold m_set
          simp only [m_isTask_ok _ _ nr, g.1, g.2, and_self, if_true, Option.bind_some, if_neg yy_10, Int.reduceEq, if_false, if_true, m_in_ok, r1, k]
    refine hW.q ⟨-2, ?_, ?_⟩
    · unfold x_set
      rw [x_taskAt_in h g.1 g.2, Option.bind_some]
      dsimp only
      rw [if_neg a1, x_isWithin_ok, Option.bind_some, if_neg (show ¬ (0 ≤ w ∧ w ≤ 5) by omega), if_pos rfl]
    · unfold m_set
      rw [m_isTask_ok _ _ nr, if_pos g, Option.bind_some, if_neg yy_10, if_neg w0, if_neg w1, if_neg w2, if_neg w3, if_neg w4, if_neg w5]
  · refine hW.q ⟨-2, ?_, ?_⟩
    · unfold x_set
      rw [x_taskAt_out h g, Option.bind_some]
      rfl
    · unfold m_set
      rw [m_isTask_ok _ _ nr, if_neg g, Option.bind_some]
      rfl
