/-! STAGE B: the clock; what a call keeps -/
theorem yy_10 : ¬ (1 : Int) = 0 := by decide
def yW (c : Int) (X M : zz_S) : Prop := ∃ aw dl, yS 0 (50000 * c + 1100 * zz_h M 40 1 0) aw dl X M
/-- a call: the same answer, the relation kept -/
def yR (c : Int) (f g : zz_S → zz_R) (X M : zz_S) : Prop := ∃ r X' M', f X = some (r, X') ∧ g M = some (r, M') ∧ yW (c + 1) X' M'
theorem yW.up {c d : Int} {X M : zz_S} (h : yW c X M) (e : c ≤ d) : yW d X M := by
  obtain ⟨aw, dl, h⟩ := h
  exact ⟨aw, dl, h.up (by omega)⟩
/-- a question -/
theorem yW.q {c : Int} {f g : zz_S → zz_R} {X M : zz_S} (h : yW c X M) (e : ∃ r, f X = some (r, X) ∧ g M = some (r, M)) : yR c f g X M := by
  obtain ⟨r, e1, e2⟩ := e
  exact ⟨r, X, M, e1, e2, h.up (by omega)⟩
/-- a step whose relation is known -/
theorem yW.w {c b : Int} {f g : zz_S → zz_R} {X M : zz_S} (r : Int) {X' M' : zz_S} {aw : List Int} {dl : List yd} (h : yS 0 b aw dl X' M') (e1 : f X = some (r, X')) (e2 : g M = some (r, M')) (hb : b ≤ 50000 * (c + 1) + 1100 * zz_h M' 40 1 0) : yR c f g X M :=
  ⟨r, X', M', e1, e2, aw, dl, h.up hb⟩
theorem yS.clock_loop {r0 v t : Int} (hr0 : 0 ≤ r0) (hv : v ≤ 400000) (ht : t < 2000000000) : ∀ (k n m i : Nat) (b : Int) (aw : List Int) (dl : List yd) (X M : zz_S), yS 0 b aw dl X M → zz_h M 40 1 0 + k = v → (i : Int) + k = t → k < n → k < m → b + 1100 * k < 1000000000 → zz_h M 40 1 66 = zz_h M 40 1 42 - r0 → r0 ≤ zz_h M 40 1 42 → ∃ q aw' dl' X' M', x_clock_42 n r0 t i X = some (q, X') ∧ m_clock_34 m v M = some (q, M') ∧ yS 0 (b + 1100 * k) aw' dl' X' M' ∧ zz_h M' 40 1 0 = v := by
  intro k
  induction k with
  | zero =>
    intro n m i b aw dl X M h h1 h2 hn hm hb h66 h0
    obtain ⟨n, rfl⟩ : ∃ q, n = q + 1 := ⟨n - 1, by omega⟩
    obtain ⟨m, rfl⟩ : ∃ q, m = q + 1 := ⟨m - 1, by omega⟩
    have rr := h.A.rr
    refine ⟨zz_h M 40 1 42 - r0, aw, dl, X, M, ?_, ?_, h.up (by omega), by omega⟩
    · rw [x_clock_42, if_neg (by omega), h.A.r, yy_r (by omega) (by omega)]
    · rw [m_clock_34, if_neg (by omega), h66]
  | succ k ih =>
    intro n m i b aw dl X M h h1 h2 hn hm hb h66 h0
    obtain ⟨n, rfl⟩ : ∃ q, n = q + 1 := ⟨n - 1, by omega⟩
    obtain ⟨m, rfl⟩ : ∃ q, m = q + 1 := ⟨m - 1, by omega⟩
    have tr := h.A.tr
    have ri : zz_r ((i : Int) + 1) = ((i + 1 : Nat) : Int) := by rw [yy_r (by omega) (by omega)]; omega
    obtain ⟨aw1, dl1, X1, M1, e1, e2, e3, e4, e5, e6⟩ := h.treat (by omega) (by omega) hr0 h66 h0
    obtain ⟨q, aw', dl', X', M', f1, f2, f3, f4⟩ := ih n m (i + 1) (b + 1100) aw1 dl1 X1 _ e4 (by rw [yy_same]; omega) (by omega) (by omega) (by omega) (by omega) (by rw [yy_slot (by decide), yy_slot (by decide)]; exact e5) (by rw [yy_slot (by decide)]; exact e6)
    refine ⟨q, aw', dl', X', M', ?_, ?_, f3.up (by omega), f4⟩
    · rw [x_clock_42, if_pos (by omega), e1, Option.bind_some, ri]
      exact f1
    · rw [m_clock_34, if_pos (by omega), e2, Option.bind_some]
      dsimp only
      rw [e3, yy_r (by omega) (by omega)]
      exact f2
theorem yW.clock {c : Int} {X M : zz_S} (hW : yW c X M) (hc : c ≤ 600) (c0 : 0 ≤ c) (v : Int) (v1 : -2147483648 ≤ v) (v2 : v < 2147483648) : yR c (x_clock v) (m_clock v) X M := by
  obtain ⟨aw, dl, h⟩ := hW
  have tr := h.A.tr
  have rr := h.A.rr
  have fu := yy_fu
  have hW : yW c X M := ⟨aw, dl, h⟩
  by_cases g : zz_h M 40 1 0 ≤ v ∧ v ≤ zz_h M 40 1 0 + 5000 ∧ v ≤ 400000
  · have h' : yS 0 (50000 * c + 1100 * zz_h M 40 1 0) aw dl X (zz_w M 40 1 66 0) := by
      (refine yS.by_ h ?_ rfl rfl rfl ?_ ?_ ?_ ?_ ?_ ?_ ?_ ?_ ?_ ?_ ?_ ?_ <;> try (first | (refine yA.cg (yS.A h) ?_ ?_ <;> ((repeat (first | refine yK.w ?_ rfl | exact yK.rf)); done))| (intro t h1 h2; refine yB.cg (yS.B h t h1 h2) ?_ ?_ <;> ((repeat (first | refine yK.w ?_ rfl | exact yK.rf)); done))| (intro t h1 h2; refine yC.cg (yC.up (yS.C h t h1 h2) (by omega)) ?_ ?_ <;> ((repeat (first | refine yK.w ?_ rfl | exact yK.rf)); done))| (intro t h1 h2; refine yD.cg (yS.D h t h1 h2) ?_ ?_ <;> ((repeat (first | refine yK.w ?_ rfl | exact yK.rf)); done))| (intro t h1 h2; refine yE.cg (yS.E h t h1 h2) ?_ ?_ <;> ((repeat (first | refine yK.w ?_ rfl | exact yK.rf)); done))| (intro t h1 h2; refine yF.cg (yS.F h t h1 h2) ?_ ?_ <;> ((repeat (first | refine yK.w ?_ rfl | exact yK.rf)); done))| (refine yG.cg (yS.G h) ?_ ?_ <;> ((repeat (first | refine yK.w ?_ rfl | exact yK.rf)); done))| (intro t h1 h2; refine yI.cg (yS.I h t h1 h2) ?_ ?_ <;> ((repeat (first | refine yK.w ?_ rfl | exact yK.rf)); done))| (refine yJ.cg (yS.J h) ?_ ?_ <;> ((repeat (first | refine yK.w ?_ rfl | exact yK.rf)); done))| (refine yL.cg (yS.L h) ?_ ?_ <;> ((repeat (first | refine yK.w ?_ rfl | exact yK.rf)); done))| (refine yM.cg (yM.up (yS.R h) (by omega)) ?_ ?_ <;> ((repeat (first | refine yK.w ?_ rfl | exact yK.rf)); done))| (refine yN.cg (yS.N h) ?_ (fun _ => ⟨rfl, rfl⟩) <;> ((repeat (first | refine yK.w ?_ rfl | exact yK.rf)); done))| (refine yU.cg (yS.U h) ?_ <;> ((repeat (first | refine yK.w ?_ rfl | exact yK.rf)); done))))
    obtain ⟨q, aw', dl', X', M', f1, f2, f3, f4⟩ := yS.clock_loop (r0 := zz_h M 40 1 42) (v := v) (t := v - zz_h M 40 1 0) rr.1 g.2.2 (by omega) (v - zz_h M 40 1 0).toNat zz_fu zz_fu 0 _ aw dl X _ h' (by rw [yy_slot (by decide)]; omega) (by omega) (by omega) (by omega) (by omega) (by rw [yy_same, yy_slot (by decide)]; omega) (by rw [yy_slot (by decide)]; omega)
    refine yW.w q f3 ?_ ?_ (by rw [f4]; omega)
    · unfold x_clock j_min
      rw [h.A.t, yy_r (z := zz_h M 40 1 0 + 5000) (by omega) (by omega)]
      have e : ((if zz_h M 40 1 0 + 5000 ≤ 400000 then (some (zz_h M 40 1 0 + 5000, X)) else (some (400000, X))) : zz_R) = some (if zz_h M 40 1 0 + 5000 ≤ 400000 then zz_h M 40 1 0 + 5000 else 400000, X) := by split <;> rfl
      rw [e, Option.bind_some]
      dsimp only
      rw [x_isWithin_ok, Option.bind_some]
      dsimp only
      rw [if_pos (show zz_h M 40 1 0 ≤ v ∧ v ≤ _ from ⟨g.1, by split <;> omega⟩), if_neg (by decide), h.A.r, h.A.t, yy_r (by omega) (by omega)]
      exact f1
    · unfold m_clock
      rw [if_neg (by omega), yy_r (by omega) (by omega), if_pos (by omega), if_pos g.2.2]
      exact f2
  · refine hW.q ⟨-2, ?_, ?_⟩
    · unfold x_clock j_min
      rw [h.A.t, yy_r (z := zz_h M 40 1 0 + 5000) (by omega) (by omega)]
      have e : ((if zz_h M 40 1 0 + 5000 ≤ 400000 then (some (zz_h M 40 1 0 + 5000, X)) else (some (400000, X))) : zz_R) = some (if zz_h M 40 1 0 + 5000 ≤ 400000 then zz_h M 40 1 0 + 5000 else 400000, X) := by split <;> rfl
      rw [e, Option.bind_some]
      dsimp only
      rw [x_isWithin_ok, Option.bind_some]
      dsimp only
      rw [if_neg (show ¬ (zz_h M 40 1 0 ≤ v ∧ v ≤ (if zz_h M 40 1 0 + 5000 ≤ 400000 then zz_h M 40 1 0 + 5000 else 400000)) from fun z => by
        refine g ⟨z.1, ?_⟩
        have := z.2
        split at this <;> omega), if_pos rfl]
    · unfold m_clock
      by_cases g1 : v < zz_h M 40 1 0
      · rw [if_pos g1]
      · rw [if_neg g1, yy_r (by omega) (by omega)]
        by_cases g2 : v - zz_h M 40 1 0 ≤ 5000
        · rw [if_pos g2, if_neg (by omega)]
        · rw [if_neg g2]
