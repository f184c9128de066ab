/-! STAGE B: plans, cancel, stop -/
theorem yS.plan_loop {e : Nat} {b : Int} {aw : List Int} {dl : List yd} {X M : zz_S} (h : yS e b aw dl X M) (t u kk : Int) : ∀ (k n m i : Nat), (i : Int) + k = zz_h M 40 1 37 → k < n → k < m → ∃ p : Int, 0 ≤ p ∧ xP_placeOf_2 n t u i X = some (p, X) ∧ ((p < zz_h M 40 1 37 ∧ zz_h M 71 1 p = t ∧ zz_h M 72 1 p = u ∧ m_plan_34 m t u kk i M = some (zz_h M 40 1 37, zz_w M 73 1 p kk)) ∨ (p = zz_h M 40 1 37 ∧ m_plan_34 m t u kk i M = m_plan_34 1 t u kk (zz_h M 40 1 37) M)) := by
  have pr := h.A.pr
  intro k
  induction k with
  | zero =>
    intro n m i a b1 b2
    obtain ⟨n, rfl⟩ : ∃ q, n = q + 1 := ⟨n - 1, by omega⟩
    obtain ⟨m, rfl⟩ : ∃ q, m = q + 1 := ⟨m - 1, by omega⟩
    refine ⟨zz_h M 40 1 37, pr.1, ?_, Or.inr ⟨rfl, ?_⟩⟩
    · rw [xP_placeOf_2, h.A.p, if_neg (by omega)]
    · have : (i : Int) = zz_h M 40 1 37 := by omega
      rw [this]
      simp only [m_plan_34, Int.lt_irrefl, if_false]
  | succ k ih =>
    intro n m i a b1 b2
    obtain ⟨n, rfl⟩ : ∃ q, n = q + 1 := ⟨n - 1, by omega⟩
    obtain ⟨m, rfl⟩ : ∃ q, m = q + 1 := ⟨m - 1, by omega⟩
    have r : zz_r ((i : Int) + 1) = ((i + 1 : Nat) : Int) := by rw [yy_r (by omega) (by omega)]; omega
    have i0 : (0 : Int) ≤ i := by omega
    have i1 : (i : Int) < zz_h M 40 1 37 := by omega
    have i4 : (i : Int) < 40 := by omega
    have g1 := h.G.p1 i i0 i1
    have g2 := h.G.p2 i i0 i1
    have e := ih n m (i + 1) (by omega) (by omega) (by omega)
    have b71 : zz_b M 71 1 (i : Int) := ⟨i0, by rw [ya_71]; omega⟩
    have b72 : zz_b M 72 1 (i : Int) := ⟨i0, by rw [ya_72]; omega⟩
    have b73 : zz_b M 73 1 (i : Int) := ⟨i0, by rw [ya_73]; omega⟩
    have b25 : zz_b X 25 1 (i : Int) := ⟨i0, by rw [ya_25]; omega⟩
    have b26 : zz_b X 26 1 (i : Int) := ⟨i0, by rw [ya_26]; omega⟩
    rw [xP_placeOf_2, h.A.p, if_pos i1, if_pos b25, if_pos b26, g1, g2, r]
    have em : m_plan_34 (m + 1) t u kk i M = (if zz_h M 71 1 (i : Int) = t then (if zz_h M 72 1 (i : Int) = u then some (zz_h M 40 1 37, zz_w M 73 1 (i : Int) kk) else m_plan_34 m t u kk ((i + 1 : Nat) : Int) M) else m_plan_34 m t u kk ((i + 1 : Nat) : Int) M) := by
      rw [m_plan_34, if_pos i1, if_pos b71, if_pos b72, if_pos b73, r]
      rfl
    rw [em]
    by_cases c1 : zz_h M 71 1 i = t
    · rw [if_pos c1, if_pos c1]
      by_cases c2 : zz_h M 72 1 i = u
      · rw [if_pos c2, if_pos c2]
        exact ⟨i, i0, rfl, Or.inl ⟨i1, c1, c2, rfl⟩⟩
      · rw [if_neg c2, if_neg c2]
        exact e
    · rw [if_neg c1, if_neg c1]
      exact e
theorem yW.plan {c : Int} {X M : zz_S} (hW : yW c X M) (t u k : Int) : yR c (x_plan t u k) (m_plan t u k) X M := by
  obtain ⟨aw, dl, h⟩ := hW
  have nr := h.A.nr
  have pr := h.A.pr
  have fu := yy_fu
  have hW : yW c X M := ⟨aw, dl, h⟩
  by_cases g : 0 ≤ t ∧ t < zz_h M 40 1 9
  · have a1 : ¬ t + 1 = 0 := by omega
    by_cases k1 : 1 ≤ u ∧ u ≤ 50
    · by_cases k2 : 0 ≤ k ∧ k ≤ 15
      · obtain ⟨p, p0, e1, e2⟩ := h.plan_loop t u k (zz_h M 40 1 37).toNat zz_fu zz_fu 0 (by omega) (by omega) (by omega)
        rw [show ((0 : Nat) : Int) = 0 from rfl] at e1 e2
        have ex : x_plan t u k X = ((xP_put t u k X).bind fun q4 => (if q4.1 = 0 then (some ((-4), q4.2)) else (some ((zz_h q4.2 6 1 3), q4.2)))) := by
          unfold x_plan
          simp only [x_taskAt_in h g.1 g.2, Option.bind_some, a1, if_false, x_isWithin_ok, k1, k2, and_self, if_true, if_neg yy_10]
        have em : m_plan t u k M = m_plan_34 zz_fu t u k 0 M := by
          unfold m_plan
          simp only [m_isTask_ok _ _ nr, g.1, g.2, k1, k2, Option.bind_some, if_true, if_false, m_in_ok, and_self, if_neg yy_10]
        unfold xP_put xP_placeOf at ex
        rw [e1, Option.bind_some] at ex
        dsimp only at ex
        rcases e2 with ⟨q1, q2, q3, q4⟩ | ⟨q1, q2⟩
        · have h' : yS 0 (50000 * c + 1100 * zz_h M 40 1 0) aw dl (zz_w (zz_w (zz_w (zz_w X 25 1 p t) 26 1 p u) 27 1 p k) 6 1 3 (zz_h M 40 1 37)) (zz_w M 73 1 p k) := by
            (refine yS.by_ h ?_ rfl rfl rfl ?_ ?_ ?_ ?_ ?_ ?_ ?_ ?_ ?_ ?_ ?_ ?_ <;> try (first | (refine yA.cg (yS.A h) ?_ ?_ <;> ((repeat (first | refine yK.w ?_ rfl | exact yK.rf)); done))| (intro t h1 h2; refine yB.cg (yS.B h t h1 h2) ?_ ?_ <;> ((repeat (first | refine yK.w ?_ rfl | exact yK.rf)); done))| (intro t h1 h2; refine yC.cg (yC.up (yS.C h t h1 h2) (by omega)) ?_ ?_ <;> ((repeat (first | refine yK.w ?_ rfl | exact yK.rf)); done))| (intro t h1 h2; refine yD.cg (yS.D h t h1 h2) ?_ ?_ <;> ((repeat (first | refine yK.w ?_ rfl | exact yK.rf)); done))| (intro t h1 h2; refine yE.cg (yS.E h t h1 h2) ?_ ?_ <;> ((repeat (first | refine yK.w ?_ rfl | exact yK.rf)); done))| (intro t h1 h2; refine yF.cg (yS.F h t h1 h2) ?_ ?_ <;> ((repeat (first | refine yK.w ?_ rfl | exact yK.rf)); done))| (refine yG.cg (yS.G h) ?_ ?_ <;> ((repeat (first | refine yK.w ?_ rfl | exact yK.rf)); done))| (intro t h1 h2; refine yI.cg (yS.I h t h1 h2) ?_ ?_ <;> ((repeat (first | refine yK.w ?_ rfl | exact yK.rf)); done))| (refine yJ.cg (yS.J h) ?_ ?_ <;> ((repeat (first | refine yK.w ?_ rfl | exact yK.rf)); done))| (refine yL.cg (yS.L h) ?_ ?_ <;> ((repeat (first | refine yK.w ?_ rfl | exact yK.rf)); done))| (refine yM.cg (yM.up (yS.R h) (by omega)) ?_ ?_ <;> ((repeat (first | refine yK.w ?_ rfl | exact yK.rf)); done))| (refine yN.cg (yS.N h) ?_ (fun _ => ⟨rfl, rfl⟩) <;> ((repeat (first | refine yK.w ?_ rfl | exact yK.rf)); done))| (refine yU.cg (yS.U h) ?_ <;> ((repeat (first | refine yK.w ?_ rfl | exact yK.rf)); done))))
            · have a := h.A
              unfold yA
              exact ⟨a.n, a.nr, a.r, a.rr, a.g, a.gr, a.w, a.wr, a.t, a.tr, a.o, a.or, a.to, a.h, a.hr, a.s, a.sr, rfl, a.pr⟩
            · have a := h.G
              unfold yG
              refine ⟨a.g, fun i h1 h2 => ?_, fun i h1 h2 => ?_, fun i h1 h2 => ?_, a.c, a.d⟩
              · by_cases z : i = p
                · subst z
                  simp [zz_h_w, q2]
                · simpa [zz_h_w, z] using a.p1 i h1 h2
              · by_cases z : i = p
                · subst z
                  simp [zz_h_w, q3]
                · simpa [zz_h_w, z] using a.p2 i h1 h2
              · by_cases z : i = p
                · subst z
                  simp [zz_h_w]
                · simpa [zz_h_w, z] using a.p3 i h1 h2
          refine yW.w (zz_h M 40 1 37) h' ?_ (em.trans q4) (by rw [yy_kind (by decide)]; omega)
          rw [ex, if_pos (by omega), if_pos (show zz_b X 25 1 p from ⟨p0, by rw [ya_25]; omega⟩), if_pos (show zz_b _ 26 1 p from ⟨p0, by rw [ya_26]; omega⟩), if_pos (show zz_b _ 27 1 p from ⟨p0, by rw [ya_27]; omega⟩)]
          have e6 : zz_h (zz_w (zz_w (zz_w X 25 1 p t) 26 1 p u) 27 1 p k) 6 1 3 = zz_h M 40 1 37 := h.A.p
          rw [e6, yy_r (by omega) (by omega)]
          unfold j_max
          rw [if_neg (show ¬ zz_h M 40 1 37 < p + 1 by omega), Option.bind_some, Option.bind_some]
          dsimp only
          rw [if_neg yy_10, yy_same]
        · by_cases c40 : zz_h M 40 1 37 = 40
          · refine hW.q ⟨-4, ?_, ?_⟩
            · rw [ex, if_neg (by omega)]
              rfl
            · rw [em, q2, m_plan_34, if_neg (by omega), if_pos c40]
          · have r1 : zz_r (zz_h M 40 1 37 + 1) = zz_h M 40 1 37 + 1 := yy_r (by omega) (by omega)
            subst q1
            have h' : yS 0 (50000 * c + 1100 * zz_h M 40 1 0) aw dl (zz_w (zz_w (zz_w (zz_w X 25 1 (zz_h M 40 1 37) t) 26 1 (zz_h M 40 1 37) u) 27 1 (zz_h M 40 1 37) k) 6 1 3 (zz_h M 40 1 37 + 1)) (zz_w (zz_w (zz_w (zz_w M 71 1 (zz_h M 40 1 37) t) 72 1 (zz_h M 40 1 37) u) 73 1 (zz_h M 40 1 37) k) 40 1 37 (zz_h M 40 1 37 + 1)) := by
              (refine yS.by_ h ?_ rfl rfl rfl ?_ ?_ ?_ ?_ ?_ ?_ ?_ ?_ ?_ ?_ ?_ ?_ <;> try (first | (refine yA.cg (yS.A h) ?_ ?_ <;> ((repeat (first | refine yK.w ?_ rfl | exact yK.rf)); done))| (intro t h1 h2; refine yB.cg (yS.B h t h1 h2) ?_ ?_ <;> ((repeat (first | refine yK.w ?_ rfl | exact yK.rf)); done))| (intro t h1 h2; refine yC.cg (yC.up (yS.C h t h1 h2) (by omega)) ?_ ?_ <;> ((repeat (first | refine yK.w ?_ rfl | exact yK.rf)); done))| (intro t h1 h2; refine yD.cg (yS.D h t h1 h2) ?_ ?_ <;> ((repeat (first | refine yK.w ?_ rfl | exact yK.rf)); done))| (intro t h1 h2; refine yE.cg (yS.E h t h1 h2) ?_ ?_ <;> ((repeat (first | refine yK.w ?_ rfl | exact yK.rf)); done))| (intro t h1 h2; refine yF.cg (yS.F h t h1 h2) ?_ ?_ <;> ((repeat (first | refine yK.w ?_ rfl | exact yK.rf)); done))| (refine yG.cg (yS.G h) ?_ ?_ <;> ((repeat (first | refine yK.w ?_ rfl | exact yK.rf)); done))| (intro t h1 h2; refine yI.cg (yS.I h t h1 h2) ?_ ?_ <;> ((repeat (first | refine yK.w ?_ rfl | exact yK.rf)); done))| (refine yJ.cg (yS.J h) ?_ ?_ <;> ((repeat (first | refine yK.w ?_ rfl | exact yK.rf)); done))| (refine yL.cg (yS.L h) ?_ ?_ <;> ((repeat (first | refine yK.w ?_ rfl | exact yK.rf)); done))| (refine yM.cg (yM.up (yS.R h) (by omega)) ?_ ?_ <;> ((repeat (first | refine yK.w ?_ rfl | exact yK.rf)); done))| (refine yN.cg (yS.N h) ?_ (fun _ => ⟨rfl, rfl⟩) <;> ((repeat (first | refine yK.w ?_ rfl | exact yK.rf)); done))| (refine yU.cg (yS.U h) ?_ <;> ((repeat (first | refine yK.w ?_ rfl | exact yK.rf)); done))))
              · have a := h.A
                unfold yA
                exact ⟨a.n, a.nr, a.r, a.rr, a.g, a.gr, a.w, a.wr, a.t, a.tr, a.o, a.or, a.to, a.h, a.hr, a.s, a.sr, rfl, by rw [yy_same]; omega⟩
              · have a := h.G
                unfold yG
                rw [yy_same]
                refine ⟨a.g, fun i h1 h2 => ?_, fun i h1 h2 => ?_, fun i h1 h2 => ?_, a.c, a.d⟩
                · by_cases z : i = zz_h M 40 1 37
                  · simp [zz_h_w, z]
                  · simpa [zz_h_w, z] using a.p1 i h1 (by omega)
                · by_cases z : i = zz_h M 40 1 37
                  · simp [zz_h_w, z]
                  · simpa [zz_h_w, z] using a.p2 i h1 (by omega)
                · by_cases z : i = zz_h M 40 1 37
                  · simp [zz_h_w, z]
                  · simpa [zz_h_w, z] using a.p3 i h1 (by omega)
            refine yW.w (zz_h M 40 1 37 + 1) h' ?_ ?_ (by rw [yy_slot (by decide), yy_kind (by decide), yy_kind (by decide), yy_kind (by decide)]; omega)
            · rw [ex, if_pos (by omega), if_pos (show zz_b X 25 1 _ from ⟨p0, by rw [ya_25]; omega⟩), if_pos (show zz_b _ 26 1 (zz_h M 40 1 37) from ⟨p0, by rw [ya_26]; omega⟩), if_pos (show zz_b _ 27 1 (zz_h M 40 1 37) from ⟨p0, by rw [ya_27]; omega⟩)]
              have e6 : zz_h (zz_w (zz_w (zz_w X 25 1 (zz_h M 40 1 37) t) 26 1 (zz_h M 40 1 37) u) 27 1 (zz_h M 40 1 37) k) 6 1 3 = zz_h M 40 1 37 := h.A.p
              rw [e6, r1]
              unfold j_max
              rw [if_pos (show zz_h M 40 1 37 < zz_h M 40 1 37 + 1 by omega), Option.bind_some, Option.bind_some]
              dsimp only
              rw [if_neg yy_10, yy_same]
            · rw [em, q2, m_plan_34, if_neg (by omega), if_neg c40, if_pos (show zz_b M 71 1 _ from ⟨p0, by rw [ya_71]; omega⟩)]
              have e1 : zz_h (zz_w M 71 1 (zz_h M 40 1 37) t) 40 1 37 = zz_h M 40 1 37 := rfl
              have e2 : zz_h (zz_w (zz_w M 71 1 (zz_h M 40 1 37) t) 72 1 (zz_h M 40 1 37) u) 40 1 37 = zz_h M 40 1 37 := rfl
              have e3 : zz_h (zz_w (zz_w (zz_w M 71 1 (zz_h M 40 1 37) t) 72 1 (zz_h M 40 1 37) u) 73 1 (zz_h M 40 1 37) k) 40 1 37 = zz_h M 40 1 37 := rfl
              dsimp only
              rw [e1, if_pos (show zz_b _ 72 1 (zz_h M 40 1 37) from ⟨p0, by rw [ya_72]; omega⟩), e2, if_pos (show zz_b _ 73 1 (zz_h M 40 1 37) from ⟨p0, by rw [ya_73]; omega⟩), e3, r1]
      · refine hW.q ⟨-2, ?_, ?_⟩
        · unfold x_plan
          simp only [x_taskAt_in h g.1 g.2, Option.bind_some, a1, if_false, x_isWithin_ok, k1, k2, and_self, if_true, if_neg yy_10]
        · unfold m_plan
          simp only [m_isTask_ok _ _ nr, g.1, g.2, k1, k2, Option.bind_some, if_true, if_false, m_in_ok, and_self, if_neg yy_10]
    · refine hW.q ⟨-2, ?_, ?_⟩
      · unfold x_plan
        simp only [x_taskAt_in h g.1 g.2, Option.bind_some, a1, if_false, x_isWithin_ok, k1, and_self, if_true, if_neg yy_10]
      · unfold m_plan
        simp only [m_isTask_ok _ _ nr, g.1, g.2, k1, Option.bind_some, if_true, if_false, m_in_ok, and_self, if_neg yy_10]
  · refine hW.q ⟨-2, ?_, ?_⟩
    · unfold x_plan
      rw [x_taskAt_out h g, Option.bind_some]
      rfl
    · unfold m_plan
      rw [m_isTask_ok _ _ nr, if_neg g, Option.bind_some]
      rfl
/-! STAGE B: runs are interrupted -/
def yIP (M : zz_S) (all t r : Int) : Bool := all == 1 || zz_h M 75 1 r == t
theorem yS.firstAtWork_loop {e : Nat} {b : Int} {aw : List Int} {dl : List yd} {X M : zz_S} (h : yS e b aw dl X M) (all t v : Int) (t0 : 0 ≤ t) (hv : (all = 1 ∧ v = 0) ∨ (all = 0 ∧ v = t + 1)) : ∀ (c n k : Nat), k + c = aw.length → c < n → x_firstAtWork_2 n v k X = some (match (aw.drop k).find? (yIP M all t) with | some r => r + 1 | none => 0, X) := by
  have ll := h.J.len h.A.wr
  intro c
  induction c with
  | zero =>
    intro n k a b1
    obtain ⟨n, rfl⟩ : ∃ q, n = q + 1 := ⟨n - 1, by omega⟩
    rw [x_firstAtWork_2, h.J.le, if_neg (by omega), List.drop_eq_nil_of_le (by omega)]
    rfl
  | succ c ih =>
    intro n k a b1
    obtain ⟨n, rfl⟩ : ∃ q, n = q + 1 := ⟨n - 1, by omega⟩
    have hk : k < aw.length := by omega
    obtain ⟨r0, r1, r2⟩ := (h.J.mem aw[k]).mp (List.getElem_mem hk)
    have I := h.I aw[k] r0 r1
    have rz : zz_r ((k : Int) + 1) = ((k + 1 : Nat) : Int) := by rw [yy_r (by omega) (by omega)]; omega
    have a1 : ¬ aw[k] + 1 = 0 := by omega
    rw [x_firstAtWork_2, h.J.le, if_pos (by omega), if_pos (show zz_b X 13 1 (k : Int) from ⟨by omega, by rw [ya_13]; omega⟩), h.J.at_ k hk, if_neg a1, if_neg a1, I.ta, rz, List.drop_eq_getElem_cons hk, List.find?_cons]
    rcases hv with ⟨v1, v2⟩ | ⟨v1, v2⟩
    · rw [if_pos v2, show yIP M all t aw[k] = true by simp [yIP, v1]]
    · rw [if_neg (by omega)]
      by_cases c1 : zz_h M 75 1 aw[k] = t
      · rw [if_pos (by omega), show yIP M all t aw[k] = true by simp [yIP, c1]]
      · rw [if_neg (by omega), show yIP M all t aw[k] = false by simp [yIP, c1, v1]]
        exact ih n (k + 1) (by omega) (by omega)
theorem yS.interruptAll {all t v : Int} (t0 : 0 ≤ t) (hall : (all = 1 ∧ v = 0) ∨ (all = 0 ∧ v = t + 1)) : ∀ (k n m i u : Nat) (b : Int) (aw : List Int) (dl : List yd) (X M : zz_S), yS 0 b aw dl X M → b + 100 * aw.length < 1600000000 → (i : Int) + k = zz_h M 40 1 42 → k < m → aw.length + u ≤ 8 → aw.length + 1 < n → (∀ r ∈ aw, r < i → yIP M all t r = false) → ∃ aw' dl' X' M', x_interruptRuns_2 n v u X = some (0, X') ∧ m_interrupts_2 m t all i M = some (0, M') ∧ yS 0 (b + 100 * aw.length) aw' dl' X' M' ∧ yK yn_em M M' := by
  intro k
  induction k with
  | zero =>
    intro n m i u b aw dl X M h hb hi hm hv hn ha
    obtain ⟨n, rfl⟩ : ∃ q, n = q + 1 := ⟨n - 1, by omega⟩
    obtain ⟨m, rfl⟩ : ∃ q, m = q + 1 := ⟨m - 1, by omega⟩
    have fu := yy_fu
    have ll := h.J.len h.A.wr
    refine ⟨aw, dl, X, M, ?_, ?_, h.up (by omega), yK.rf⟩
    · have e := h.firstAtWork_loop all t v t0 hall aw.length zz_fu 0 (by omega) (by omega)
      rw [List.drop_zero, List.find?_eq_none.mpr] at e
      · rw [x_interruptRuns_2]
        split
        · unfold x_firstAtWork
          rw [show ((0 : Nat) : Int) = 0 from rfl] at e
          rw [e, Option.bind_some]
          rfl
        · rfl
      · intro r hr
        have := (h.J.mem r).mp hr
        have := ha r hr (by omega)
        rw [this]
        decide
    · rw [m_interrupts_2, if_neg (by omega)]
  | succ k ih =>
    intro n m i u b aw dl X M h hb hi hm hv hn ha
    obtain ⟨m, rfl⟩ : ∃ q, m = q + 1 := ⟨m - 1, by omega⟩
    have fu := yy_fu
    have nr := h.A.nr
    have ll := h.J.len h.A.wr
    have rr := h.A.rr
    have rz : zz_r ((i : Int) + 1) = ((i + 1 : Nat) : Int) := by rw [yy_r (by omega) (by omega)]; omega
    have b80 : zz_b M 80 1 (i : Int) := ⟨by omega, by rw [ya_80]; omega⟩
    have b75 : zz_b M 75 1 (i : Int) := ⟨by omega, by rw [ya_75]; omega⟩
    have skip : (zz_h M 80 1 (i : Int) = 0 → yIP M all t i = false) → ∃ aw' dl' X' M', x_interruptRuns_2 n v u X = some (0, X') ∧ m_interrupts_2 m t all ((i + 1 : Nat) : Int) M = some (0, M') ∧ yS 0 (b + 100 * aw.length) aw' dl' X' M' ∧ yK yn_em M M' := by
      intro hno
      refine ih n m (i + 1) u b aw dl X M h hb (by omega) (by omega) hv hn fun r hr hlt => ?_
      by_cases c : r = i
      · subst c
        exact hno ((h.J.mem _).mp hr).2.2
      · exact ha r hr (by omega)
    have act : zz_h M 80 1 (i : Int) = 0 → yIP M all t i = true → ∃ aw' dl' X' M', x_interruptRuns_2 n v u X = some (0, X') ∧ m_interrupts_36 (m_interrupts_2 m) t all i M = some (0, M') ∧ yS 0 (b + 100 * aw.length) aw' dl' X' M' ∧ yK yn_em M M' := by
      intro c1 c2
      have hr : (i : Int) ∈ aw := (h.J.mem _).mpr ⟨by omega, by omega, c1⟩
      have l1 := yy_len_ne h.J.so hr
      obtain ⟨n, rfl⟩ : ∃ q, n = q + 1 := ⟨n - 1, by omega⟩
      have e := h.firstAtWork_loop all t v t0 hall aw.length zz_fu 0 (by omega) (by omega)
      rw [List.drop_zero, yy_find _ (i : Int) aw h.J.so hr c2 (fun r hr2 hlt => ha r hr2 hlt), show ((0 : Nat) : Int) = 0 from rfl] at e
      have I := h.I i (by omega) (by omega)
      have tr := I.tr
      have t60 : zz_h M 75 1 (i : Int) < 60 := by omega
      have a1 : ¬ (i : Int) + 1 = 0 := by omega
      have ru : zz_r ((u : Int) + 1) = ((u + 1 : Nat) : Int) := by rw [yy_r (by omega) (by omega)]; omega
      obtain ⟨X1, M1, e1, e2, e3, e4, e5, -⟩ := h.lay i 3 hr (by omega)
      have n9 : zz_h M1 40 1 9 = zz_h M 40 1 9 := e5 40 1 9 rfl
      have n0 : zz_h M1 40 1 0 = zz_h M 40 1 0 := e5 40 1 0 rfl
      have x101 : zz_h X1 10 ((i : Int) + 1) 1 = zz_h M 75 1 (i : Int) + 1 := (e4 10 _ 1 rfl).trans I.ta
      -- behind the pause
      have fin : ∀ X2 M2, yS 0 b (aw.filter (fun q => q != i)) dl X2 M2 → yK yn_em M M2 → ∃ aw' dl' X' M', ((x_tellAfters (zz_h M 75 1 (i : Int) + 1) 0 X2).bind fun q4 => (x_interruptRuns_2 n v ((u + 1 : Nat) : Int) q4.2)) = some (0, X') ∧ m_interrupts_97 (m_interrupts_2 m) t all i (zz_h M 75 1 (i : Int)) M2 = some (0, M') ∧ yS 0 (b + 100 * aw.length) aw' dl' X' M' ∧ yK yn_em M M' := by
        intro X2 M2 g km
        have p9 : zz_h M2 40 1 9 = zz_h M 40 1 9 := km 40 1 9 rfl
        obtain ⟨dl3, X3, M3, f1, f2, f3, f4, f5⟩ := g.tell (by omega) (zz_h M 75 1 (i : Int)) 0 tr.1 (by omega)
        have km3 : yK yn_em M M3 := km.tr (f5.sub (by (intro k j e; first | rfl | (simp [yk_A, yk_B, yk_C, yk_D, yk_E, yk_F, yk_G, yk_M, yk_I, yk_J, yk_L, yk_Lx, yk_Lm, yk_N, yk_U, yn_cx, yn_cm, yn_Lx, yn_Lm, yn_em] at e ⊢; omega))))
        have p42 : zz_h M3 40 1 42 = zz_h M 40 1 42 := km3 40 1 42 rfl
        obtain ⟨aw', dl', X', M', z1, z2, z3, z4⟩ := ih n m (i + 1) (u + 1) (b + 60) _ dl3 X3 M3 f3 (by omega) (by omega) (by omega) (by omega) (by omega) (fun r hr2 hlt => by
          obtain ⟨g1, g2⟩ := List.mem_filter.mp hr2
          have g2 : ¬ r = i := by simpa using g2
          have := ha r g1 (by omega)
          unfold yIP at this ⊢
          rw [km3 75 1 r rfl]
          exact this)
        refine ⟨aw', dl', X', M', ?_, ?_, z3.up (by omega), km3.tr z4⟩
        · rw [f1, Option.bind_some]
          exact z1
        · unfold m_interrupts_97
          rw [f2, Option.bind_some, rz]
          exact z2
      rw [x_interruptRuns_2, if_pos (by omega)]
      unfold x_firstAtWork m_interrupts_36
      rw [e, Option.bind_some, if_pos b75, e2, Option.bind_some, ru]
      dsimp only
      rw [if_neg a1, e1, Option.bind_some]
      dsimp only
      rw [if_neg a1, if_neg a1, x101]
      have km1 : yK yn_em M M1 := e5.sub (by (intro k j e; first | rfl | (simp [yk_A, yk_B, yk_C, yk_D, yk_E, yk_F, yk_G, yk_M, yk_I, yk_J, yk_L, yk_Lx, yk_Lm, yk_N, yk_U, yn_cx, yn_cm, yn_Lx, yn_Lm, yn_lm, yn_em] at e ⊢; omega)))
      rcases hall with ⟨q1, q2⟩ | ⟨q1, q2⟩
      · have a2 : ¬ zz_h M 75 1 (i : Int) + 1 = 0 := by omega
        have B1 := e3.B _ tr.1 (by rw [n9]; exact tr.2)
        have C1 := e3.C _ tr.1 (by rw [n9]; exact tr.2)
        rw [if_pos q2, if_neg (show ¬ all = 0 by omega), if_pos (show zz_b M1 44 1 _ from ⟨tr.1, by rw [ya_44]; exact t60⟩)]
        unfold x_pauseAgain
        simp only [a2, if_false, B1.ki, C1.st, B1.ga, e3.A.t]
        by_cases ck : zz_h M1 44 1 (zz_h M 75 1 (i : Int)) = 2
        · rw [if_pos ck, if_pos ck, m_isActive_ok _ _ ⟨tr.1, t60⟩, Option.bind_some]
          by_cases ca : zz_h M1 56 1 (zz_h M 75 1 (i : Int)) = 0
          · rw [if_pos ca, if_pos ca, Option.bind_some, if_neg yy_10, if_pos (show zz_b M1 46 1 _ from ⟨tr.1, by rw [ya_46]; exact t60⟩), if_pos (show zz_b M1 57 1 _ from ⟨tr.1, by rw [ya_57]; exact t60⟩)]
            dsimp only
            rw [if_neg a1, yy_kind (by decide), x101]
            exact fin _ _ (e3.setNext _ _) (km1.w rfl)
          · rw [if_neg ca, if_neg ca, Option.bind_some, if_pos rfl]
            dsimp only
            rw [if_neg a1, x101]
            exact fin _ _ e3 km1
        · rw [if_neg ck, if_neg ck, Option.bind_some]
          dsimp only
          rw [if_neg a1, x101]
          exact fin _ _ e3 km1
      · rw [if_neg (by omega), if_pos q1]
        exact fin _ _ e3 km1
    rw [m_interrupts_2, if_pos (by omega), if_pos b80]
    by_cases c1 : zz_h M 80 1 (i : Int) = 0
    · rw [if_pos c1, if_pos b75, rz]
      rcases hall with ⟨q1, q2⟩ | ⟨q1, q2⟩
      · rw [if_neg (show ¬ all = 0 by omega)]
        exact act c1 (by simp [yIP, q1])
      · rw [if_pos q1]
        by_cases c2 : zz_h M 75 1 (i : Int) = t
        · rw [if_pos c2]
          exact act c1 (by simp [yIP, c2])
        · rw [if_neg c2]
          exact skip (fun _ => by simp [yIP, c2, q1])
    · rw [if_neg c1, rz]
      exact skip (fun z => absurd z c1)
theorem yS.interrupts {b all t v : Int} {aw : List Int} {dl : List yd} {X M : zz_S} (h : yS 0 b aw dl X M) (hb : b < 1500000000) (t0 : 0 ≤ t) (hall : (all = 1 ∧ v = 0) ∨ (all = 0 ∧ v = t + 1)) : ∃ aw' dl' X' M', x_interruptRuns v X = some (0, X') ∧ m_interrupts t all M = some (0, M') ∧ yS 0 (b + 800) aw' dl' X' M' ∧ yK yn_em M M' := by
  have fu := yy_fu
  have rr := h.A.rr
  have ll := h.J.len h.A.wr
  obtain ⟨aw', dl', X', M', e1, e2, e3, e4⟩ := yS.interruptAll t0 hall (zz_h M 40 1 42).toNat zz_fu zz_fu 0 0 b aw dl X M h (by omega) (by omega) (by omega) (by omega) (by omega) (fun r hr hlt => by
    have := (h.J.mem r).mp hr
    omega)
  exact ⟨aw', dl', X', M', e1, e2, e3.up (by omega), e4⟩
theorem yW.cancel {c : Int} {X M : zz_S} (hW : yW c X M) (hc : c ≤ 600) (t v : Int) : yR c (x_cancel t v) (m_cancel t v) X M := by
  obtain ⟨aw, dl, h⟩ := hW
  have nr := h.A.nr
  have tr := h.A.tr
  have hW : yW c X M := ⟨aw, dl, h⟩
  by_cases g : 0 ≤ t ∧ t < zz_h M 40 1 9
  · have a1 : ¬ t + 1 = 0 := by omega
    have t60 : t < 60 := by omega
    by_cases k : 0 ≤ v ∧ v ≤ 1
    · by_cases ca : zz_h M 56 1 t = 0
      · obtain ⟨X1, M1, e1, e2, e3, e4, e5, -⟩ := h.leave t 3 g.1 g.2 (Or.inl rfl)
        have n0 : zz_h M1 40 1 0 = zz_h M 40 1 0 := e5 40 1 0 rfl
        have ex : x_cancel t v X = (if v = 1 then ((x_interruptRuns (t + 1) X1).bind fun q5 => (some (1, q5.2))) else (some (1, X1))) := by
          unfold x_cancel
          simp only [x_taskAt_in h g.1 g.2, Option.bind_some, a1, if_false, x_isWithin_ok, k, and_self, if_true, if_neg yy_10, xT_isActive_ok h g.1 g.2, ca, e1]
        have em : m_cancel t v M = (if v = 1 then ((m_interrupts t 0 M1).bind fun q6 => (some (1, q6.2))) else (some (1, M1))) := by
          unfold m_cancel
          simp only [m_isTask_ok _ _ nr, g.1, g.2, k, Option.bind_some, if_true, if_false, m_in_ok, and_self, if_neg yy_10, m_isActive_ok _ _ ⟨g.1, t60⟩, ca, zz_b, ya_56, t60, e2]
        by_cases kv : v = 1
        · obtain ⟨aw', dl', X', M', f1, f2, f3, f4⟩ := e3.interrupts (by omega) g.1 (Or.inr ⟨rfl, rfl⟩)
          refine yW.w 1 f3 ?_ ?_ (by rw [f4 40 1 0 rfl, n0]; omega)
          · rw [ex, if_pos kv, f1]
            rfl
          · rw [em, if_pos kv, f2]
            rfl
        · refine yW.w 1 e3 ?_ ?_ (by rw [n0]; omega)
          · rw [ex, if_neg kv]
          · rw [em, if_neg kv]
      · refine hW.q ⟨-3, ?_, ?_⟩
        · unfold x_cancel
          simp only [x_taskAt_in h g.1 g.2, Option.bind_some, a1, if_false, x_isWithin_ok, k, and_self, if_true, if_neg yy_10, xT_isActive_ok h g.1 g.2, ca]
        · unfold m_cancel
          simp only [m_isTask_ok _ _ nr, g.1, g.2, k, Option.bind_some, if_true, if_false, m_in_ok, and_self, if_neg yy_10, m_isActive_ok _ _ ⟨g.1, t60⟩, ca]
    · refine hW.q ⟨-2, ?_, ?_⟩
      · unfold x_cancel
        simp only [x_taskAt_in h g.1 g.2, Option.bind_some, a1, if_false, x_isWithin_ok, k, and_self, if_true, if_neg yy_10]
      · unfold m_cancel
        simp only [m_isTask_ok _ _ nr, g.1, g.2, k, Option.bind_some, if_true, if_false, m_in_ok, and_self, if_neg yy_10]
  · refine hW.q ⟨-2, ?_, ?_⟩
    · unfold x_cancel
      rw [x_taskAt_out h g, Option.bind_some]
      rfl
    · unfold m_cancel
      rw [m_isTask_ok _ _ nr, if_neg g, Option.bind_some]
      rfl
