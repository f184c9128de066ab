/-! STAGE B: an end is told to those that come after -/
theorem x_taskAt_in {e : Nat} {b : Int} {aw : List Int} {dl : List yd} {X M : zz_S} (h : yS e b aw dl X M) {t : Int} (h1 : 0 ≤ t) (h2 : t < zz_h M 40 1 9) : x_taskAt t X = some (t + 1, X) := by
  have nr := h.A.nr
  unfold x_taskAt
  rw [h.A.n, yy_r (by omega) (by omega), x_isWithin_ok, Option.bind_some]
  dsimp only
  rw [if_pos (show 0 ≤ t ∧ t ≤ zz_h M 40 1 9 - 1 by omega), if_neg (by decide), if_pos (show zz_b X 11 1 t from ⟨h1, by rw [ya_11]; omega⟩), (h.B t h1 h2).re]
theorem x_taskAt_out {e : Nat} {b : Int} {aw : List Int} {dl : List yd} {X M : zz_S} (h : yS e b aw dl X M) {t : Int} (hn : ¬ (0 ≤ t ∧ t < zz_h M 40 1 9)) : x_taskAt t X = some (0, X) := by
  have nr := h.A.nr
  unfold x_taskAt
  rw [h.A.n, yy_r (by omega) (by omega), x_isWithin_ok, Option.bind_some]
  dsimp only
  rw [if_neg (show ¬ (0 ≤ t ∧ t ≤ zz_h M 40 1 9 - 1) by omega), if_pos rfl]
theorem xT_isActive_ok {e : Nat} {b : Int} {aw : List Int} {dl : List yd} {X M : zz_S} (h : yS e b aw dl X M) {t : Int} (h1 : 0 ≤ t) (h2 : t < zz_h M 40 1 9) : xT_isActive (t + 1) X = some (if zz_h M 56 1 t = 0 then 1 else 0, X) := by
  unfold xT_isActive
  rw [if_neg (show ¬ t + 1 = 0 by omega), (h.C t h1 h2).st]
  split <;> rfl
theorem x_isActive_ok {e : Nat} {b : Int} {aw : List Int} {dl : List yd} {X M : zz_S} (h : yS e b aw dl X M) {t : Int} (h1 : 0 ≤ t) (h2 : t < zz_h M 40 1 9) : x_isActive (t + 1) X = some (if zz_h M 56 1 t = 0 then 1 else 0, X) := by
  unfold x_isActive
  rw [if_neg (show ¬ t + 1 = 0 by omega), if_neg (show ¬ t + 1 = 0 by omega), xT_isActive_ok h h1 h2, Option.bind_some]
  by_cases c : zz_h M 56 1 t = 0
  · rw [if_pos c]
    rfl
  · rw [if_neg c]
    rfl
theorem yS.tell_loop {e : Nat} {aw : List Int} {src g u : Int} (s1 : 0 ≤ src) : ∀ (k n m i : Nat) (b : Int) (dl : List yd) (X M : zz_S), yS e b aw dl X M → src < zz_h M 40 1 9 → u = zz_h M 40 1 0 → (i : Int) + k = zz_h M 40 1 9 → k < n → k < m → b + k < 2000000000 → ∃ dl' X' M', x_tellAfters_2 n (src + 1) g i X = some (0, X') ∧ m_notes_3 m src g u i M = some (0, M') ∧ yS e (b + k) aw dl' X' M' ∧ yK yn_cx X X' ∧ yK yn_cm M M' := by
  intro k
  induction k with
  | zero =>
    intro n m i b dl X M h s2 hu a q1 q2 hb
    obtain ⟨n, rfl⟩ : ∃ q, n = q + 1 := ⟨n - 1, by omega⟩
    obtain ⟨m, rfl⟩ : ∃ q, m = q + 1 := ⟨m - 1, by omega⟩
    refine ⟨dl, X, M, ?_, ?_, h.up (by omega), yK.rf, yK.rf⟩
    · rw [x_tellAfters_2, h.A.n, if_neg (by omega)]
    · rw [m_notes_3, if_neg (by omega)]
  | succ k ih =>
    intro n m i b dl X M h s2 hu a q1 q2 hb
    obtain ⟨n, rfl⟩ : ∃ q, n = q + 1 := ⟨n - 1, by omega⟩
    obtain ⟨m, rfl⟩ : ∃ q, m = q + 1 := ⟨m - 1, by omega⟩
    have nr := h.A.nr
    have i1 : (0 : Int) ≤ i := by omega
    have i2 : (i : Int) < zz_h M 40 1 9 := by omega
    have i60 : (i : Int) < 60 := by omega
    have r : zz_r ((i : Int) + 1) = ((i + 1 : Nat) : Int) := by rw [yy_r (by omega) (by omega)]; omega
    have t0 : ¬ (i : Int) + 1 = 0 := by omega
    have F := h.F i i1 i2
    have skip : ∃ dl' X' M', x_tellAfters_2 n (src + 1) g ((i + 1 : Nat) : Int) X = some (0, X') ∧ m_notes_3 m src g u ((i + 1 : Nat) : Int) M = some (0, M') ∧ yS e (b + (k + 1 : Nat)) aw dl' X' M' ∧ yK yn_cx X X' ∧ yK yn_cm M M' := by
      obtain ⟨dl', X', M', z1, z2, z3, z4, z5⟩ := ih n m (i + 1) b dl X M h s2 hu (by omega) (by omega) (by omega) (by omega)
      exact ⟨dl', X', M', z1, z2, z3.up (by omega), z4, z5⟩
    rw [x_tellAfters_2, m_notes_3, h.A.n, if_pos i2, if_pos i2, x_taskAt_in h i1 i2, Option.bind_some]
    dsimp only
    rw [x_isActive_ok h i1 i2, Option.bind_some, if_pos (show zz_b M 44 1 i from ⟨i1, by rw [ya_44]; omega⟩), m_isActive_ok _ _ ⟨i1, i60⟩, r]
    dsimp only
    rw [(h.B i i1 i2).ki]
    by_cases ca : zz_h M 56 1 i = 0
    · simp only [ca, if_true, show ¬ (1 : Int) = 0 by decide, if_false, t0, Option.bind_some]
      by_cases ck : zz_h M 44 1 i = 4
      · have x1 := xN_fit_loop (src := src) (g := g) F i1 (zz_h M 68 1 i).toNat zz_fu 0 (by have := F.nr; omega) (by have := F.nr; have := yy_fu; omega)
        have x2 := m_notes_loop (src := src) (g := g) (u := u) F i1 i60 (m_notes_3 m) (zz_h M 68 1 i).toNat zz_fu 0 0 (by have := F.nr; omega) (by have := F.nr; have := yy_fu; omega) (Or.inl rfl)
        rw [show ((0 : Nat) : Int) = 0 from rfl] at x1 x2
        have r4 : zz_r (4 * (i : Int)) = 4 * (i : Int) + 0 := by rw [yy_r (by omega) (by omega)]; omega
        have s0 : ¬ src + 1 = 0 := by omega
        rw [if_pos ck, if_pos ck, r4, x2, if_neg s0, (h.B src s1 s2).nu]
        unfold xN_fit
        rw [x1, Option.bind_some]
        dsimp only
        by_cases cp : ∃ j : Int, 0 ≤ j ∧ j < zz_h M 68 1 i ∧ yP M i src g j
        · rw [if_pos cp, if_neg (by decide), if_neg (fun z => z.2 cp)]
          obtain ⟨dl1, X1, M1, w1, w2, w3, w4, w5⟩ := h.comes (by omega) i i1 i2 ca
          have n1 : zz_h M1 40 1 9 = zz_h M 40 1 9 := w5 40 1 9 rfl
          have n2 : zz_h M1 40 1 0 = zz_h M 40 1 0 := w5 40 1 0 rfl
          obtain ⟨dl', X', M', z1, z2, z3, z4, z5⟩ := ih n m (i + 1) (b + 1) dl1 X1 M1 w3 (by omega) (by omega) (by omega) (by omega) (by omega) (by omega)
          refine ⟨dl', X', M', ?_, ?_, z3.up (by omega), w4.tr z4, w5.tr z5⟩
          · rw [w1, Option.bind_some]
            exact z1
          · rw [hu, w2, Option.bind_some]
            dsimp only
            rw [← hu]
            exact z2
        · rw [if_neg cp, if_pos rfl, if_pos ⟨rfl, cp⟩]
          exact skip
      · rw [if_neg ck, if_neg ck]
        exact skip
    · simp only [ca, if_false, if_true, Option.bind_some]
      have e44 : (if zz_h M 44 1 (i : Int) = 4 then m_notes_3 m src g u ((i + 1 : Nat) : Int) M else m_notes_3 m src g u ((i + 1 : Nat) : Int) M) = m_notes_3 m src g u ((i + 1 : Nat) : Int) M := by split <;> rfl
      rw [e44]
      exact skip
/-- an end of a run of src, good (1) or not (0), is told -/
theorem yS.tell {e : Nat} {b : Int} {aw : List Int} {dl : List yd} {X M : zz_S} (h : yS e b aw dl X M) (hb : b < 1900000000) (src g : Int) (h1 : 0 ≤ src) (h2 : src < zz_h M 40 1 9) :
    ∃ dl' X' M', x_tellAfters (src + 1) g X = some (0, X') ∧ m_notes src g (zz_h M 40 1 0) M = some (0, M') ∧ yS e (b + 60) aw dl' X' M' ∧ yK yn_cx X X' ∧ yK yn_cm M M' := by
  have nr := h.A.nr
  have fu := yy_fu
  obtain ⟨dl', X', M', z1, z2, z3, z4, z5⟩ := yS.tell_loop (g := g) h1 (zz_h M 40 1 9).toNat zz_fu zz_fu 0 b dl X M h h2 rfl (by omega) (by omega) (by omega) (by omega)
  exact ⟨dl', X', M', z1, z2, z3.up (by omega), z4, z5⟩
