/-! STAGE B: runs begin, a minute, the clock -/
theorem yS.begins_loop {b r0 : Int} (hr0 : 0 ≤ r0) : ∀ (k n m v : Nat) (aw : List Int) (dl : List yd) (X M : zz_S), yS 1 b aw dl X M → (aw.length : Int) + k = zz_h M 40 1 4 → v + k ≤ 8 → k + 1 < n → k < m → zz_h M 40 1 66 = zz_h M 40 1 42 - r0 → r0 ≤ zz_h M 40 1 42 → ∃ aw' dl' X' M', x_beginRuns_2 n v X = some (0, X') ∧ m_treat_178 m (zz_h M 40 1 0) M = m_treat_201 zz_fu 0 M' ∧ yS 1 b aw' dl' X' M' ∧ yK yn_gx X X' ∧ yK (fun k j => yn_gm k j && !(k == 40 && j == 66)) M M' ∧ zz_h M' 40 1 66 = zz_h M' 40 1 42 - r0 ∧ r0 ≤ zz_h M' 40 1 42 := by
  intro k
  induction k with
  | zero =>
    intro n m v aw dl X M h hk hv hn hm h66 h0
    obtain ⟨n, rfl⟩ : ∃ q, n = q + 1 := ⟨n - 1, by omega⟩
    obtain ⟨m, rfl⟩ : ∃ q, m = q + 1 := ⟨m - 1, by omega⟩
    refine ⟨aw, dl, X, M, ?_, ?_, h, yK.rf, yK.rf, h66, h0⟩
    · rw [x_beginRuns_2]
      split
      · obtain ⟨f, f1, f2⟩ := h.free
        rcases f2 with ⟨q1, q2⟩ | ⟨q1, q2, q3, q4, q5⟩
        · rw [f1, Option.bind_some]
          dsimp only
          rw [if_pos q1]
        · omega
      · rfl
    · rw [m_treat_178]
      unfold m_begins
      by_cases c : zz_h M 40 1 42 = 2000
      · rw [if_pos c, Option.bind_some]
        dsimp only
        rw [if_pos rfl]
      · rw [if_neg c, h.atWork, Option.bind_some]
        dsimp only
        rw [if_pos (by omega), Option.bind_some]
        dsimp only
        rw [if_pos rfl]
  | succ k ih =>
    intro n m v aw dl X M h hk hv hn hm h66 h0
    obtain ⟨n, rfl⟩ : ∃ q, n = q + 1 := ⟨n - 1, by omega⟩
    obtain ⟨m, rfl⟩ : ∃ q, m = q + 1 := ⟨m - 1, by omega⟩
    have rr := h.A.rr
    have wr := h.A.wr
    have Ll := h.L.le
    have fu := yy_fu
    have rv : zz_r ((v : Int) + 1) = ((v + 1 : Nat) : Int) := by rw [yy_r (by omega) (by omega)]; omega
    obtain ⟨f, f1, f2⟩ := h.free
    rcases f2 with ⟨q1, q2⟩ | ⟨q1, q2, q3, q4, q5⟩
    · omega
    rw [x_beginRuns_2, if_pos (by omega), f1, Option.bind_some, m_treat_178]
    dsimp only
    rw [if_neg (show ¬ f = -1 by omega), h.A.r]
    unfold m_begins
    by_cases c : zz_h M 40 1 42 = 2000
    · rw [if_neg (by omega), if_pos c, Option.bind_some]
      exact ⟨aw, dl, X, M, rfl, if_pos rfl, h, yK.rf, yK.rf, h66, h0⟩
    · obtain ⟨d, d1, d2, d3⟩ := h.first_loop (zz_h M 40 1 0) dl.length zz_fu zz_fu 0 (-1) (by omega) (by omega) (by omega) (Or.inl rfl)
      rw [show ((0 : Nat) : Int) = 0 from rfl] at d2 d3
      rw [if_pos (by omega), if_neg c, h.atWork, Option.bind_some]
      dsimp only
      rw [if_neg (by omega)]
      unfold x_firstToBegin
      rw [d2, d3, Option.bind_some]
      dsimp only
      by_cases cd : d = -1
      · rw [if_pos cd, if_pos cd, Option.bind_some]
        exact ⟨aw, dl, X, M, rfl, if_pos rfl, h, yK.rf, yK.rf, h66, h0⟩
      · obtain ⟨q, z1, z2⟩ : ∃ q : Nat, d = q ∧ q < dl.length := d1.resolve_left cd
        rw [if_neg cd, if_neg cd, z1, if_pos (show zz_b M 85 1 (q : Int) from ⟨by omega, by rw [ya_85]; omega⟩), (h.L.m.a q z2).1]
        obtain ⟨n', e0⟩ := m_begins_skip (u := zz_h M 40 1 0) (d := q) (t := dl[q].1) q1 (by omega) q3 q5 f.toNat zz_fu 0 (by omega) (by omega)
        rw [show ((0 : Nat) : Int) = 0 from rfl] at e0
        obtain ⟨X1, M1, e1, e2, e3, e4, e5, e6⟩ := h.begin1 q z2 f q1 q2 q3 (by omega) (by omega) n'
        rw [e1, Option.bind_some, e0, e2, Option.bind_some, rv]
        dsimp only
        rw [if_neg (by decide), e5 40 1 66 rfl, h66, yy_r (by omega) (by omega)]
        have g : yS 1 b (aw ++ [zz_h M 40 1 42]) (dl.eraseIdx q) X1 (zz_w M1 40 1 66 (zz_h M 40 1 42 - r0 + 1)) := by
          (refine yS.by_ e3 ?_ rfl rfl rfl ?_ ?_ ?_ ?_ ?_ ?_ ?_ ?_ ?_ ?_ ?_ ?_ <;> try (first | (refine yA.cg (yS.A e3) ?_ ?_ <;> ((repeat (first | refine yK.w ?_ rfl | exact yK.rf)); done))| (intro t h1 h2; refine yB.cg (yS.B e3 t h1 h2) ?_ ?_ <;> ((repeat (first | refine yK.w ?_ rfl | exact yK.rf)); done))| (intro t h1 h2; refine yC.cg (yC.up (yS.C e3 t h1 h2) (by omega)) ?_ ?_ <;> ((repeat (first | refine yK.w ?_ rfl | exact yK.rf)); done))| (intro t h1 h2; refine yD.cg (yS.D e3 t h1 h2) ?_ ?_ <;> ((repeat (first | refine yK.w ?_ rfl | exact yK.rf)); done))| (intro t h1 h2; refine yE.cg (yS.E e3 t h1 h2) ?_ ?_ <;> ((repeat (first | refine yK.w ?_ rfl | exact yK.rf)); done))| (intro t h1 h2; refine yF.cg (yS.F e3 t h1 h2) ?_ ?_ <;> ((repeat (first | refine yK.w ?_ rfl | exact yK.rf)); done))| (refine yG.cg (yS.G e3) ?_ ?_ <;> ((repeat (first | refine yK.w ?_ rfl | exact yK.rf)); done))| (intro t h1 h2; refine yI.cg (yS.I e3 t h1 h2) ?_ ?_ <;> ((repeat (first | refine yK.w ?_ rfl | exact yK.rf)); done))| (refine yJ.cg (yS.J e3) ?_ ?_ <;> ((repeat (first | refine yK.w ?_ rfl | exact yK.rf)); done))| (refine yL.cg (yS.L e3) ?_ ?_ <;> ((repeat (first | refine yK.w ?_ rfl | exact yK.rf)); done))| (refine yM.cg (yM.up (yS.R e3) (by omega)) ?_ ?_ <;> ((repeat (first | refine yK.w ?_ rfl | exact yK.rf)); done))| (refine yN.cg (yS.N e3) ?_ (fun _ => ⟨rfl, rfl⟩) <;> ((repeat (first | refine yK.w ?_ rfl | exact yK.rf)); done))| (refine yU.cg (yS.U e3) ?_ <;> ((repeat (first | refine yK.w ?_ rfl | exact yK.rf)); done))))
        have n0 : zz_h (zz_w M1 40 1 66 (zz_h M 40 1 42 - r0 + 1)) 40 1 0 = zz_h M 40 1 0 := (yy_slot (by decide)).trans (e5 40 1 0 rfl)
        have n4 : zz_h (zz_w M1 40 1 66 (zz_h M 40 1 42 - r0 + 1)) 40 1 4 = zz_h M 40 1 4 := (yy_slot (by decide)).trans (e5 40 1 4 rfl)
        have n42 : zz_h (zz_w M1 40 1 66 (zz_h M 40 1 42 - r0 + 1)) 40 1 42 = zz_h M 40 1 42 + 1 := (yy_slot (by decide)).trans e6
        obtain ⟨aw', dl', X', M', w1, w2, w3, w4, w5, w6, w7⟩ := ih n m (v + 1) _ _ X1 _ g (by rw [n4, List.length_append, List.length_singleton]; omega) (by omega) (by omega) (by omega) (by rw [n42, yy_same]; omega) (by omega)
        rw [n0] at w2
        exact ⟨aw', dl', X', M', w1, w2, w3, e4.tr w4, ((e5.sub (by intro k j e; simp [yn_gm] at e ⊢; omega)).w rfl).tr w5, w6, w7⟩
theorem yS.begins {b r0 : Int} {aw : List Int} {dl : List yd} {X M : zz_S} (h : yS 1 b aw dl X M) (hr0 : 0 ≤ r0) (h66 : zz_h M 40 1 66 = zz_h M 40 1 42 - r0) (h0 : r0 ≤ zz_h M 40 1 42) : ∃ aw' dl' X' M', x_beginRuns X = some (0, X') ∧ m_treat_178 zz_fu (zz_h M 40 1 0) M = m_treat_201 zz_fu 0 M' ∧ yS 1 b aw' dl' X' M' ∧ yK yn_gx X X' ∧ yK (fun k j => yn_gm k j && !(k == 40 && j == 66)) M M' ∧ zz_h M' 40 1 66 = zz_h M' 40 1 42 - r0 ∧ r0 ≤ zz_h M' 40 1 42 := by
  have wr := h.A.wr
  have fu := yy_fu
  have pl := h.J.pe.length_eq
  have wl := yw_length M (zz_h M 40 1 4).toNat
  exact yS.begins_loop hr0 ((zz_h M 40 1 4).toNat - aw.length) zz_fu zz_fu 0 aw dl X M h (by omega) (by omega) (by omega) (by omega) h66 h0
theorem yS.idle_loop {e : Nat} {b : Int} {aw : List Int} {dl : List yd} : ∀ (k n m w : Nat) (X M : zz_S), yS e b aw dl X M → (w : Int) + k = zz_h M 40 1 4 → k < n → k < m → ∃ X' M', x_treatMinute_18 n w X = some (0, zz_w X' 3 1 16 (zz_r (zz_h X' 3 1 16 + 1))) ∧ m_treat_201 m w M = some (0, M') ∧ yS e b aw dl X' M' ∧ yK (fun k _ => !(k == 15)) X X' ∧ yK (fun k _ => !(k == 42)) M M' := by
  intro k
  induction k with
  | zero =>
    intro n m w X M h a c d
    obtain ⟨n, rfl⟩ : ∃ q, n = q + 1 := ⟨n - 1, by omega⟩
    obtain ⟨m, rfl⟩ : ∃ q, m = q + 1 := ⟨m - 1, by omega⟩
    refine ⟨X, M, ?_, ?_, h, yK.rf, yK.rf⟩
    · rw [x_treatMinute_18, h.A.w, if_neg (by omega)]
    · rw [m_treat_201, if_neg (by omega)]
  | succ k ih =>
    intro n m w X M h a c d
    obtain ⟨n, rfl⟩ : ∃ q, n = q + 1 := ⟨n - 1, by omega⟩
    obtain ⟨m, rfl⟩ : ∃ q, m = q + 1 := ⟨m - 1, by omega⟩
    have wr := h.A.wr
    have r : zz_r ((w : Int) + 1) = ((w + 1 : Nat) : Int) := by rw [yy_r (by omega) (by omega)]; omega
    have b16 : zz_b X 16 1 (w : Int) := ⟨by omega, by rw [ya_16]; omega⟩
    have b15 : zz_b X 15 1 (w : Int) := ⟨by omega, by rw [ya_15]; omega⟩
    have b41 : zz_b M 41 1 (w : Int) := ⟨by omega, by rw [ya_41]; omega⟩
    have b42 : zz_b M 42 1 (w : Int) := ⟨by omega, by rw [ya_42]; omega⟩
    rw [x_treatMinute_18, m_treat_201, h.A.w, if_pos (show (w : Int) < zz_h M 40 1 4 by omega), if_pos b16, if_pos (show (w : Int) < zz_h M 40 1 4 by omega), if_pos b41, r]
    rcases h.J.bu w (by omega) (by omega) with ⟨g1, g2⟩ | ⟨g1, g2, g3, g4⟩
    · rw [if_pos g1, if_pos g2, if_pos b15, if_pos b15, if_pos b42, if_pos b42, h.G.d w (by omega) (by omega)]
      obtain ⟨X', M', z1, z2, z3, z4, z5⟩ := ih n m (w + 1) _ _ (h.setIdle w (zz_r (zz_h M 42 1 w + 1))) (by rw [yy_kind (by decide)]; omega) (by omega) (by omega)
      exact ⟨X', M', z1, z2, z3, (show yK _ X (zz_w X 15 1 (w : Int) _) from by (repeat (first | refine yK.w ?_ rfl | exact yK.rf))).tr z4, (show yK _ M (zz_w M 42 1 (w : Int) _) from by (repeat (first | refine yK.w ?_ rfl | exact yK.rf))).tr z5⟩
    · have g5 := (h.J.mem _).mp g3
      rw [if_neg (show ¬ zz_h X 16 1 w = 0 by omega), if_neg (show ¬ zz_h M 41 1 w = -1 by omega)]
      exact ih n m (w + 1) X M h (by omega) (by omega) (by omega)
theorem yS.minute {b : Int} {aw : List Int} {dl : List yd} {X M : zz_S} (h : yS 1 b aw dl X M) (ht : zz_h M 40 1 0 < 400000) : yS 0 b aw dl (zz_w X 3 1 16 (zz_h M 40 1 0 + 1)) (zz_w M 40 1 0 (zz_h M 40 1 0 + 1)) := by
  have n9 : zz_h (zz_w M 40 1 0 (zz_h M 40 1 0 + 1)) 40 1 9 = zz_h M 40 1 9 := yy_slot (by decide)
  have n42 : zz_h (zz_w M 40 1 0 (zz_h M 40 1 0 + 1)) 40 1 42 = zz_h M 40 1 42 := yy_slot (by decide)
  unfold yS
  rw [n9, n42, yy_same]
  refine ⟨?_, fun t h1 h2 => (h.B t h1 h2).cg (by (repeat (first | refine yK.w ?_ rfl | exact yK.rf))) (by (repeat (first | refine yK.w ?_ rfl | exact yK.rf))), fun t h1 h2 => (h.C t h1 h2).cg (by (repeat (first | refine yK.w ?_ rfl | exact yK.rf))) (by (repeat (first | refine yK.w ?_ rfl | exact yK.rf))), ?_, fun t h1 h2 => (h.E t h1 h2).cg (by (repeat (first | refine yK.w ?_ rfl | exact yK.rf))) (by (repeat (first | refine yK.w ?_ rfl | exact yK.rf))), fun t h1 h2 => (h.F t h1 h2).cg (by (repeat (first | refine yK.w ?_ rfl | exact yK.rf))) (by (repeat (first | refine yK.w ?_ rfl | exact yK.rf))), h.G.cg (by (repeat (first | refine yK.w ?_ rfl | exact yK.rf))) (by (repeat (first | refine yK.w ?_ rfl | exact yK.rf))), fun t h1 h2 => (h.I t h1 h2).cg (by (repeat (first | refine yK.w ?_ rfl | exact yK.rf))) (by (repeat (first | refine yK.w ?_ rfl | exact yK.rf))), h.J.cg (by (repeat (first | refine yK.w ?_ rfl | exact yK.rf))) (by (repeat (first | refine yK.w ?_ rfl | exact yK.rf))), h.L.cg (by (repeat (first | refine yK.w ?_ rfl | exact yK.rf))) (by (repeat (first | refine yK.w ?_ rfl | exact yK.rf))), h.R.cg (by (repeat (first | refine yK.w ?_ rfl | exact yK.rf))) (by (repeat (first | refine yK.w ?_ rfl | exact yK.rf))), h.N.cg (by (repeat (first | refine yK.w ?_ rfl | exact yK.rf))) yQ.rf.w, h.U.cg (by (repeat (first | refine yK.w ?_ rfl | exact yK.rf)))⟩
  · have a := h.A
    have tr := a.tr
    have to := a.to
    unfold yA
    simp only [zz_h_w]
    simp
    exact ⟨a.n, a.nr, a.r, a.rr, a.g, a.gr, a.w, a.wr, by omega, a.o, a.or, by omega, a.h, a.hr, a.s, a.sr, a.p, a.pr⟩
  · intro t h1 h2
    have d := h.D t h1 h2
    have c := d.c
    have m := d.m
    have o := d.o
    unfold yD
    rw [yy_kind (show ¬ 62 = 40 by decide), yy_kind (show ¬ 63 = 40 by decide), yy_kind (show ¬ 7 = 3 by decide), yy_kind (show ¬ 7 = 3 by decide)]
    refine ⟨fun z => absurd z (by decide), ?_, ?_, o⟩
    · omega
    · omega
theorem yS.treat {b r0 : Int} {aw : List Int} {dl : List yd} {X M : zz_S} (h : yS 0 b aw dl X M) (hb : b < 1000000000) (ht : zz_h M 40 1 0 < 400000) (hr0 : 0 ≤ r0) (h66 : zz_h M 40 1 66 = zz_h M 40 1 42 - r0) (h0 : r0 ≤ zz_h M 40 1 42) :
    ∃ aw' dl' X' M', x_treatMinute X = some (0, X') ∧ m_treat (zz_h M 40 1 0) M = some (0, M') ∧ zz_h M' 40 1 0 = zz_h M 40 1 0 ∧ yS 0 (b + 1100) aw' dl' X' (zz_w M' 40 1 0 (zz_h M 40 1 0 + 1)) ∧ zz_h M' 40 1 66 = zz_h M' 40 1 42 - r0 ∧ r0 ≤ zz_h M' 40 1 42 := by
  have fu := yy_fu
  have rr := h.A.rr
  have tr := h.A.tr
  obtain ⟨M1, a1, a2, a3⟩ := h.fireOn
  have u1 : zz_h M1 40 1 0 = zz_h M 40 1 0 := a3 40 1 0 rfl
  have ll := a2.J.len a2.A.wr
  have rr1 := a2.A.rr
  obtain ⟨aw2, dl2, X2, M2, b1, b2, b3, b4, b5⟩ := yS.endsAll (zz_h M1 40 1 42).toNat zz_fu zz_fu 0 0 b aw dl X M1 a2 (by omega) (by omega) (by omega) (by omega) (by omega) (fun r hr hlt => by
    have := (a2.J.mem r).mp hr
    omega)
  rw [u1] at b2
  have u2 : zz_h M2 40 1 0 = zz_h M 40 1 0 := (b5 40 1 0 rfl).trans u1
  obtain ⟨dl3, X3, M3, c1, c2, c3, c4, c5⟩ := b3.bring (by omega)
  rw [u2] at c2
  have u3 : zz_h M3 40 1 0 = zz_h M 40 1 0 := (c5 40 1 0 rfl).trans u2
  obtain ⟨dl4, X4, M4, d1, d2, d3, d4, d5⟩ := c3.misses (by omega)
  rw [u3] at d2
  have u4 : zz_h M4 40 1 0 = zz_h M 40 1 0 := (d5 40 1 0 rfl).trans u3
  have v42 : zz_h M4 40 1 42 = zz_h M 40 1 42 := (d5 40 1 42 rfl).trans ((c5 40 1 42 rfl).trans ((b5 40 1 42 rfl).trans (a3 40 1 42 rfl)))
  have v66 : zz_h M4 40 1 66 = zz_h M 40 1 66 := (d5 40 1 66 rfl).trans ((c5 40 1 66 rfl).trans ((b5 40 1 66 rfl).trans (a3 40 1 66 rfl)))
  obtain ⟨aw5, dl5, X5, M5, e1, e2, e3, e4, e5, e6, e7⟩ := d3.begins hr0 (by omega) (by omega)
  rw [u4] at e2
  have u5 : zz_h M5 40 1 0 = zz_h M 40 1 0 := (e5 40 1 0 rfl).trans u4
  have wr := e3.A.wr
  obtain ⟨X6, M6, f1, f2, f3, f4, f5⟩ := yS.idle_loop (zz_h M5 40 1 4).toNat zz_fu zz_fu 0 X5 M5 e3 (by omega) (by omega) (by omega)
  rw [show ((0 : Nat) : Int) = 0 from rfl] at f1 f2
  have u6 : zz_h M6 40 1 0 = zz_h M 40 1 0 := (f5 40 1 0 rfl).trans u5
  have w6 := f3.minute (by omega)
  refine ⟨aw5, dl5, zz_w X6 3 1 16 (zz_h M6 40 1 0 + 1), M6, ?_, ?_, u6, ?_, ?_, ?_⟩
  · unfold x_treatMinute x_endRuns
    rw [show x_endRuns_2 zz_fu 0 X = some (0, X2) from b1, Option.bind_some]
    dsimp only
    rw [c1, Option.bind_some]
    dsimp only
    rw [d1, Option.bind_some]
    dsimp only
    rw [e1, Option.bind_some]
    dsimp only
    rw [f1, f3.A.t, yy_r (by omega) (by omega)]
  · rw [a1, show m_treat_37 zz_fu (zz_h M 40 1 0) 0 M1 = m_treat_78 zz_fu (zz_h M 40 1 0) 0 M2 from b2, c2, d2, Option.bind_some]
    dsimp only
    rw [e2, f2]
  · rw [u6] at w6 ⊢
    exact w6.up (by omega)
  · rw [f5 40 1 66 rfl, f5 40 1 42 rfl]
    exact e6
  · rw [f5 40 1 42 rfl]
    exact e7
