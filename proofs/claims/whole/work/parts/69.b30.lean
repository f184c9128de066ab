/-! STAGE B: questions -/
theorem yW.cell {c : Int} {X M : zz_S} (hW : yW c X M) (v : Int) : yR c (x_cell v) (m_cell v) X M := by
  obtain ⟨aw, dl, h⟩ := hW
  refine yW.q ⟨aw, dl, h⟩ ?_
  unfold x_cell m_cell
  rw [x_isWithin_ok, m_in_ok, Option.bind_some, Option.bind_some]
  dsimp only
  by_cases g : 0 ≤ v ∧ v ≤ 7
  · rw [if_pos g, if_neg yy_10, if_neg yy_10, if_pos (show zz_b X 17 1 v from ⟨g.1, by rw [ya_17]; omega⟩), if_pos (show zz_b M 74 1 v from ⟨g.1, by rw [ya_74]; omega⟩), h.G.c v g.1 (by omega)]
    exact ⟨_, rfl, rfl⟩
  · rw [if_neg g, if_pos rfl, if_pos rfl]
    exact ⟨_, rfl, rfl⟩
theorem yW.idle {c : Int} {X M : zz_S} (hW : yW c X M) (v : Int) : yR c (x_idle v) (m_idle v) X M := by
  obtain ⟨aw, dl, h⟩ := hW
  have wr := h.A.wr
  refine yW.q ⟨aw, dl, h⟩ ?_
  unfold x_idle m_idle
  rw [h.A.w, yy_r (by omega) (by omega), x_isWithin_ok, m_in_ok, Option.bind_some, Option.bind_some]
  dsimp only
  by_cases g : 0 ≤ v ∧ v ≤ zz_h M 40 1 4 - 1
  · rw [if_pos g, if_neg yy_10, if_neg yy_10, if_pos (show zz_b X 15 1 v from ⟨g.1, by rw [ya_15]; omega⟩), if_pos (show zz_b M 42 1 v from ⟨g.1, by rw [ya_42]; omega⟩), h.G.d v g.1 (by omega)]
    exact ⟨_, rfl, rfl⟩
  · rw [if_neg g, if_pos rfl, if_pos rfl]
    exact ⟨_, rfl, rfl⟩
theorem yW.load {c : Int} {X M : zz_S} (hW : yW c X M) (v : Int) : yR c (x_load v) (m_load v) X M := by
  obtain ⟨aw, dl, h⟩ := hW
  have gr := h.A.gr
  refine yW.q ⟨aw, dl, h⟩ ?_
  unfold x_load m_load
  rw [h.A.g, yy_r (by omega) (by omega), x_isWithin_ok, m_in_ok, Option.bind_some, Option.bind_some]
  dsimp only
  by_cases g : 0 ≤ v ∧ v ≤ zz_h M 40 1 7 - 1
  · rw [if_pos g, if_neg yy_10, if_neg yy_10, h.workIn, h.loadOf]
    exact ⟨_, rfl, rfl⟩
  · rw [if_neg g, if_pos rfl, if_pos rfl]
    exact ⟨_, rfl, rfl⟩
theorem yW.waiting {c : Int} {X M : zz_S} (hW : yW c X M) (i v : Int) : yR c (x_waiting i v) (m_waiting i v) X M := by
  obtain ⟨aw, dl, h⟩ := hW
  have Ll := h.L.le
  refine yW.q ⟨aw, dl, h⟩ ?_
  unfold x_waiting m_waiting
  rw [x_isWithin_ok, m_in_ok, Option.bind_some, Option.bind_some]
  dsimp only
  by_cases g : 0 ≤ v ∧ v ≤ 2
  · rw [if_pos g, if_neg yy_10, if_neg yy_10, h.L.x.le, h.L.m.le, yy_r (by omega) (by omega), x_isWithin_ok, m_in_ok, Option.bind_some, Option.bind_some]
    dsimp only
    by_cases k : 0 ≤ i ∧ i ≤ (dl.length : Int) - 1
    · obtain ⟨n, rfl⟩ : ∃ n : Nat, i = n := ⟨i.toNat, by omega⟩
      have hn : n < dl.length := by omega
      obtain ⟨x1, x2, x3⟩ := h.L.x.a n hn
      obtain ⟨m1, m2, m3⟩ := h.L.m.a n hn
      obtain ⟨t1, t2, t3, t4⟩ := h.L.t dl[n] (List.getElem_mem hn)
      have B := h.B dl[n].1 t1 t2
      have a1 : ¬ dl[n].1 + 1 = 0 := by omega
      have b1 : zz_b X 19 1 (n : Int) := ⟨by omega, by rw [ya_19]; omega⟩
      have b2 : zz_b X 20 1 (n : Int) := ⟨by omega, by rw [ya_20]; omega⟩
      have b3 : zz_b X 21 1 (n : Int) := ⟨by omega, by rw [ya_21]; omega⟩
      have b4 : zz_b M 85 1 (n : Int) := ⟨by omega, by rw [ya_85]; omega⟩
      have b5 : zz_b M 86 1 (n : Int) := ⟨by omega, by rw [ya_86]; omega⟩
      have b6 : zz_b M 87 1 (n : Int) := ⟨by omega, by rw [ya_87]; omega⟩
      rw [if_pos k, if_neg yy_10, if_neg yy_10]
      simp only [if_pos b1, if_pos b2, if_pos b3, if_pos b4, if_pos b5, if_pos b6, x1, x2, x3, m1, m2, m3, a1, if_false, B.nu]
      by_cases c0 : v = 0
      · rw [if_neg (by omega), if_neg (by omega), if_pos c0]
        exact ⟨_, rfl, rfl⟩
      · by_cases c1 : v = 1
        · rw [if_pos c1, if_neg c0, if_pos c1]
          exact ⟨_, rfl, rfl⟩
        · rw [if_neg c1, if_pos (show v = 2 by omega), if_neg c0, if_neg c1]
          by_cases c2 : dl[n].2.2 = 0
          · rw [if_pos c2, if_pos c2]
            exact ⟨_, rfl, rfl⟩
          · rw [if_neg c2, if_neg c2]
            exact ⟨_, rfl, rfl⟩
    · rw [if_neg k, if_pos rfl, if_pos rfl]
      exact ⟨_, rfl, rfl⟩
  · rw [if_neg g, if_pos rfl, if_pos rfl]
    exact ⟨_, rfl, rfl⟩
theorem yW.book {c : Int} {X M : zz_S} (hW : yW c X M) (hc : c ≤ 600) (i v : Int) : yR c (x_book i v) (m_book i v) X M := by
  obtain ⟨aw, dl, h⟩ := hW
  have kr := h.R.kr
  have tr := h.A.tr
  refine yW.q ⟨aw, dl, h⟩ ?_
  unfold x_book m_book
  rw [x_isWithin_ok, m_in_ok, Option.bind_some, Option.bind_some]
  dsimp only
  by_cases g : 0 ≤ v ∧ v ≤ 2
  · have e : j_min (zz_h M 40 1 57) 300 X = some (if zz_h M 40 1 57 ≤ 300 then zz_h M 40 1 57 else 300, X) := by
      unfold j_min
      split <;> rfl
    rw [if_pos g, if_neg yy_10, if_neg yy_10, h.R.k, e, Option.bind_some]
    dsimp only
    rw [yy_r (z := (if zz_h M 40 1 57 ≤ 300 then zz_h M 40 1 57 else 300) - 1) (by split <;> omega) (by split <;> omega), yy_r (z := zz_h M 40 1 57 - 1) (by omega) (by omega), x_isWithin_ok, m_in_ok, Option.bind_some, Option.bind_some]
    dsimp only
    by_cases k : 0 ≤ i ∧ i < zz_h M 40 1 57 ∧ i < 300
    · have b1 : zz_b X 22 1 i := ⟨by omega, by rw [ya_22]; omega⟩
      have b2 : zz_b X 23 1 i := ⟨by omega, by rw [ya_23]; omega⟩
      have b3 : zz_b X 24 1 i := ⟨by omega, by rw [ya_24]; omega⟩
      have b4 : zz_b M 88 1 i := ⟨by omega, by rw [ya_88]; omega⟩
      have b5 : zz_b M 89 1 i := ⟨by omega, by rw [ya_89]; omega⟩
      have b6 : zz_b M 90 1 i := ⟨by omega, by rw [ya_90]; omega⟩
      rw [if_pos (show 0 ≤ i ∧ i ≤ (if zz_h M 40 1 57 ≤ 300 then zz_h M 40 1 57 else 300) - 1 from ⟨by omega, by split <;> omega⟩), if_neg yy_10, if_pos (show 0 ≤ i ∧ i ≤ zz_h M 40 1 57 - 1 by omega), if_neg yy_10, if_pos k.2.2]
      simp only [if_pos b1, if_pos b2, if_pos b3, if_pos b4, if_pos b5, if_pos b6, h.R.a i k.1 k.2.2 k.2.1, h.R.b i k.1 k.2.2 k.2.1, h.R.c i k.1 k.2.2 k.2.1]
      by_cases c0 : v = 0
      · simp only [if_pos c0]
        exact ⟨_, rfl, rfl⟩
      · simp only [if_neg c0]
        by_cases c1 : v = 1
        · simp only [if_pos c1]
          exact ⟨_, rfl, rfl⟩
        · simp only [if_neg c1]
          exact ⟨_, rfl, rfl⟩
    · rw [if_neg (show ¬ (0 ≤ i ∧ i ≤ (if zz_h M 40 1 57 ≤ 300 then zz_h M 40 1 57 else 300) - 1) from fun z => by have := z.2; split at this <;> omega), if_pos rfl]
      by_cases q : 0 ≤ i ∧ i ≤ zz_h M 40 1 57 - 1
      · rw [if_pos q, if_neg yy_10, if_neg (by omega)]
        exact ⟨_, rfl, rfl⟩
      · rw [if_neg q, if_pos rfl]
        exact ⟨_, rfl, rfl⟩
  · rw [if_neg g, if_pos rfl, if_pos rfl]
    exact ⟨_, rfl, rfl⟩
theorem yW.count {c : Int} {X M : zz_S} (hW : yW c X M) (v : Int) : yR c (x_count v) (m_count v) X M := by
  obtain ⟨aw, dl, h⟩ := hW
  refine yW.q ⟨aw, dl, h⟩ ?_
  unfold x_count m_count
  rw [h.A.n, h.A.r, h.L.x.le, h.L.m.le, h.J.le, h.atWork, Option.bind_some, h.A.t, h.A.o, h.R.k, h.A.g, h.A.w, h.A.h, h.A.s]
  by_cases c0 : v = 0
  · simp only [if_pos c0]
    exact ⟨_, rfl, rfl⟩
  simp only [if_neg c0]
  by_cases c1 : v = 1
  · simp only [if_pos c1]
    exact ⟨_, rfl, rfl⟩
  simp only [if_neg c1]
  by_cases c2 : v = 2
  · simp only [if_pos c2]
    exact ⟨_, rfl, rfl⟩
  simp only [if_neg c2]
  by_cases c3 : v = 3
  · simp only [if_pos c3]
    exact ⟨_, rfl, rfl⟩
  simp only [if_neg c3]
  by_cases c4 : v = 4
  · simp only [if_pos c4]
    exact ⟨_, rfl, rfl⟩
  simp only [if_neg c4]
  by_cases c5 : v = 5
  · simp only [if_pos c5]
    exact ⟨_, rfl, rfl⟩
  simp only [if_neg c5]
  by_cases c6 : v = 6
  · simp only [if_pos c6]
    exact ⟨_, rfl, rfl⟩
  simp only [if_neg c6]
  by_cases c7 : v = 7
  · simp only [if_pos c7]
    exact ⟨_, rfl, rfl⟩
  simp only [if_neg c7]
  by_cases c8 : v = 8
  · simp only [if_pos c8]
    exact ⟨_, rfl, rfl⟩
  simp only [if_neg c8]
  by_cases c9 : v = 9
  · simp only [if_pos c9]
    exact ⟨_, rfl, rfl⟩
  simp only [if_neg c9]
  by_cases c10 : v = 10
  · simp only [if_pos c10]
    by_cases s : zz_h M 40 1 3 = 0
    · simp only [if_pos s]
      exact ⟨_, rfl, rfl⟩
    · simp only [if_neg s]
      exact ⟨_, rfl, rfl⟩
  simp only [if_neg c10]
  exact ⟨_, rfl, rfl⟩
theorem yW.run {c : Int} {X M : zz_S} (hW : yW c X M) (i v : Int) : yR c (x_run i v) (m_run i v) X M := by
  obtain ⟨aw, dl, h⟩ := hW
  have rr := h.A.rr
  refine yW.q ⟨aw, dl, h⟩ ?_
  unfold x_run m_run
  rw [h.A.r, yy_r (by omega) (by omega), x_isWithin_ok, m_in_ok, Option.bind_some, Option.bind_some]
  dsimp only
  by_cases g : 0 ≤ i ∧ i ≤ zz_h M 40 1 42 - 1
  · have I := h.I i g.1 (by omega)
    have B := h.B _ I.tr.1 I.tr.2
    have tr := I.tr
    have a1 : ¬ i + 1 = 0 := by omega
    have a2 : ¬ zz_h M 75 1 i + 1 = 0 := by omega
    have b12 : zz_b X 12 1 i := ⟨by omega, by rw [ya_12]; omega⟩
    have b75 : zz_b M 75 1 i := ⟨by omega, by rw [ya_75]; omega⟩
    have b76 : zz_b M 76 1 i := ⟨by omega, by rw [ya_76]; omega⟩
    have b77 : zz_b M 77 1 i := ⟨by omega, by rw [ya_77]; omega⟩
    have b79 : zz_b M 79 1 i := ⟨by omega, by rw [ya_79]; omega⟩
    have b80 : zz_b M 80 1 i := ⟨by omega, by rw [ya_80]; omega⟩
    have b81 : zz_b M 81 1 i := ⟨by omega, by rw [ya_81]; omega⟩
    have b82 : zz_b M 82 1 i := ⟨by omega, by rw [ya_82]; omega⟩
    have b83 : zz_b M 83 1 i := ⟨by omega, by rw [ya_83]; omega⟩
    rw [if_pos g, if_neg yy_10, if_neg yy_10, if_pos b12]
    simp only [I.re, a1, a2, if_false, I.ta, B.nu, I.du, I.fr, I.en, I.st, I.ki, I.wo, I.gr, if_pos b75, if_pos b76, if_pos b77, if_pos b79, if_pos b80, if_pos b81, if_pos b82, if_pos b83]
    by_cases c0 : v = 0
    · simp only [if_pos c0]
      exact ⟨_, rfl, rfl⟩
    simp only [if_neg c0]
    by_cases c1 : v = 1
    · simp only [if_pos c1]
      exact ⟨_, rfl, rfl⟩
    simp only [if_neg c1]
    by_cases c2 : v = 2
    · simp only [if_pos c2]
      exact ⟨_, rfl, rfl⟩
    simp only [if_neg c2]
    by_cases c3 : v = 3
    · simp only [if_pos c3]
      exact ⟨_, rfl, rfl⟩
    simp only [if_neg c3]
    by_cases c4 : v = 4
    · simp only [if_pos c4]
      exact ⟨_, rfl, rfl⟩
    simp only [if_neg c4]
    by_cases c5 : v = 5
    · simp only [if_pos c5]
      exact ⟨_, rfl, rfl⟩
    simp only [if_neg c5]
    by_cases c6 : v = 6
    · simp only [if_pos c6]
      exact ⟨_, rfl, rfl⟩
    simp only [if_neg c6]
    by_cases c7 : v = 7
    · simp only [if_pos c7]
      exact ⟨_, rfl, rfl⟩
    simp only [if_neg c7]
    exact ⟨_, rfl, rfl⟩
  · rw [if_neg g, if_pos rfl, if_pos rfl]
    exact ⟨_, rfl, rfl⟩
theorem yW.day {c : Int} {X M : zz_S} (hW : yW c X M) (i v : Int) : yR c (x_day i v) (m_day i v) X M := by
  obtain ⟨aw, dl, h⟩ := hW
  unfold yR x_day m_day
  rw [x_isWithin_ok, m_in_ok, Option.bind_some, Option.bind_some]
  dsimp only
  by_cases g : 0 ≤ i ∧ i ≤ 525599
  · have d1 : zz_div i 1440 = i / 1440 := zz_div_ok (by omega) (by omega) (by decide) (by decide)
    have d2 : zz_div i 60 = i / 60 := zz_div_ok (by omega) (by omega) (by decide) (by decide)
    have d3 : zz_rem i 60 = i % 60 := zz_rem_ok (by omega) (by omega) (by decide) (by decide)
    have d4 : zz_rem i 1440 = i % 1440 := zz_rem_ok (by omega) (by omega) (by decide) (by decide)
    have d5 : zz_rem (i / 60) 24 = i / 60 % 24 := zz_rem_ok (by omega) (by omega) (by decide) (by decide)
    have d6 : zz_div (i % 1440) 60 = i % 1440 / 60 := zz_div_ok (by omega) (by omega) (by decide) (by decide)
    have d7 : zz_rem (i / 1440) 7 = i / 1440 % 7 := zz_rem_ok (by omega) (by omega) (by decide) (by decide)
    obtain ⟨s1, s2, s3, s4, s5⟩ := ymo_ok (d := i / 1440) (by omega) (by omega)
    have st := h.N.st (m := (ymo (i / 1440)).toNat) (by omega)
    rw [Int.toNat_of_nonneg s3] at st
    have sr := yst_rng (ymo (i / 1440)).toNat (by omega)
    rw [Int.toNat_of_nonneg s3] at sr
    obtain ⟨M', f1, f2, f3, f4, f5, f6⟩ := m_look_ok M (d := i / 1440) (by omega) (by omega)
    have hW' : yW (c + 1) X M' := ⟨aw, dl, (h.lo f6).up (by rw [f6 40 1 0 rfl]; omega)⟩
    have hW : yW (c + 1) X M := ⟨aw, dl, h.up (by omega)⟩
    rw [if_pos g, if_neg yy_10, if_neg yy_10, d1, d2, d3, d4, d5, d6, d7, xC_monthOf_ok h.N (by omega) (by omega), Option.bind_some, m_in_ok, Option.bind_some]
    dsimp only
    by_cases k : 0 ≤ v ∧ v ≤ 4
    · rw [if_pos k, if_neg yy_10, f1, Option.bind_some]
      dsimp only
      rw [f2, f3, f4, if_pos (show zz_b X 1 1 (ymo (i / 1440)) from ⟨s3, by rw [ya_1]; omega⟩), st, yy_r (z := ymo (i / 1440) + 1) (by omega) (by omega), yy_r (z := i / 1440 - yst (ymo (i / 1440))) (by omega) (by omega), yy_r (z := i / 1440 - yst (ymo (i / 1440)) + 1) (by omega) (by omega)]
      by_cases c0 : v = 0
      · simp only [if_pos c0]
        exact ⟨_, _, _, rfl, rfl, hW'⟩
      simp only [if_neg c0]
      by_cases c1 : v = 1
      · simp only [if_pos c1]
        exact ⟨_, _, _, rfl, rfl, hW'⟩
      simp only [if_neg c1]
      by_cases c2 : v = 2
      · simp only [if_pos c2]
        refine ⟨_, _, _, rfl, ?_, hW'⟩
        rw [show i % 1440 / 60 = i / 60 % 24 by omega]
      simp only [if_neg c2]
      by_cases c3 : v = 3
      · simp only [if_pos c3]
        exact ⟨_, _, _, rfl, rfl, hW'⟩
      simp only [if_neg c3, if_pos (show v = 4 by omega)]
      exact ⟨_, _, _, rfl, rfl, hW'⟩
    · rw [if_neg k, if_pos rfl, if_neg (by omega), if_neg (by omega), if_neg (by omega), if_neg (by omega), if_neg (by omega)]
      exact ⟨_, _, _, rfl, rfl, hW⟩
  · rw [if_neg g, if_pos rfl, if_pos rfl]
    exact ⟨_, _, _, rfl, rfl, aw, dl, h.up (by omega)⟩
theorem yW.of {c : Int} {X M : zz_S} (hW : yW c X M) (t v : Int) : yR c (x_of t v) (m_of t v) X M := by
  obtain ⟨aw, dl, h⟩ := hW
  have nr := h.A.nr
  have tr := h.A.tr
  have Ll := h.L.le
  refine yW.q ⟨aw, dl, h⟩ ?_
  unfold x_of m_of
  rw [m_isTask_ok _ _ nr]
  by_cases g : 0 ≤ t ∧ t < zz_h M 40 1 9
  · have B := h.B t g.1 g.2
    have C := h.C t g.1 g.2
    have wa := h.L.wa t g.1 g.2
    have a1 : ¬ t + 1 = 0 := by omega
    rw [x_taskAt_in h g.1 g.2, if_pos g, Option.bind_some, Option.bind_some]
    dsimp only
    rw [if_neg a1, if_neg yy_10]
    have b44 : zz_b M 44 1 t := ⟨g.1, by rw [ya_44]; omega⟩
    have b45 : zz_b M 45 1 t := ⟨g.1, by rw [ya_45]; omega⟩
    have b53 : zz_b M 53 1 t := ⟨g.1, by rw [ya_53]; omega⟩
    have b56 : zz_b M 56 1 t := ⟨g.1, by rw [ya_56]; omega⟩
    have b58 : zz_b M 58 1 t := ⟨g.1, by rw [ya_58]; omega⟩
    have b59 : zz_b M 59 1 t := ⟨g.1, by rw [ya_59]; omega⟩
    have b60 : zz_b M 60 1 t := ⟨g.1, by rw [ya_60]; omega⟩
    have b61 : zz_b M 61 1 t := ⟨g.1, by rw [ya_61]; omega⟩
    unfold x_stateOf x_stateOf_50
    rw [xT_isActive_ok h g.1 g.2, h.running t g.1 g.2, Option.bind_some]
    simp only [a1, m_duesOf_ok h.L.m Ll, if_false, B.ki, C.be, C.sk, wa, C.fa, B.ac, B.fi, C.st, h.A.t, Option.bind_some, if_pos b44, if_pos b45, if_pos b53, if_pos b56, if_pos b58, if_pos b59, if_pos b60, if_pos b61]
    by_cases c0 : v = 0
    · simp only [if_pos c0]
      by_cases ca : zz_h M 56 1 t = 0
      · simp only [ca, if_true, show ¬ (1 : Int) = 0 by decide, if_false]
        by_cases cw : zz_h X 7 (t + 1) 15 ≤ 0
        · simp only [cw, if_true]
          by_cases ck : zz_h M 44 1 t = 0
          · simp only [ck, if_true]
            by_cases cf : zz_h M 45 1 t < zz_h M 40 1 0
            · simp only [cf, if_true]
              by_cases cd : ydc (fun d => d.1 == t) dl = 0
              · simp only [cd, if_true]
                exact ⟨_, rfl, rfl⟩
              · simp only [cd, if_false]
                exact ⟨_, rfl, rfl⟩
            · simp only [cf, if_false]
              exact ⟨_, rfl, rfl⟩
          · simp only [ck, if_false]
            exact ⟨_, rfl, rfl⟩
        · simp only [cw, if_false, show ¬ (1 : Int) = 0 by decide]
          exact ⟨_, rfl, rfl⟩
      · simp only [ca, if_true, if_false]
        exact ⟨_, rfl, rfl⟩
    simp only [if_neg c0]
    by_cases c1 : v = 1
    · simp only [if_pos c1]
      exact ⟨_, rfl, rfl⟩
    simp only [if_neg c1]
    by_cases c2 : v = 2
    · simp only [if_pos c2]
      exact ⟨_, rfl, rfl⟩
    simp only [if_neg c2]
    by_cases c3 : v = 3
    · simp only [if_pos c3]
      exact ⟨_, rfl, rfl⟩
    simp only [if_neg c3]
    by_cases c4 : v = 4
    · simp only [if_pos c4]
      exact ⟨_, rfl, rfl⟩
    simp only [if_neg c4]
    by_cases c5 : v = 5
    · simp only [if_pos c5]
      exact ⟨_, rfl, rfl⟩
    simp only [if_neg c5]
    by_cases c6 : v = 6
    · simp only [if_pos c6]
      rcases C.rs with q | ⟨q1, q2⟩
      · rw [q]
        by_cases cr : zz_h M 60 1 t ≤ zz_h M 40 1 0
        · simp only [if_pos cr]
          exact ⟨_, rfl, rfl⟩
        · simp only [if_neg cr]
          exact ⟨_, rfl, rfl⟩
      · rw [if_pos (by omega), if_pos (by omega)]
        exact ⟨_, rfl, rfl⟩
    simp only [if_neg c6]
    by_cases c7 : v = 7
    · simp only [if_pos c7]
      exact ⟨_, rfl, rfl⟩
    simp only [if_neg c7]
    exact ⟨_, rfl, rfl⟩
  · rw [x_taskAt_out h g, if_neg g, Option.bind_some, Option.bind_some]
    exact ⟨_, rfl, rfl⟩
