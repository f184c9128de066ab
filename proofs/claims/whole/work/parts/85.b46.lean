/-! STAGE B: the state behind the two constructors -/
theorem yxn_c {s : zz_S} (h4 : zz_c s 4 = 0) (h5 : zz_c s 5 = 0) (h6 : zz_c s 6 = 0) (h11 : zz_c s 11 = 0) (h12 : zz_c s 12 = 0) (h13 : zz_c s 13 = 0) (h14 : zz_c s 14 = 0) (h15 : zz_c s 15 = 0) (h16 : zz_c s 16 = 0) (h17 : zz_c s 17 = 0) (h18 : zz_c s 18 = 0) (h19 : zz_c s 19 = 0) (h20 : zz_c s 20 = 0) (h21 : zz_c s 21 = 0) (h22 : zz_c s 22 = 0) (h23 : zz_c s 23 = 0) (h24 : zz_c s 24 = 0) (h25 : zz_c s 25 = 0) (h26 : zz_c s 26 = 0) (h27 : zz_c s 27 = 0) : ∀ k, zz_c (yxn s) k = if (4 ≤ k ∧ k ≤ 6) ∨ (11 ≤ k ∧ k ≤ 27) then 1 else zz_c s k := by
  intro k
  unfold yxn
  simp only [zz_c_f, zz_c_w, zz_c_n, Nat.reduceEqDiff, if_false, h4, h5, h6, h11, h12, h13, h14, h15, h16, h17, h18, h19, h20, h21, h22, h23, h24, h25, h26, h27, Int.reduceAdd]
  repeat' split
  all_goals first | rfl | omega
theorem yxn_m {s : zz_S} (m3 : zz_m s 3 = 0) (m4 : zz_m s 4 = 0) (m5 : zz_m s 5 = 0) (m6 : zz_m s 6 = 0) (m11 : zz_m s 11 = 0) (m12 : zz_m s 12 = 0) (m13 : zz_m s 13 = 0) (m14 : zz_m s 14 = 0) (m15 : zz_m s 15 = 0) (m16 : zz_m s 16 = 0) (m17 : zz_m s 17 = 0) (m18 : zz_m s 18 = 0) (m19 : zz_m s 19 = 0) (m20 : zz_m s 20 = 0) (m21 : zz_m s 21 = 0) (m22 : zz_m s 22 = 0) (m23 : zz_m s 23 = 0) (m24 : zz_m s 24 = 0) (m25 : zz_m s 25 = 0) (m26 : zz_m s 26 = 0) (m27 : zz_m s 27 = 0) : ∀ k, zz_m (yxn s) k = if (3 ≤ k ∧ k ≤ 6) ∨ (11 ≤ k ∧ k ≤ 27) then 1 else zz_m s k := by
  intro k
  unfold yxn
  simp only [zz_m_f, zz_m_w, zz_m_n, Nat.reduceEqDiff, if_false, if_true, m3, m4, m5, m6, m11, m12, m13, m14, m15, m16, m17, m18, m19, m20, m21, m22, m23, m24, m25, m26, m27, Int.reduceAdd, Int.add_zero]
  repeat' split
  all_goals first | rfl | omega
theorem yxn_h3 (s : zz_S) : zz_h (yxn s) 3 1 11 = 0 ∧ zz_h (yxn s) 3 1 12 = 0 ∧ zz_h (yxn s) 3 1 13 = 0 ∧ zz_h (yxn s) 3 1 14 = 0 ∧ zz_h (yxn s) 3 1 15 = 1 ∧ zz_h (yxn s) 3 1 16 = 0 ∧ zz_h (yxn s) 3 1 17 = 0 ∧ zz_h (yxn s) 3 1 18 = -1 ∧ zz_h (yxn s) 3 1 19 = 0 := by
  unfold yxn
  rw [zz_h_f, zz_h_f, zz_h_f, zz_h_f, zz_h_f, zz_h_f, zz_h_f, zz_h_f, zz_h_f]
  refine ⟨?_, ?_, ?_, ?_, ?_, ?_, ?_, ?_, ?_⟩
  all_goals (repeat (first | exact yy_same | rw [yy_slot (by decide)]))
theorem yy_n {s : zz_S} {k k' n : Nat} {b i j : Int} (h : ¬ k' = k) : zz_h (zz_n s k b n) k' i j = zz_h s k' i j := by rw [zz_h_n, if_neg (fun z => h z.1)]
theorem yy_new {s : zz_S} {k n : Nat} {b j : Int} (h : zz_c s k = 0) : zz_h (zz_n s k b n) k 1 j = 0 := by rw [zz_h_n, h, if_pos ⟨rfl, rfl⟩]
theorem yxn_h4 (s : zz_S) : zz_h (yxn s) 4 1 3 = 0 := by
  unfold yxn
  repeat (first | exact yy_same | rw [yy_kind (by decide)] | rw [yy_n (by decide)] | rw [zz_h_f])
theorem yxn_h5 (s : zz_S) : zz_h (yxn s) 5 1 3 = 0 := by
  unfold yxn
  repeat (first | exact yy_same | rw [yy_kind (by decide)] | rw [yy_n (by decide)] | rw [zz_h_f])
theorem yxn_h6 (s : zz_S) : zz_h (yxn s) 6 1 3 = 0 := by
  unfold yxn
  repeat (first | exact yy_same | rw [yy_kind (by decide)] | rw [yy_n (by decide)] | rw [zz_h_f])
theorem yxn_h15 {s : zz_S} (h : zz_c s 15 = 0) (j : Int) : zz_h (yxn s) 15 1 j = 0 := by
  unfold yxn
  repeat (first | rw [yy_kind (by decide)] | rw [yy_n (by decide)] | rw [zz_h_f])
  refine yy_new ?_
  simp only [zz_c_w, zz_c_n, zz_c_f, Nat.reduceEqDiff, if_false]
  exact h
theorem yxn_h16 {s : zz_S} (h : zz_c s 16 = 0) (j : Int) : zz_h (yxn s) 16 1 j = 0 := by
  unfold yxn
  repeat (first | rw [yy_kind (by decide)] | rw [yy_n (by decide)] | rw [zz_h_f])
  refine yy_new ?_
  simp only [zz_c_w, zz_c_n, zz_c_f, Nat.reduceEqDiff, if_false]
  exact h
theorem yxn_h17 {s : zz_S} (h : zz_c s 17 = 0) (j : Int) : zz_h (yxn s) 17 1 j = 0 := by
  unfold yxn
  repeat (first | rw [yy_kind (by decide)] | rw [yy_n (by decide)] | rw [zz_h_f])
  refine yy_new ?_
  simp only [zz_c_w, zz_c_n, zz_c_f, Nat.reduceEqDiff, if_false]
  exact h
theorem l_law_init {s0 : zz_S} (hc : ∀ k, zz_c s0 k = if k ≤ 2 then 1 else 0) (hm : ∀ k, zz_m s0 k = if k ≤ 2 then 1 else 0) (z1 : ∀ j : Nat, j < 13 → zz_h s0 1 1 j = ([0, 31, 59, 90, 120, 151, 181, 212, 243, 273, 304, 334, 365] : List Int).getD j 0) (z2 : ∀ j : Nat, j < 9 → zz_h s0 2 1 j = ([59, 23, 23, 6, 6, 31, 0, 5, 12] : List Int).getD j 0) (tt : zz_tot s0) : ∃ s, l_law s0 = l_law_18 zz_fu 0 s ∧ yV s0 0 s := by
  have cs : ∀ k, 3 < k → zz_c (zz_n s0 3 0 20) k = 0 := fun k hk => by rw [zz_c_n, if_neg (by omega), hc, if_neg (by omega)]
  have ms : ∀ k, 3 < k → zz_m (zz_n s0 3 0 20) k = 0 := fun k hk => by rw [zz_m_n, if_neg (by omega), hm, if_neg (by omega)]
  have m3 : zz_m (zz_n s0 3 0 20) 3 = 0 := by rw [zz_m_n, if_pos rfl, hm, if_neg (by decide)]; rfl
  have c3 : zz_c (zz_n s0 3 0 20) 3 = 1 := by rw [zz_c_n, if_pos rfl, hc, if_neg (by decide)]; rfl
  have ex : x_new 1 (zz_n s0 3 0 20) = some (0, yxn (zz_n s0 3 0 20)) := ye_x_new (cs 4 (by decide)) (ms 4 (by decide)) (cs 5 (by decide)) (ms 5 (by decide)) (cs 6 (by decide)) (ms 6 (by decide)) (cs 11 (by decide)) (ms 11 (by decide)) (cs 12 (by decide)) (ms 12 (by decide)) (cs 13 (by decide)) (ms 13 (by decide)) (cs 14 (by decide)) (ms 14 (by decide)) (cs 15 (by decide)) (ms 15 (by decide)) (cs 16 (by decide)) (ms 16 (by decide)) (cs 17 (by decide)) (ms 17 (by decide)) (cs 18 (by decide)) (ms 18 (by decide)) (cs 19 (by decide)) (ms 19 (by decide)) (cs 20 (by decide)) (ms 20 (by decide)) (cs 21 (by decide)) (ms 21 (by decide)) (cs 22 (by decide)) (ms 22 (by decide)) (cs 23 (by decide)) (ms 23 (by decide)) (cs 24 (by decide)) (ms 24 (by decide)) (cs 25 (by decide)) (ms 25 (by decide)) (cs 26 (by decide)) (ms 26 (by decide)) (cs 27 (by decide)) (ms 27 (by decide)) m3
  have xc := yxn_c (s := zz_n s0 3 0 20) (cs 4 (by decide)) (cs 5 (by decide)) (cs 6 (by decide)) (cs 11 (by decide)) (cs 12 (by decide)) (cs 13 (by decide)) (cs 14 (by decide)) (cs 15 (by decide)) (cs 16 (by decide)) (cs 17 (by decide)) (cs 18 (by decide)) (cs 19 (by decide)) (cs 20 (by decide)) (cs 21 (by decide)) (cs 22 (by decide)) (cs 23 (by decide)) (cs 24 (by decide)) (cs 25 (by decide)) (cs 26 (by decide)) (cs 27 (by decide))
  have xm := yxn_m (s := zz_n s0 3 0 20) m3 (ms 4 (by decide)) (ms 5 (by decide)) (ms 6 (by decide)) (ms 11 (by decide)) (ms 12 (by decide)) (ms 13 (by decide)) (ms 14 (by decide)) (ms 15 (by decide)) (ms 16 (by decide)) (ms 17 (by decide)) (ms 18 (by decide)) (ms 19 (by decide)) (ms 20 (by decide)) (ms 21 (by decide)) (ms 22 (by decide)) (ms 23 (by decide)) (ms 24 (by decide)) (ms 25 (by decide)) (ms 26 (by decide)) (ms 27 (by decide))
  obtain ⟨v1, v2, v3, v4, v5, v6, v7, v8, v9⟩ := yxn_h3 (zz_n s0 3 0 20)
  have w4 := yxn_h4 (zz_n s0 3 0 20)
  have w5 := yxn_h5 (zz_n s0 3 0 20)
  have w6 := yxn_h6 (zz_n s0 3 0 20)
  have w15 := yxn_h15 (cs 15 (by decide))
  have w16 := yxn_h16 (cs 16 (by decide))
  have w17 := yxn_h17 (cs 17 (by decide))
  obtain ⟨y1, y2, y3, y4⟩ := yc_x_new 1 (zz_n s0 3 0 20) 0 _ ex
  generalize yxn (zz_n s0 3 0 20) = sx at ex xc xm v1 v2 v3 v4 v5 v6 v7 v8 v9 w4 w5 w6 w15 w16 w17 y1 y2 y3 y4
  have xc0 : ∀ k, zz_c sx k = if (3 ≤ k ∧ k ≤ 6) ∨ (11 ≤ k ∧ k ≤ 27) ∨ k ≤ 2 then 1 else 0 := by
    intro k
    rw [xc]
    by_cases a : (4 ≤ k ∧ k ≤ 6) ∨ (11 ≤ k ∧ k ≤ 27)
    · rw [if_pos a, if_pos (by omega)]
    · rw [if_neg a]
      by_cases b : k = 3
      · rw [b, c3]
        rfl
      · rw [zz_c_n, if_neg b, hc]
        by_cases d : k ≤ 2
        · rw [if_pos d, if_pos (by omega)]
        · rw [if_neg d, if_neg (by omega)]
  have xm0 : ∀ k, zz_m sx k = if (3 ≤ k ∧ k ≤ 6) ∨ (11 ≤ k ∧ k ≤ 27) ∨ k ≤ 2 then 1 else 0 := by
    intro k
    rw [xm]
    by_cases a : (3 ≤ k ∧ k ≤ 6) ∨ (11 ≤ k ∧ k ≤ 27)
    · rw [if_pos a, if_pos (by omega)]
    · rw [if_neg a, zz_m_n, if_neg (by omega), hm]
      by_cases d : k ≤ 2
      · rw [if_pos d, if_pos (by omega)]
      · rw [if_neg d, if_neg (by omega)]
  have cm : ∀ k, 41 ≤ k → k ≤ 91 → zz_c (zz_n sx 40 0 67) k = 0 ∧ zz_m (zz_n sx 40 0 67) k = 0 := fun k k1 k2 => by
    rw [zz_c_n, if_neg (by omega), zz_m_n, if_neg (by omega), xc0, xm0, if_neg (by omega)]
    exact ⟨rfl, rfl⟩
  obtain ⟨s, em, mh, m41, m40, mc, mm⟩ := m_new_ok cm (by rw [zz_m_n, if_pos rfl, xm0]; rfl)
  obtain ⟨u1, u2, u3, u4⟩ := yc_m_new 1 (zz_n sx 40 0 67) 0 _ em
  have c40 : zz_c sx 40 = 0 := xc0 40
  have k0 : ∀ k i j, k ≤ 2 → zz_h s k i j = zz_h s0 k i j := fun k i j hk => by
    have q : yzk 2 k = true := by
      simp [yzk]
      exact hk
    rw [u1 k i j q, yy_n (by omega), y1 k i j q, yy_n (by omega)]
  have kx : ∀ k j, k < 40 → zz_h s k 1 j = zz_h sx k 1 j := fun k j hk => by
    rw [mh k j (by omega) (by omega), if_neg (by omega), yy_n (by omega)]
  have kz : ∀ k j, 42 ≤ k → k ≤ 91 → zz_h s k 1 j = 0 := fun k j h1 h2 => by rw [mh k j (by omega) (by omega), if_pos (by omega)]
  have kf : ∀ j : Int, ylM.any (fun r => ((r.2.2 : Int) == j)) = false → zz_h s 40 1 j = if j = 4 then 1 else if j = 2 then -1 else 0 := fun j hj => by
    rw [m40 j hj, yy_new c40]
  have sc : ∀ k, zz_c s k = if (3 ≤ k ∧ k ≤ 6) ∨ (11 ≤ k ∧ k ≤ 27) ∨ k ≤ 2 ∨ (40 ≤ k ∧ k ≤ 91) then 1 else 0 := by
    intro k
    rw [mc, zz_c_n]
    by_cases a : 41 ≤ k ∧ k ≤ 91
    · rw [if_pos a, if_pos (by omega)]
    · rw [if_neg a]
      by_cases b : k = 40
      · rw [if_pos b, c40, if_pos (by omega)]
        rfl
      · rw [if_neg b, xc0]
        by_cases d : (3 ≤ k ∧ k ≤ 6) ∨ (11 ≤ k ∧ k ≤ 27) ∨ k ≤ 2
        · rw [if_pos d, if_pos (by omega)]
        · rw [if_neg d, if_neg (by omega)]
  have sm : ∀ k, zz_m s k = if (3 ≤ k ∧ k ≤ 6) ∨ (11 ≤ k ∧ k ≤ 27) ∨ k ≤ 2 ∨ (40 ≤ k ∧ k ≤ 91) then 1 else 0 := by
    intro k
    rw [mm, zz_m_n]
    by_cases a : 41 ≤ k ∧ k ≤ 91
    · rw [if_pos a, if_pos (by omega)]
    · rw [if_neg a]
      by_cases b : k = 40
      · rw [if_pos b, if_pos (by omega)]
      · rw [if_neg b, if_neg b, xm0]
        by_cases d : (3 ≤ k ∧ k ≤ 6) ∨ (11 ≤ k ∧ k ≤ 27) ∨ k ≤ 2
        · rw [if_pos d, if_pos (by omega)]
        · rw [if_neg d, if_neg (by omega)]
  refine ⟨s, ?_, ?_, fun i j => k0 0 i j (by decide), fun k hk h92 => ?_, u4 (zz_tot_n (by decide) rfl (y4 (zz_tot_n (by decide) rfl tt)))⟩
  · unfold l_law
    have e3 : zz_c s0 3 + 1 = 1 := by rw [hc]; rfl
    dsimp only
    rw [e3, ex, Option.bind_some]
    dsimp only
    rw [show zz_c sx 3 = zz_m sx 3 by rw [xc0, xm0], if_pos rfl, c40, show (0 : Int) + 1 = 1 from rfl, em, Option.bind_some]
    dsimp only
    rw [show zz_c s 40 = zz_m s 40 by rw [sc, sm], if_pos rfl, if_pos rfl, if_pos rfl]
  · refine ⟨[], [], ?_⟩
    have f0 := kf 0 (by decide +kernel)
    have f1 := kf 1 (by decide +kernel)
    have f2 := kf 2 (by decide +kernel)
    have f3 := kf 3 (by decide +kernel)
    have f4 := kf 4 (by decide +kernel)
    have f7 := kf 7 (by decide +kernel)
    have f9 := kf 9 (by decide +kernel)
    have f37 := kf 37 (by decide +kernel)
    have f42 := kf 42 (by decide +kernel)
    have f53 := kf 53 (by decide +kernel)
    have f57 := kf 57 (by decide +kernel)
    simp only [Int.reduceEq, if_false, if_true] at f0 f1 f2 f3 f4 f7 f9 f37 f42 f53 f57
    have g11 := (kx 3 11 (by decide)).trans v1
    have g12 := (kx 3 12 (by decide)).trans v2
    have g13 := (kx 3 13 (by decide)).trans v3
    have g14 := (kx 3 14 (by decide)).trans v4
    have g15 := (kx 3 15 (by decide)).trans v5
    have g16 := (kx 3 16 (by decide)).trans v6
    have g17 := (kx 3 17 (by decide)).trans v7
    have g18 := (kx 3 18 (by decide)).trans v8
    have g19 := (kx 3 19 (by decide)).trans v9
    have g4 := (kx 4 3 (by decide)).trans w4
    have g5 := (kx 5 3 (by decide)).trans w5
    have g6 := (kx 6 3 (by decide)).trans w6
    have i15 : ∀ j, zz_h s 15 1 j = 0 := fun j => (kx 15 j (by decide)).trans (w15 j)
    have i16 : ∀ j, zz_h s 16 1 j = 0 := fun j => (kx 16 j (by decide)).trans (w16 j)
    have i17 : ∀ j, zz_h s 17 1 j = 0 := fun j => (kx 17 j (by decide)).trans (w17 j)
    unfold yS
    rw [f9, f42, f0]
    refine ⟨?_, fun t t0 t1 => by omega, fun t t0 t1 => by omega, fun t t0 t1 => by omega, fun t t0 t1 => by omega, fun t t0 t1 => by omega, ?_, fun t t0 t1 => by omega, ?_, ?_, ?_, ?_, ?_⟩
    · unfold yA
      rw [g11, g12, g14, g15, g16, g17, g18, g19, g6, f9, f42, f7, f4, f0, f1, f2, f3, f37]
      refine ⟨rfl, by decide, rfl, by decide, rfl, by decide, rfl, by decide, rfl, by decide, rfl, by decide, by decide, rfl, by decide, rfl, Or.inl rfl, rfl, by decide⟩
    · unfold yG
      rw [f7, f37]
      refine ⟨fun i i0 i1 => by omega, fun i i0 i1 => by omega, fun i i0 i1 => by omega, fun i i0 i1 => by omega, fun i _ _ => ?_, fun i _ _ => ?_⟩
      · rw [i17, kz 74 i (by decide) (by decide)]
      · rw [i15, kz 42 i (by decide) (by decide)]
    · unfold yJ
      rw [g13, f4, f42]
      refine ⟨rfl, fun k hk => absurd hk (by simp), fun r => ⟨fun z => absurd z (by simp), fun z => by omega⟩, List.Pairwise.nil, fun r hr => absurd hr (by simp), fun w w0 w1 => Or.inl ⟨i16 w, m41 w w0 w1⟩, ?_, fun t t0 t1 => by omega⟩
      rw [yw_none s _ (fun w w0 w1 => m41 w w0 (by omega))]
    · unfold yL yLx yLm
      rw [g4, f53]
      exact ⟨⟨rfl, fun k hk => absurd hk (by simp)⟩, ⟨rfl, fun k hk => absurd hk (by simp)⟩, by simp, fun d hd => absurd hd (by simp), fun t t0 t1 => by omega⟩
    · unfold yM
      rw [g5, f57]
      exact ⟨rfl, by decide, fun i _ _ z => by omega, fun i _ _ z => by omega, fun i _ _ z => by omega⟩
    · unfold yN
      rw [g11, g12]
      refine ⟨⟨sc 7, sm 7⟩, ⟨sc 8, sm 8⟩, ⟨sc 9, sm 9⟩, ⟨sc 28, sm 28⟩, ⟨sc 29, sm 29⟩, ⟨sc 30, sm 30⟩, ⟨sc 10, sm 10⟩, fun j hj => ?_, fun j hj => ?_⟩
      · rw [k0 1 1 j (by decide)]
        exact z1 j hj
      · rw [k0 2 1 j (by decide)]
        exact z2 j hj
    · intro t t0 t1
      exact ⟨kz 48 t (by decide) (by decide), kz 50 t (by decide) (by decide), kz 51 t (by decide) (by decide), kz 52 t (by decide) (by decide), kz 53 t (by decide) (by decide), kz 54 t (by decide) (by decide), kz 55 t (by decide) (by decide), kz 56 t (by decide) (by decide), kz 58 t (by decide) (by decide), kz 59 t (by decide) (by decide), kz 61 t (by decide) (by decide), kz 63 t (by decide) (by decide), kz 64 t (by decide) (by decide), kz 68 t (by decide) (by decide)⟩
  · rw [sc]
    unfold yct0
    have q : ¬ (k = 7 ∨ k = 8 ∨ k = 9 ∨ k = 10 ∨ k = 28 ∨ k = 29 ∨ k = 30) := by
      simp [yzc] at hk
      omega
    by_cases a : 31 ≤ k ∧ k ≤ 39
    · rw [if_neg (by omega), if_pos (by simp; omega)]
    · rw [if_pos (by omega), if_neg (by simp; omega)]
/-- at the end: few objects -/
theorem yV.few {s0 : zz_S} {c : Int} {s : zz_S} (h : yV s0 c s) : zz_nc s ≤ 600000 ∧ zz_ns s ≤ 7302250 := by
  obtain ⟨⟨aw, dl, w⟩, -, ct, tt⟩ := h
  have N := w.N
  have nr := w.A.nr
  have rr := w.A.rr
  have e7 := N.c7.1.trans w.A.n
  have e8 := N.c8.1.trans w.A.n
  have e9 := N.c9.1.trans w.A.n
  have e28 := N.c28.1.trans w.A.n
  have e29 := N.c29.1.trans w.A.n
  have e30 := N.c30.1.trans w.A.n
  have e10 := N.c10.1.trans w.A.r
  generalize zz_h s 40 1 9 = n at nr e7 e8 e9 e28 e29 e30
  generalize zz_h s 40 1 42 = r at rr e10
  have all : ∀ k, k < 92 → zz_c s k = (if k = 7 ∨ k = 8 ∨ k = 9 ∨ k = 28 ∨ k = 29 ∨ k = 30 then n else if k = 10 then r else yct0 k) := by
    intro k hk
    by_cases a : k = 7 ∨ k = 8 ∨ k = 9 ∨ k = 28 ∨ k = 29 ∨ k = 30
    · rw [if_pos a]
      rcases a with a | a | a | a | a | a <;> (rw [a]; assumption)
    · rw [if_neg a]
      by_cases b : k = 10
      · rw [if_pos b, b, e10]
      · rw [if_neg b]
        refine ct k ?_ hk
        simp [yzc]
        omega
  have su : ∀ (f g : Nat → Int) (m : Nat), (∀ k, k < m → f k ≤ g k) → zz_su f m ≤ zz_su g m := by
    intro f g m
    induction m with
    | zero => exact fun _ => Int.le_refl _
    | succ m ih =>
      intro h
      have := ih (fun k hk => h k (by omega))
      have := h m (by omega)
      rw [zz_su, zz_su]
      omega
  have bd : ∀ k, k < 92 → 0 ≤ zz_c s k ∧ zz_c s k ≤ (if k = 10 then 2000 else 60) := by
    intro k hk
    rw [all k hk]
    unfold yct0
    repeat' split
    all_goals omega
  have s1 := su (fun k => zz_c s k) (fun k => if k = 10 then 2000 else 60) 92 (fun k hk => (bd k hk).2)
  have s2 := su (fun k => zz_c s k * (zz_len k : Int)) (fun k => (if k = 7 ∨ k = 8 ∨ k = 9 ∨ k = 28 ∨ k = 29 ∨ k = 30 then 60 else if k = 10 then 2000 else 1) * (zz_len k : Int)) 92 (fun k hk => by
    refine Int.mul_le_mul_of_nonneg_right ?_ (by omega)
    rw [all k hk]
    unfold yct0
    repeat' split
    all_goals omega)
  have t1 : zz_su (fun k => if k = 10 then (2000 : Int) else 60) 92 ≤ 600000 := by decide +kernel
  have t2 : zz_su (fun k => (if k = 7 ∨ k = 8 ∨ k = 9 ∨ k = 28 ∨ k = 29 ∨ k = 30 then (60 : Int) else if k = 10 then 2000 else 1) * (zz_len k : Int)) 92 ≤ 7302250 := by decide +kernel
  obtain ⟨p1, p2⟩ := tt
  omega
theorem l_law_all {s0 : zz_S} {L : Int} (hc : ∀ k, zz_c s0 k = if k ≤ 2 then 1 else 0) (hm : ∀ k, zz_m s0 k = if k ≤ 2 then 1 else 0) (z1 : ∀ j : Nat, j < 13 → zz_h s0 1 1 j = ([0, 31, 59, 90, 120, 151, 181, 212, 243, 273, 304, 334, 365] : List Int).getD j 0) (z2 : ∀ j : Nat, j < 9 → zz_h s0 2 1 j = ([59, 23, 23, 6, 6, 31, 0, 5, 12] : List Int).getD j 0) (tt : zz_tot s0) (hL : zz_h s0 0 1 (-1) = L) (L0 : 0 ≤ L) (L2 : L ≤ 2560) (hs : ∀ j, -2147483648 ≤ zz_h s0 0 1 j ∧ zz_h s0 0 1 j < 2147483648) : ∃ t, l_law s0 = some (1, t) ∧ zz_nc t ≤ 600000 ∧ zz_ns t ≤ 7302250 := by
  have fu := yy_fu
  obtain ⟨s, e1, e2⟩ := l_law_init hc hm z1 z2 tt
  obtain ⟨c, t, g1, g2, g3⟩ := yV.law hL L0 L2 hs 512 zz_fu 0 s e2 (by omega) (by omega) (by omega)
  rw [show 5 * (((0 : Nat) : Int)) = 0 from rfl] at g1
  exact ⟨t, e1.trans g1, g3.few⟩
