/-! STAGE B: dues that are missed -/
theorem m_duesOf_loop {dl : List yd} {M : zz_S} (h : yLm dl M) (hl : dl.length ≤ 100) (t : Int) : ∀ (k n i : Nat), i + k = dl.length → k < n → m_duesOf_4 n t (ydc (fun d => d.1 == t) (dl.take i)) i M = some (ydc (fun d => d.1 == t) dl, M) := by
  intro k
  induction k with
  | zero =>
    intro n i a b
    obtain ⟨n, rfl⟩ : ∃ q, n = q + 1 := ⟨n - 1, by omega⟩
    rw [m_duesOf_4, h.le, if_neg (by omega), List.take_of_length_le (by omega)]
  | succ k ih =>
    intro n i a b
    obtain ⟨n, rfl⟩ : ∃ q, n = q + 1 := ⟨n - 1, by omega⟩
    have hk : i < dl.length := by omega
    have e := ih n (i + 1) (by omega) (by omega)
    have r : zz_r ((i : Int) + 1) = ((i + 1 : Nat) : Int) := by rw [yy_r (by omega) (by omega)]; omega
    have cr := ydc_rng (fun d => d.1 == t) (dl.take i)
    have cl : (dl.take i).length ≤ 100 := by rw [List.length_take]; omega
    rw [← List.take_append_getElem hk] at e
    unfold ydc at e cr ⊢
    rw [List.countP_append, List.countP_singleton] at e
    rw [m_duesOf_4, h.le, if_pos (by omega), if_pos (show zz_b M 85 1 (i : Int) from ⟨by omega, by rw [ya_85]; omega⟩), (h.a i hk).1, r]
    by_cases c : dl[i].1 = t
    · rw [if_pos c, yy_r (by omega) (by omega)]
      rw [if_pos (by simpa using c)] at e
      exact e
    · rw [if_neg c]
      rw [if_neg (by simpa using c)] at e
      exact e
theorem m_duesOf_ok {dl : List yd} {M : zz_S} (h : yLm dl M) (hl : dl.length ≤ 100) (t : Int) : m_duesOf t M = some (ydc (fun d => d.1 == t) dl, M) := by
  have fu := yy_fu
  exact m_duesOf_loop h hl t dl.length zz_fu 0 (by omega) (by omega)
theorem ydc_set (p : yd → Bool) : ∀ (l : List yd) (i : Nat) (d : yd) (hi : i < l.length), p d = p l[i] → ydc p (l.set i d) = ydc p l
  | a :: l, 0, d, hi, h => by
    rw [List.set_cons_zero, ydc_cons, ydc_cons, h, List.getElem_cons_zero]
  | a :: l, i + 1, d, hi, h => by
    rw [List.set_cons_succ, ydc_cons, ydc_cons, ydc_set p l i d (by simpa using hi) (by simpa using h)]
theorem yS.setLate {e : Nat} {b : Int} {aw : List Int} {dl : List yd} {X M : zz_S} (h : yS e b aw dl X M) (i : Nat) (hi : i < dl.length) : yS e b aw (dl.set i (dl[i].1, dl[i].2.1, 1)) (zz_w X 21 1 i 1) (zz_w M 87 1 i 1) := by
  (refine yS.by_ h ?_ rfl rfl rfl ?_ ?_ ?_ ?_ ?_ ?_ ?_ ?_ ?_ ?_ ?_ ?_ <;> try (first | (refine yA.cg (yS.A h) ?_ ?_ <;> ((repeat (first | refine yK.w ?_ rfl | exact yK.rf)); done))| (intro t h1 h2; refine yB.cg (yS.B h t h1 h2) ?_ ?_ <;> ((repeat (first | refine yK.w ?_ rfl | exact yK.rf)); done))| (intro t h1 h2; refine yC.cg (yC.up (yS.C h t h1 h2) (by omega)) ?_ ?_ <;> ((repeat (first | refine yK.w ?_ rfl | exact yK.rf)); done))| (intro t h1 h2; refine yD.cg (yS.D h t h1 h2) ?_ ?_ <;> ((repeat (first | refine yK.w ?_ rfl | exact yK.rf)); done))| (intro t h1 h2; refine yE.cg (yS.E h t h1 h2) ?_ ?_ <;> ((repeat (first | refine yK.w ?_ rfl | exact yK.rf)); done))| (intro t h1 h2; refine yF.cg (yS.F h t h1 h2) ?_ ?_ <;> ((repeat (first | refine yK.w ?_ rfl | exact yK.rf)); done))| (refine yG.cg (yS.G h) ?_ ?_ <;> ((repeat (first | refine yK.w ?_ rfl | exact yK.rf)); done))| (intro t h1 h2; refine yI.cg (yS.I h t h1 h2) ?_ ?_ <;> ((repeat (first | refine yK.w ?_ rfl | exact yK.rf)); done))| (refine yJ.cg (yS.J h) ?_ ?_ <;> ((repeat (first | refine yK.w ?_ rfl | exact yK.rf)); done))| (refine yL.cg (yS.L h) ?_ ?_ <;> ((repeat (first | refine yK.w ?_ rfl | exact yK.rf)); done))| (refine yM.cg (yM.up (yS.R h) (by omega)) ?_ ?_ <;> ((repeat (first | refine yK.w ?_ rfl | exact yK.rf)); done))| (refine yN.cg (yS.N h) ?_ (fun _ => ⟨rfl, rfl⟩) <;> ((repeat (first | refine yK.w ?_ rfl | exact yK.rf)); done))| (refine yU.cg (yS.U h) ?_ <;> ((repeat (first | refine yK.w ?_ rfl | exact yK.rf)); done))))
  have a := h.L
  unfold yL yLx yLm
  refine ⟨⟨?_, fun k hk => ?_⟩, ⟨?_, fun k hk => ?_⟩, ?_, ?_, ?_⟩
  · rw [List.length_set]
    exact a.x.le
  · rw [List.length_set] at hk
    obtain ⟨a1, a2, a3⟩ := a.x.a k hk
    rw [List.getElem_set]
    by_cases q : i = k
    · subst q
      rw [if_pos rfl]
      exact ⟨a1, a2, by simp [zz_h_w]⟩
    · rw [if_neg q]
      refine ⟨a1, a2, ?_⟩
      rw [yy_slot (by omega)]
      exact a3
  · rw [List.length_set]
    exact a.m.le
  · rw [List.length_set] at hk
    obtain ⟨a1, a2, a3⟩ := a.m.a k hk
    rw [List.getElem_set]
    by_cases q : i = k
    · subst q
      rw [if_pos rfl]
      exact ⟨a1, a2, by simp [zz_h_w]⟩
    · rw [if_neg q]
      refine ⟨a1, a2, ?_⟩
      rw [yy_slot (by omega)]
      exact a3
  · rw [List.length_set]
    exact a.le
  · intro d hd
    rcases List.mem_or_eq_of_mem_set hd with q | q
    · exact a.t d q
    · obtain ⟨t1, t2, t3, t4⟩ := a.t dl[i] (List.getElem_mem hi)
      subst q
      exact ⟨t1, t2, t3, Or.inr rfl⟩
  · intro t t1 t2
    rw [ydc_set _ _ _ _ hi (by rfl)]
    exact a.wa t t1 t2
theorem m_books_late {M : zz_S} (h0 : 0 ≤ zz_h M 40 1 57) (t u f i v : Int) : m_books t u f (zz_w M 87 1 i v) = (m_books t u f M).bind fun q => some (q.1, zz_w q.2 87 1 i v) := by
  have e : zz_h (zz_w M 87 1 i v) 40 1 57 = zz_h M 40 1 57 := rfl
  unfold m_books
  rw [e]
  by_cases c : zz_h M 40 1 57 < 300
  · have b1 : ∀ s : zz_S, zz_b s 88 1 (zz_h M 40 1 57) := fun s => ⟨h0, by rw [ya_88]; exact c⟩
    have b2 : ∀ s : zz_S, zz_b s 89 1 (zz_h M 40 1 57) := fun s => ⟨h0, by rw [ya_89]; exact c⟩
    have b3 : ∀ s : zz_S, zz_b s 90 1 (zz_h M 40 1 57) := fun s => ⟨h0, by rw [ya_90]; exact c⟩
    rw [if_pos c, if_pos c, if_pos (b1 _), if_pos (b1 _)]
    dsimp only
    have w1 : zz_h (zz_w (zz_w M 87 1 i v) 88 1 (zz_h M 40 1 57) t) 40 1 57 = zz_h M 40 1 57 := rfl
    have w2 : zz_h (zz_w M 88 1 (zz_h M 40 1 57) t) 40 1 57 = zz_h M 40 1 57 := rfl
    rw [w1, w2, if_pos (b2 _), if_pos (b2 _)]
    have w3 : zz_h (zz_w (zz_w (zz_w M 87 1 i v) 88 1 (zz_h M 40 1 57) t) 89 1 (zz_h M 40 1 57) u) 40 1 57 = zz_h M 40 1 57 := rfl
    have w4 : zz_h (zz_w (zz_w M 88 1 (zz_h M 40 1 57) t) 89 1 (zz_h M 40 1 57) u) 40 1 57 = zz_h M 40 1 57 := rfl
    rw [w3, w4, if_pos (b3 _), if_pos (b3 _)]
    have w5 : zz_h (zz_w (zz_w (zz_w (zz_w M 87 1 i v) 88 1 (zz_h M 40 1 57) t) 89 1 (zz_h M 40 1 57) u) 90 1 (zz_h M 40 1 57) f) 40 1 57 = zz_h M 40 1 57 := rfl
    have w6 : zz_h (zz_w (zz_w (zz_w M 88 1 (zz_h M 40 1 57) t) 89 1 (zz_h M 40 1 57) u) 90 1 (zz_h M 40 1 57) f) 40 1 57 = zz_h M 40 1 57 := rfl
    rw [w5, w6, Option.bind_some]
    dsimp only
    rw [zz_w_comm (k := 87) (k' := 88) (by decide), zz_w_comm (k := 87) (k' := 89) (by decide), zz_w_comm (k := 87) (k' := 90) (by decide), zz_w_comm (k := 87) (k' := 40) (by decide)]
  · rw [if_neg c, if_neg c, Option.bind_some]
    dsimp only
    rw [zz_w_comm (k := 87) (k' := 40) (by decide)]
theorem yS.miss_loop {e : Nat} {aw : List Int} {u : Int} : ∀ (k n m i v : Nat) (b : Int) (dl : List yd) (X M : zz_S), yS e b aw dl X M → b + k < 1900000000 → u = zz_h M 40 1 0 → i + k = dl.length → v + k ≤ 100 → k < n → k < m → ∃ dl' X' M', x_missDues_4 n i v X = some (0, X') ∧ m_misses_2 m u i M = some (0, M') ∧ yS e (b + k) aw dl' X' M' ∧ yK yn_cx X X' ∧ yK yn_cm M M' := by
  intro k
  induction k with
  | zero =>
    intro n m i v b dl X M h hb hu hi hv hn hm
    obtain ⟨n, rfl⟩ : ∃ q, n = q + 1 := ⟨n - 1, by omega⟩
    obtain ⟨m, rfl⟩ : ∃ q, m = q + 1 := ⟨m - 1, by omega⟩
    refine ⟨dl, X, M, ?_, ?_, h.up (by omega), yK.rf, yK.rf⟩
    · rw [x_missDues_4, h.L.x.le, if_neg (show ¬ (i : Int) < dl.length by omega)]
      split <;> rfl
    · rw [m_misses_2, h.L.m.le, if_neg (by omega)]
  | succ k ih =>
    intro n m i v b dl X M h hb hu hi hv hn hm
    obtain ⟨n, rfl⟩ : ∃ q, n = q + 1 := ⟨n - 1, by omega⟩
    obtain ⟨m, rfl⟩ : ∃ q, m = q + 1 := ⟨m - 1, by omega⟩
    have nr := h.A.nr
    have Ll := h.L.le
    have hk : i < dl.length := by omega
    obtain ⟨t1, t2, t3, t4⟩ := h.L.t dl[i] (List.getElem_mem hk)
    obtain ⟨x1, x2, x3⟩ := h.L.x.a i hk
    obtain ⟨m1, m2, m3⟩ := h.L.m.a i hk
    have B := h.B dl[i].1 t1 t2
    have wa := h.L.wa dl[i].1 t1 t2
    have ri : zz_r ((i : Int) + 1) = ((i + 1 : Nat) : Int) := by rw [yy_r (by omega) (by omega)]; omega
    have rv : zz_r ((v : Int) + 1) = ((v + 1 : Nat) : Int) := by rw [yy_r (by omega) (by omega)]; omega
    have a1 : ¬ dl[i].1 + 1 = 0 := by omega
    have b19 : ∀ s, zz_b s 19 1 (i : Int) := fun s => ⟨by omega, by rw [ya_19]; omega⟩
    have b20 : ∀ s, zz_b s 20 1 (i : Int) := fun s => ⟨by omega, by rw [ya_20]; omega⟩
    have b21 : ∀ s, zz_b s 21 1 (i : Int) := fun s => ⟨by omega, by rw [ya_21]; omega⟩
    have b85 : ∀ s, zz_b s 85 1 (i : Int) := fun s => ⟨by omega, by rw [ya_85]; omega⟩
    have b86 : ∀ s, zz_b s 86 1 (i : Int) := fun s => ⟨by omega, by rw [ya_86]; omega⟩
    have b87 : ∀ s, zz_b s 87 1 (i : Int) := fun s => ⟨by omega, by rw [ya_87]; omega⟩
    have b47 : ∀ s, zz_b s 47 1 dl[i].1 := fun s => ⟨t1, by rw [ya_47]; omega⟩
    have b51 : ∀ s, zz_b s 51 1 dl[i].1 := fun s => ⟨t1, by rw [ya_51]; omega⟩
    have b28 : ∀ s, zz_b s 28 (dl[i].1 + 1) 0 := fun s => ⟨by omega, by rw [ya_28]; omega⟩
    have b284 : ∀ s, zz_b s 28 (dl[i].1 + 1) 4 := fun s => ⟨by omega, by rw [ya_28]; omega⟩
    have skip : ∃ dl' X' M', x_missDues_4 n ((i + 1 : Nat) : Int) ((v + 1 : Nat) : Int) X = some (0, X') ∧ m_misses_2 m u ((i + 1 : Nat) : Int) M = some (0, M') ∧ yS e (b + (k + 1 : Nat)) aw dl' X' M' ∧ yK yn_cx X X' ∧ yK yn_cm M M' := by
      obtain ⟨dl', X', M', z1, z2, z3, z4, z5⟩ := ih n m (i + 1) (v + 1) b dl X M h (by omega) hu (by omega) (by omega) (by omega) (by omega)
      exact ⟨dl', X', M', z1, z2, z3.up (by omega), z4, z5⟩
    have late : ∃ dl' X' M', ((x_missDue_25 (dl[i].1 + 1) i X).bind fun q2 => x_missDues_4 n q2.1 ((v + 1 : Nat) : Int) q2.2) = some (0, X') ∧ m_misses_89 (m_misses_2 m) u i dl[i].1 dl[i].2.1 M = some (0, M') ∧ yS e (b + (k + 1 : Nat)) aw dl' X' M' ∧ yK yn_cx X X' ∧ yK yn_cm M M' := by
      have hL := h.setLate i hk
      obtain ⟨X1, M1, e1, e2, g, k1, k2⟩ := hL.book (by omega) dl[i].1 dl[i].2.1 2
      rw [m_books_late h.R.kr.1] at e2
      obtain ⟨dl', X', M', z1, z2, z3, z4, z5⟩ := ih n m (i + 1) (v + 1) (b + 1) _ X1 M1 g (by omega) (hu.trans (k2 40 1 0 rfl).symm) (by rw [List.length_set]; omega) (by omega) (by omega) (by omega)
      refine ⟨dl', X', M', ?_, ?_, z3.up (by omega), (show yK yn_cx X (zz_w X 21 1 (i : Int) 1) from by (repeat (first | refine yK.w ?_ rfl | exact yK.rf))).tr ((k1.sub (by (intro k j e; first | rfl | (simp [yk_A, yk_B, yk_C, yk_D, yk_E, yk_F, yk_G, yk_M, yk_I, yk_J, yk_L, yk_Lx, yk_Lm, yk_N, yk_U, yn_cx, yn_cm, yn_Lx, yn_Lm] at e ⊢; omega)))).tr z4), (show yK yn_cm M (zz_w M 87 1 (i : Int) 1) from by (repeat (first | refine yK.w ?_ rfl | exact yK.rf))).tr ((k2.sub (by (intro k j e; first | rfl | (simp [yk_A, yk_B, yk_C, yk_D, yk_E, yk_F, yk_G, yk_M, yk_I, yk_J, yk_L, yk_Lx, yk_Lm, yk_N, yk_U, yn_cx, yn_cm, yn_Lx, yn_Lm] at e ⊢; omega)))).tr z5)⟩
      · unfold x_missDue_25
        rw [if_pos (b21 X), if_neg a1]
        rw [if_pos (b20 _), yy_kind (by decide), B.nu, yy_kind (by decide), x2, e1, Option.bind_some, Option.bind_some]
        rw [ri]
        exact z1
      · unfold m_misses_89
        cases q : m_books dl[i].1 dl[i].2.1 2 M with
        | none =>
          rw [q] at e2
          exact absurd e2 (by simp)
        | some q1 =>
          rw [q, Option.bind_some] at e2
          rw [Option.bind_some, if_pos (b87 _), ri]
          have := congrArg (fun z => z.map (fun y : Int × zz_S => y.2)) e2
          simp only [Option.map_some, Option.some.injEq] at this
          rw [this]
          exact z2
    have goes : ∃ dl' X' M', ((x_missDue_60 (dl[i].1 + 1) i (zz_h M 51 1 dl[i].1) X).bind fun q2 => x_missDues_4 n q2.1 ((v + 1 : Nat) : Int) q2.2) = some (0, X') ∧ m_misses_85 (m_misses_2 m) u i dl[i].1 dl[i].2.1 M = some (0, M') ∧ yS e (b + (k + 1 : Nat)) aw dl' X' M' ∧ yK yn_cx X X' ∧ yK yn_cm M M' := by
      obtain ⟨X1, M1, e1, e2, g1, k1, k2⟩ := h.book (by omega) dl[i].1 dl[i].2.1 (zz_h M 51 1 dl[i].1)
      obtain ⟨X2, M2, e3, e4, g2, k3, k4⟩ := g1.remove i hk
      have n9 : zz_h M2 40 1 9 = zz_h M 40 1 9 := (k4 40 1 9 rfl).trans (k2 40 1 9 rfl)
      have n56 : zz_h M2 56 1 dl[i].1 = 0 := ((k4 56 1 _ rfl).trans (k2 56 1 _ rfl)).trans t3
      have n0 : zz_h M2 40 1 0 = zz_h M 40 1 0 := (k4 40 1 0 rfl).trans (k2 40 1 0 rfl)
      obtain ⟨X3, M3, e5, e6, g3, k5, k6⟩ := g2.again dl[i].1 t1 (by omega) n56
      rw [n0, ← hu] at e6
      have n0' : zz_h M3 40 1 0 = zz_h M 40 1 0 := (k6 40 1 0 rfl).trans n0
      obtain ⟨dl', X', M', z1, z2, z3, z4, z5⟩ := ih n m i (v + 1) (b + 1) _ X3 M3 g3 (by omega) (hu.trans n0'.symm) (by rw [List.length_eraseIdx_of_lt hk]; omega) (by omega) (by omega) (by omega)
      refine ⟨dl', X', M', ?_, ?_, z3.up (by omega), (k1.sub (by (intro k j e; first | rfl | (simp [yk_A, yk_B, yk_C, yk_D, yk_E, yk_F, yk_G, yk_M, yk_I, yk_J, yk_L, yk_Lx, yk_Lm, yk_N, yk_U, yn_cx, yn_cm, yn_Lx, yn_Lm] at e ⊢; omega)))).tr ((k3.sub (by (intro k j e; first | rfl | (simp [yk_A, yk_B, yk_C, yk_D, yk_E, yk_F, yk_G, yk_M, yk_I, yk_J, yk_L, yk_Lx, yk_Lm, yk_N, yk_U, yn_cx, yn_cm, yn_Lx, yn_Lm] at e ⊢; omega)))).tr ((k5.sub (by (intro k j e; first | rfl | (simp [yk_A, yk_B, yk_C, yk_D, yk_E, yk_F, yk_G, yk_M, yk_I, yk_J, yk_L, yk_Lx, yk_Lm, yk_N, yk_U, yn_cx, yn_cm, yn_Lx, yn_Lm] at e ⊢; omega)))).tr z4)), (k2.sub (by (intro k j e; first | rfl | (simp [yk_A, yk_B, yk_C, yk_D, yk_E, yk_F, yk_G, yk_M, yk_I, yk_J, yk_L, yk_Lx, yk_Lm, yk_N, yk_U, yn_cx, yn_cm, yn_Lx, yn_Lm] at e ⊢; omega)))).tr ((k4.sub (by (intro k j e; first | rfl | (simp [yk_A, yk_B, yk_C, yk_D, yk_E, yk_F, yk_G, yk_M, yk_I, yk_J, yk_L, yk_Lx, yk_Lm, yk_N, yk_U, yn_cx, yn_cm, yn_Lx, yn_Lm] at e ⊢; omega)))).tr ((k6.sub (by (intro k j e; first | rfl | (simp [yk_A, yk_B, yk_C, yk_D, yk_E, yk_F, yk_G, yk_M, yk_I, yk_J, yk_L, yk_Lx, yk_Lm, yk_N, yk_U, yn_cx, yn_cm, yn_Lx, yn_Lm] at e ⊢; omega)))).tr z5))⟩
      · unfold x_missDue_60
        rw [if_neg a1, if_pos (b20 _), B.nu, x2, e1, Option.bind_some]
        dsimp only
        rw [e3, Option.bind_some]
        dsimp only
        rw [e5, Option.bind_some, Option.bind_some]
        exact z1
      · unfold m_misses_85
        rw [if_pos (b51 _), e2, Option.bind_some]
        dsimp only
        rw [e4, Option.bind_some]
        dsimp only
        rw [e6, Option.bind_some]
        exact z2
    rw [x_missDues_4, m_misses_2, h.L.x.le, h.L.m.le, if_pos (show (v : Int) < 100 by omega), if_pos (show (i : Int) < dl.length by omega), if_pos (show (i : Int) < dl.length by omega), if_pos (b19 _), if_pos (b85 _), if_pos (b87 _), x1, m1, m2, m3, if_neg a1, ri, rv]
    unfold x_isMissed
    simp only [if_pos (b21 X), if_pos (b20 X), a1, if_false, if_pos (b28 X), if_pos (b86 M), if_pos (b47 M), if_pos (b51 M), x3, x2, h.A.t, B.t0, ← hu]
    by_cases c1 : dl[i].2.2 = 0
    · rw [if_pos c1, if_pos c1]
      by_cases c2 : zz_r (u - dl[i].2.1) ≤ zz_h M 47 1 dl[i].1
      · rw [if_pos c2, if_pos c2, Option.bind_some]
        exact skip
      · rw [if_neg c2, if_neg c2, Option.bind_some]
        dsimp only
        rw [if_neg (by decide)]
        unfold x_missDue
        simp only [a1, if_false, if_pos (b284 X), B.t4, wa]
        rw [m_duesOf_ok h.L.m Ll, Option.bind_some]
        dsimp only
        have r4 := B.r4
        by_cases r0 : zz_h M 51 1 dl[i].1 = 0
        · rw [if_pos r0, if_neg (by omega), if_neg (by omega)]
          exact goes
        · rw [if_neg r0]
          by_cases r1 : zz_h M 51 1 dl[i].1 = 1
          · rw [if_pos r1, if_neg (by omega), if_pos r1]
            by_cases cw : ydc (fun d => d.1 == dl[i].1) dl ≤ 1
            · rw [if_pos cw, if_pos (by omega)]
              exact late
            · rw [if_neg cw, if_neg (by omega)]
              exact goes
          · rw [if_neg r1, if_pos (by omega), if_neg r1]
            exact late
    · rw [if_neg c1, if_neg c1, Option.bind_some]
      exact skip
theorem yS.misses {e : Nat} {b : Int} {aw : List Int} {dl : List yd} {X M : zz_S} (h : yS e b aw dl X M) (hb : b < 1800000000) : ∃ dl' X' M', x_missDues X = some (0, X') ∧ m_misses (zz_h M 40 1 0) M = some (0, M') ∧ yS e (b + 100) aw dl' X' M' ∧ yK yn_cx X X' ∧ yK yn_cm M M' := by
  have fu := yy_fu
  have Ll := h.L.le
  obtain ⟨dl', X', M', z1, z2, z3, z4, z5⟩ := yS.miss_loop (u := zz_h M 40 1 0) dl.length zz_fu zz_fu 0 0 b dl X M h (by omega) rfl (by omega) (by omega) (by omega) (by omega)
  exact ⟨dl', X', M', z1, z2, z3.up (by omega), z4, z5⟩
