/-! STAGE B: the house stops -/
theorem xD_clear_loop {dl : List yd} (hl : dl.length ≤ 100) (hd : ∀ d ∈ dl, 0 ≤ d.1) : ∀ (k n i : Nat) (X : zz_S), i + k = dl.length → k < n → yLx dl X → ∃ X1, xD_clear_2 n i X = some (0, zz_w X1 4 1 3 0) ∧ yK (fun k j => !(k == 7 && j == 16)) X X1 ∧ yQ X X1 ∧ (∀ q, zz_h X1 7 q 16 = zz_h X 7 q 16 ∨ zz_h X1 7 q 16 = 0) ∧ (∀ j (_ : j < dl.length), i ≤ j → zz_h X1 7 (dl[j].1 + 1) 16 = 0) := by
  intro k
  induction k with
  | zero =>
    intro n i X a b h
    obtain ⟨n, rfl⟩ : ∃ q, n = q + 1 := ⟨n - 1, by omega⟩
    refine ⟨X, ?_, yK.rf, yQ.rf, fun q => Or.inl rfl, fun j hj hj2 => by omega⟩
    rw [xD_clear_2, h.le, if_neg (by omega)]
  | succ k ih =>
    intro n i X a b h
    obtain ⟨n, rfl⟩ : ∃ q, n = q + 1 := ⟨n - 1, by omega⟩
    have hk : i < dl.length := by omega
    have d0 := hd dl[i] (List.getElem_mem hk)
    have a1 : ¬ dl[i].1 + 1 = 0 := by omega
    have r : zz_r ((i : Int) + 1) = ((i + 1 : Nat) : Int) := by rw [yy_r (by omega) (by omega)]; omega
    obtain ⟨X1, e1, e2, e3, e4, e5⟩ := ih n (i + 1) (zz_w X 7 (dl[i].1 + 1) 16 0) (by omega) (by omega) (h.cg (by (repeat (first | refine yK.w ?_ rfl | exact yK.rf))))
    refine ⟨X1, ?_, (show yK _ X (zz_w X 7 (dl[i].1 + 1) 16 0) from by (repeat (first | refine yK.w ?_ rfl | exact yK.rf))).tr e2, e3, fun q => ?_, fun j hj hj2 => ?_⟩
    · rw [xD_clear_2, h.le, if_pos (by omega), if_pos (show zz_b X 19 1 (i : Int) from ⟨by omega, by rw [ya_19]; omega⟩), (h.a i hk).1]
      simp only [a1, if_false, r]
      exact e1
    · rcases e4 q with z | z
      · rw [z, zz_h_w]
        split
        · exact Or.inr rfl
        · exact Or.inl rfl
      · exact Or.inr z
    · by_cases c : j = i
      · subst c
        rcases e4 (dl[j].1 + 1) with z | z
        · rw [z, yy_same]
        · exact z
      · exact e5 j hj (by omega)
theorem yS.clear {e : Nat} {b : Int} {aw : List Int} {dl : List yd} {X M : zz_S} (h : yS e b aw dl X M) : ∃ X', xD_clear X = some (0, X') ∧ yS e b aw [] X' (zz_w M 40 1 53 0) := by
  have fu := yy_fu
  have Ll := h.L.le
  obtain ⟨X1, e1, e2, e3, e4, e5⟩ := xD_clear_loop Ll (fun d q => (h.L.t d q).1) dl.length zz_fu 0 X (by omega) (by omega) h.L.x
  refine ⟨_, e1, ?_⟩
  have kx : yK (fun k j => !((k == 7 && j == 16) || (k == 4 && j == 3))) X (zz_w X1 4 1 3 0) := (e2.sub (by intro k j e; simp at e ⊢; omega)).w rfl
  have km : yK (fun k j => !(k == 40 && j == 53)) M (zz_w M 40 1 53 0) := by (repeat (first | refine yK.w ?_ rfl | exact yK.rf))
  have hq : yQ X (zz_w X1 4 1 3 0) := e3
  (refine yS.by_ h ?_ ?_ ?_ ?_ ?_ ?_ ?_ ?_ ?_ ?_ ?_ ?_ ?_ ?_ ?_ ?_ <;> try (first | (exact km 40 1 9 rfl)| (exact km 40 1 42 rfl)| (exact km 40 1 0 rfl)| (refine yA.cg (yS.A h) (yK.sub kx ?_) (yK.sub km ?_) <;> (intro k j e; first | rfl | (simp [yk_A, yk_B, yk_C, yk_D, yk_E, yk_F, yk_G, yk_M, yk_I, yk_J, yk_L, yk_Lx, yk_Lm, yk_N, yk_U, yn_cx, yn_cm, yn_Lx, yn_Lm, yn_Lx] at e ⊢; omega)))| (intro t h1 h2; refine yB.cg (yS.B h t h1 h2) (yK.sub kx ?_) (yK.sub km ?_) <;> (intro k j e; first | rfl | (simp [yk_A, yk_B, yk_C, yk_D, yk_E, yk_F, yk_G, yk_M, yk_I, yk_J, yk_L, yk_Lx, yk_Lm, yk_N, yk_U, yn_cx, yn_cm, yn_Lx, yn_Lm, yn_Lx] at e ⊢; omega)))| (intro t h1 h2; refine yC.cg (yC.up (yS.C h t h1 h2) (by omega)) (yK.sub kx ?_) (yK.sub km ?_) <;> (intro k j e; first | rfl | (simp [yk_A, yk_B, yk_C, yk_D, yk_E, yk_F, yk_G, yk_M, yk_I, yk_J, yk_L, yk_Lx, yk_Lm, yk_N, yk_U, yn_cx, yn_cm, yn_Lx, yn_Lm, yn_Lx] at e ⊢; omega)))| (intro t h1 h2; refine yD.cg (yS.D h t h1 h2) (yK.sub kx ?_) (yK.sub km ?_) <;> (intro k j e; first | rfl | (simp [yk_A, yk_B, yk_C, yk_D, yk_E, yk_F, yk_G, yk_M, yk_I, yk_J, yk_L, yk_Lx, yk_Lm, yk_N, yk_U, yn_cx, yn_cm, yn_Lx, yn_Lm, yn_Lx] at e ⊢; omega)))| (intro t h1 h2; refine yE.cg (yS.E h t h1 h2) (yK.sub kx ?_) (yK.sub km ?_) <;> (intro k j e; first | rfl | (simp [yk_A, yk_B, yk_C, yk_D, yk_E, yk_F, yk_G, yk_M, yk_I, yk_J, yk_L, yk_Lx, yk_Lm, yk_N, yk_U, yn_cx, yn_cm, yn_Lx, yn_Lm, yn_Lx] at e ⊢; omega)))| (intro t h1 h2; refine yF.cg (yS.F h t h1 h2) (yK.sub kx ?_) (yK.sub km ?_) <;> (intro k j e; first | rfl | (simp [yk_A, yk_B, yk_C, yk_D, yk_E, yk_F, yk_G, yk_M, yk_I, yk_J, yk_L, yk_Lx, yk_Lm, yk_N, yk_U, yn_cx, yn_cm, yn_Lx, yn_Lm, yn_Lx] at e ⊢; omega)))| (refine yG.cg (yS.G h) (yK.sub kx ?_) (yK.sub km ?_) <;> (intro k j e; first | rfl | (simp [yk_A, yk_B, yk_C, yk_D, yk_E, yk_F, yk_G, yk_M, yk_I, yk_J, yk_L, yk_Lx, yk_Lm, yk_N, yk_U, yn_cx, yn_cm, yn_Lx, yn_Lm, yn_Lx] at e ⊢; omega)))| (intro t h1 h2; refine yI.cg (yS.I h t h1 h2) (yK.sub kx ?_) (yK.sub km ?_) <;> (intro k j e; first | rfl | (simp [yk_A, yk_B, yk_C, yk_D, yk_E, yk_F, yk_G, yk_M, yk_I, yk_J, yk_L, yk_Lx, yk_Lm, yk_N, yk_U, yn_cx, yn_cm, yn_Lx, yn_Lm, yn_Lx] at e ⊢; omega)))| (refine yJ.cg (yS.J h) (yK.sub kx ?_) (yK.sub km ?_) <;> (intro k j e; first | rfl | (simp [yk_A, yk_B, yk_C, yk_D, yk_E, yk_F, yk_G, yk_M, yk_I, yk_J, yk_L, yk_Lx, yk_Lm, yk_N, yk_U, yn_cx, yn_cm, yn_Lx, yn_Lm, yn_Lx] at e ⊢; omega)))| (refine yL.cg (yS.L h) (yK.sub kx ?_) (yK.sub km ?_) <;> (intro k j e; first | rfl | (simp [yk_A, yk_B, yk_C, yk_D, yk_E, yk_F, yk_G, yk_M, yk_I, yk_J, yk_L, yk_Lx, yk_Lm, yk_N, yk_U, yn_cx, yn_cm, yn_Lx, yn_Lm, yn_Lx] at e ⊢; omega)))| (refine yM.cg (yM.up (yS.R h) (by omega)) (yK.sub kx ?_) (yK.sub km ?_) <;> (intro k j e; first | rfl | (simp [yk_A, yk_B, yk_C, yk_D, yk_E, yk_F, yk_G, yk_M, yk_I, yk_J, yk_L, yk_Lx, yk_Lm, yk_N, yk_U, yn_cx, yn_cm, yn_Lx, yn_Lm, yn_Lx] at e ⊢; omega)))| (refine yN.cg (yS.N h) (yK.sub kx ?_) hq <;> (intro k j e; first | rfl | (simp [yk_A, yk_B, yk_C, yk_D, yk_E, yk_F, yk_G, yk_M, yk_I, yk_J, yk_L, yk_Lx, yk_Lm, yk_N, yk_U, yn_cx, yn_cm, yn_Lx, yn_Lm, yn_Lx] at e ⊢; omega)))| (refine yU.cg (yS.U h) (yK.sub km ?_) <;> (intro k j e; first | rfl | (simp [yk_A, yk_B, yk_C, yk_D, yk_E, yk_F, yk_G, yk_M, yk_I, yk_J, yk_L, yk_Lx, yk_Lm, yk_N, yk_U, yn_cx, yn_cm, yn_Lx, yn_Lm, yn_Lx] at e ⊢; omega)))))
  unfold yL yLx yLm
  refine ⟨⟨rfl, fun k hk => absurd hk (by simp)⟩, ⟨by rw [yy_same]; rfl, fun k hk => absurd hk (by simp)⟩, by simp, fun d hd => absurd hd (by simp), fun t h1 h2 => ?_⟩
  have h2 : t < zz_h M 40 1 9 := h2
  have w := h.L.wa t h1 h2
  rw [yy_kind (by decide)]
  have z : zz_h X1 7 (t + 1) 16 = 0 := by
    rcases e4 (t + 1) with q | q
    · by_cases c : ∃ d ∈ dl, d.1 = t
      · obtain ⟨d, d1, d2⟩ := c
        obtain ⟨j, hj, rfl⟩ := List.mem_iff_getElem.mp d1
        have := e5 j hj (by omega)
        rw [d2] at this
        exact this
      · rw [q, w]
        unfold ydc
        rw [List.countP_eq_zero.mpr]
        · rfl
        · intro d hd
          have : ¬ d.1 = t := fun z => c ⟨d, hd, z⟩
          simpa using this
    · exact q
  rw [z]
  rfl
theorem yS.drop_loop {e : Nat} {aw : List Int} {dl : List yd} : ∀ (k n m i : Nat) (b : Int) (X M : zz_S), yS e b aw dl X M → b + k < 1900000000 → i + k = dl.length → k < n → k < m → ∃ X' M', x_dropDues_2 n i X = ((xD_clear X').bind fun q3 => (some (0, q3.2))) ∧ m_stop_34 m i M = ((m_interrupts 0 1 (zz_w M' 40 1 53 0)).bind fun q5 => (some (1, q5.2))) ∧ yS e (b + k) aw dl X' M' ∧ yK yn_cm M M' := by
  intro k
  induction k with
  | zero =>
    intro n m i b X M h hb a c d
    obtain ⟨n, rfl⟩ : ∃ q, n = q + 1 := ⟨n - 1, by omega⟩
    obtain ⟨m, rfl⟩ : ∃ q, m = q + 1 := ⟨m - 1, by omega⟩
    refine ⟨X, M, ?_, ?_, h.up (by omega), yK.rf⟩
    · rw [x_dropDues_2, h.L.x.le, if_neg (by omega)]
    · rw [m_stop_34, h.L.m.le, if_neg (by omega)]
  | succ k ih =>
    intro n m i b X M h hb a c d
    obtain ⟨n, rfl⟩ : ∃ q, n = q + 1 := ⟨n - 1, by omega⟩
    obtain ⟨m, rfl⟩ : ∃ q, m = q + 1 := ⟨m - 1, by omega⟩
    have nr := h.A.nr
    have Ll := h.L.le
    have hk : i < dl.length := by omega
    obtain ⟨t1, t2, t3, t4⟩ := h.L.t dl[i] (List.getElem_mem hk)
    obtain ⟨x1, x2, x3⟩ := h.L.x.a i hk
    obtain ⟨m1, m2, m3⟩ := h.L.m.a i hk
    have B := h.B dl[i].1 t1 t2
    have a1 : ¬ dl[i].1 + 1 = 0 := by omega
    have r : zz_r ((i : Int) + 1) = ((i + 1 : Nat) : Int) := by rw [yy_r (by omega) (by omega)]; omega
    have b85 : ∀ s, zz_b s 85 1 (i : Int) := fun s => ⟨by omega, by rw [ya_85]; omega⟩
    have b86 : ∀ s, zz_b s 86 1 (i : Int) := fun s => ⟨by omega, by rw [ya_86]; omega⟩
    obtain ⟨X1, M1, e1, e2, g1, k1, k2⟩ := h.book (by omega) dl[i].1 dl[i].2.1 4
    have n9 : zz_h M1 40 1 9 = zz_h M 40 1 9 := k2 40 1 9 rfl
    have n0 : zz_h M1 40 1 0 = zz_h M 40 1 0 := k2 40 1 0 rfl
    have n56 : zz_h M1 56 1 dl[i].1 = 0 := (k2 56 1 _ rfl).trans t3
    have n85 : zz_h M1 85 1 (i : Int) = dl[i].1 := (k2 85 1 _ rfl).trans m1
    obtain ⟨X2, M2, e3, e4, g2, k3, k4⟩ := g1.again dl[i].1 t1 (by omega) n56
    obtain ⟨X', M', z1, z2, z3, z4⟩ := ih n m (i + 1) (b + 1) X2 M2 g2 (by omega) (by omega) (by omega) (by omega)
    refine ⟨X', M', ?_, ?_, z3.up (by omega), (k2.sub (by (intro k j e; first | rfl | (simp [yk_A, yk_B, yk_C, yk_D, yk_E, yk_F, yk_G, yk_M, yk_I, yk_J, yk_L, yk_Lx, yk_Lm, yk_N, yk_U, yn_cx, yn_cm, yn_Lx, yn_Lm] at e ⊢; omega)))).tr ((k4.sub (by (intro k j e; first | rfl | (simp [yk_A, yk_B, yk_C, yk_D, yk_E, yk_F, yk_G, yk_M, yk_I, yk_J, yk_L, yk_Lx, yk_Lm, yk_N, yk_U, yn_cx, yn_cm, yn_Lx, yn_Lm] at e ⊢; omega)))).tr z4)⟩
    · rw [x_dropDues_2, h.L.x.le, if_pos (by omega), if_pos (show zz_b X 19 1 (i : Int) from ⟨by omega, by rw [ya_19]; omega⟩), x1]
      simp only [a1, if_false, B.nu, x2, r]
      rw [if_pos (show zz_b X 20 1 (i : Int) from ⟨by omega, by rw [ya_20]; omega⟩), e1, Option.bind_some]
      dsimp only
      rw [e3, Option.bind_some]
      exact z1
    · rw [m_stop_34, h.L.m.le, if_pos (by omega), if_pos (b85 M), if_pos (b86 M), m1, m2, e2, Option.bind_some]
      dsimp only
      rw [if_pos (b85 M1), n85, m_isActive_ok _ _ ⟨t1, by omega⟩, if_pos n56, Option.bind_some]
      dsimp only
      rw [if_neg yy_10, if_pos (b85 M1), n85, e4, Option.bind_some, r]
      exact z2
theorem yW.stop {c : Int} {X M : zz_S} (hW : yW c X M) (hc : c ≤ 600) (v : Int) : yR c (x_stop v) (m_stop v) X M := by
  obtain ⟨aw, dl, h⟩ := hW
  have fu := yy_fu
  have tr := h.A.tr
  have Ll := h.L.le
  have hW : yW c X M := ⟨aw, dl, h⟩
  by_cases g : 0 ≤ v ∧ v ≤ 1
  · by_cases k : zz_h M 40 1 3 = 0
    · have h' : yS 0 (50000 * c + 1100 * zz_h M 40 1 0) aw dl (zz_w X 3 1 19 1) (zz_w M 40 1 3 1) := by
        (refine yS.by_ h ?_ rfl rfl rfl ?_ ?_ ?_ ?_ ?_ ?_ ?_ ?_ ?_ ?_ ?_ ?_ <;> try (first | (refine yA.cg (yS.A h) ?_ ?_ <;> ((repeat (first | refine yK.w ?_ rfl | exact yK.rf)); done))| (intro t h1 h2; refine yB.cg (yS.B h t h1 h2) ?_ ?_ <;> ((repeat (first | refine yK.w ?_ rfl | exact yK.rf)); done))| (intro t h1 h2; refine yC.cg (yC.up (yS.C h t h1 h2) (by omega)) ?_ ?_ <;> ((repeat (first | refine yK.w ?_ rfl | exact yK.rf)); done))| (intro t h1 h2; refine yD.cg (yS.D h t h1 h2) ?_ ?_ <;> ((repeat (first | refine yK.w ?_ rfl | exact yK.rf)); done))| (intro t h1 h2; refine yE.cg (yS.E h t h1 h2) ?_ ?_ <;> ((repeat (first | refine yK.w ?_ rfl | exact yK.rf)); done))| (intro t h1 h2; refine yF.cg (yS.F h t h1 h2) ?_ ?_ <;> ((repeat (first | refine yK.w ?_ rfl | exact yK.rf)); done))| (refine yG.cg (yS.G h) ?_ ?_ <;> ((repeat (first | refine yK.w ?_ rfl | exact yK.rf)); done))| (intro t h1 h2; refine yI.cg (yS.I h t h1 h2) ?_ ?_ <;> ((repeat (first | refine yK.w ?_ rfl | exact yK.rf)); done))| (refine yJ.cg (yS.J h) ?_ ?_ <;> ((repeat (first | refine yK.w ?_ rfl | exact yK.rf)); done))| (refine yL.cg (yS.L h) ?_ ?_ <;> ((repeat (first | refine yK.w ?_ rfl | exact yK.rf)); done))| (refine yM.cg (yM.up (yS.R h) (by omega)) ?_ ?_ <;> ((repeat (first | refine yK.w ?_ rfl | exact yK.rf)); done))| (refine yN.cg (yS.N h) ?_ (fun _ => ⟨rfl, rfl⟩) <;> ((repeat (first | refine yK.w ?_ rfl | exact yK.rf)); done))| (refine yU.cg (yS.U h) ?_ <;> ((repeat (first | refine yK.w ?_ rfl | exact yK.rf)); done))))
        have a := h.A
        unfold yA
        exact ⟨a.n, a.nr, a.r, a.rr, a.g, a.gr, a.w, a.wr, a.t, a.tr, a.o, a.or, a.to, a.h, a.hr, rfl, Or.inr rfl, a.p, a.pr⟩
      have ex : x_stop v X = (if v = 1 then ((x_dropDues (zz_w X 3 1 19 1)).bind fun q3 => ((x_interruptRuns 0 q3.2).bind fun q4 => (some (1, q4.2)))) else (some (1, zz_w X 3 1 19 1))) := by
        unfold x_stop
        rw [x_isWithin_ok, Option.bind_some, if_pos g, if_neg yy_10]
        dsimp only
        rw [h.A.s, if_pos k]
      have em : m_stop v M = (if v = 1 then (m_stop_34 zz_fu 0 (zz_w M 40 1 3 1)) else (some (1, zz_w M 40 1 3 1))) := by
        unfold m_stop
        rw [m_in_ok, Option.bind_some, if_pos g, if_neg yy_10]
        dsimp only
        rw [if_pos k]
      by_cases kv : v = 1
      · obtain ⟨X1, M1, e1, e2, e3, e4⟩ := yS.drop_loop dl.length zz_fu zz_fu 0 _ _ _ h' (by omega) (by omega) (by omega) (by omega)
        rw [show ((0 : Nat) : Int) = 0 from rfl] at e1 e2
        obtain ⟨X2, f1, f2⟩ := e3.clear
        obtain ⟨aw', dl', X', M', g1, g2, g3, g4⟩ := f2.interrupts (all := 1) (t := 0) (v := 0) (by omega) (by omega) (Or.inl ⟨rfl, rfl⟩)
        refine yW.w 1 g3 ?_ ?_ (by rw [g4 40 1 0 rfl, yy_slot (by decide), e4 40 1 0 rfl, yy_slot (by decide)]; omega)
        · rw [ex, if_pos kv]
          unfold x_dropDues
          rw [e1, f1, Option.bind_some, Option.bind_some]
          dsimp only
          rw [g1]
          rfl
        · rw [em, if_pos kv, e2, g2]
          rfl
      · refine yW.w 1 h' ?_ ?_ (by rw [yy_slot (by decide)]; omega)
        · rw [ex, if_neg kv]
        · rw [em, if_neg kv]
    · refine hW.q ⟨-3, ?_, ?_⟩
      · unfold x_stop
        rw [x_isWithin_ok, Option.bind_some, if_pos g, if_neg yy_10]
        dsimp only
        rw [h.A.s, if_neg k]
      · unfold m_stop
        rw [m_in_ok, Option.bind_some, if_pos g, if_neg yy_10]
        dsimp only
        rw [if_neg k]
  · refine hW.q ⟨-2, ?_, ?_⟩
    · unfold x_stop
      rw [x_isWithin_ok, Option.bind_some, if_neg g, if_pos rfl]
    · unfold m_stop
      rw [m_in_ok, Option.bind_some, if_neg g, if_pos rfl]
