/-! STAGE B: the dues of a minute come -/
theorem zz_w_self {σ : zz_S} {k : Nat} {i j : Int} : zz_w σ k i j (zz_h σ k i j) = σ := by
  unfold zz_w zz_h
  obtain ⟨a, b, c⟩ := σ
  congr 2
  funext x y z
  dsimp only
  by_cases c1 : x = k ∧ y = i ∧ z = j
  · rw [if_pos c1, c1.1, c1.2.1, c1.2.2]
  · rw [if_neg c1]
theorem zz_xor_ok {x y : Int} (h1 : 0 ≤ x) (h2 : x < 2147483648) (h3 : 0 ≤ y) (h4 : y < 2147483648) : ¬ zz_xor x y < 0 := by
  have m : ∀ z : Int, 0 ≤ z → z < 2147483648 → (Int32.ofInt z).toBitVec.msb = false := by
    intro z z1 z2
    have e := zz_toI (z := z) ⟨by omega, z2⟩
    rw [← Int32.toInt_toBitVec] at e
    cases c : (Int32.ofInt z).toBitVec.msb
    · rfl
    · have := BitVec.toInt_neg_of_msb_true c
      omega
  unfold zz_xor
  rw [← Int32.toInt_toBitVec, Int32.toBitVec_xor]
  have : ((Int32.ofInt x).toBitVec ^^^ (Int32.ofInt y).toBitVec).msb = false := by rw [BitVec.msb_xor, m x h1 h2, m y h3 h4]; rfl
  have := BitVec.toInt_nonneg_of_msb_false this
  omega
theorem yS.lo {e : Nat} {b : Int} {aw : List Int} {dl : List yd} {X M M' : zz_S} (h : yS e b aw dl X M) (km : yK yn_lo M M') : yS e b aw dl X M' := by
  have kx : yK (fun _ _ => true) X X := yK.rf
  have hq : yQ X X := yQ.rf
  (refine yS.by_ h ?_ ?_ ?_ ?_ ?_ ?_ ?_ ?_ ?_ ?_ ?_ ?_ ?_ ?_ ?_ ?_ <;> try (first | (exact km 40 1 9 rfl)| (exact km 40 1 42 rfl)| (exact km 40 1 0 rfl)| (refine yA.cg (yS.A h) (yK.sub kx ?_) (yK.sub km ?_) <;> (intro k j e; first | rfl | (simp [yk_A, yk_B, yk_C, yk_D, yk_E, yk_F, yk_G, yk_M, yk_I, yk_J, yk_L, yk_Lx, yk_Lm, yk_N, yk_U, yn_cx, yn_cm, yn_Lx, yn_Lm, yn_lo] at e ⊢; omega)))| (intro t h1 h2; refine yB.cg (yS.B h t h1 h2) (yK.sub kx ?_) (yK.sub km ?_) <;> (intro k j e; first | rfl | (simp [yk_A, yk_B, yk_C, yk_D, yk_E, yk_F, yk_G, yk_M, yk_I, yk_J, yk_L, yk_Lx, yk_Lm, yk_N, yk_U, yn_cx, yn_cm, yn_Lx, yn_Lm, yn_lo] at e ⊢; omega)))| (intro t h1 h2; refine yC.cg (yC.up (yS.C h t h1 h2) (by omega)) (yK.sub kx ?_) (yK.sub km ?_) <;> (intro k j e; first | rfl | (simp [yk_A, yk_B, yk_C, yk_D, yk_E, yk_F, yk_G, yk_M, yk_I, yk_J, yk_L, yk_Lx, yk_Lm, yk_N, yk_U, yn_cx, yn_cm, yn_Lx, yn_Lm, yn_lo] at e ⊢; omega)))| (intro t h1 h2; refine yD.cg (yS.D h t h1 h2) (yK.sub kx ?_) (yK.sub km ?_) <;> (intro k j e; first | rfl | (simp [yk_A, yk_B, yk_C, yk_D, yk_E, yk_F, yk_G, yk_M, yk_I, yk_J, yk_L, yk_Lx, yk_Lm, yk_N, yk_U, yn_cx, yn_cm, yn_Lx, yn_Lm, yn_lo] at e ⊢; omega)))| (intro t h1 h2; refine yE.cg (yS.E h t h1 h2) (yK.sub kx ?_) (yK.sub km ?_) <;> (intro k j e; first | rfl | (simp [yk_A, yk_B, yk_C, yk_D, yk_E, yk_F, yk_G, yk_M, yk_I, yk_J, yk_L, yk_Lx, yk_Lm, yk_N, yk_U, yn_cx, yn_cm, yn_Lx, yn_Lm, yn_lo] at e ⊢; omega)))| (intro t h1 h2; refine yF.cg (yS.F h t h1 h2) (yK.sub kx ?_) (yK.sub km ?_) <;> (intro k j e; first | rfl | (simp [yk_A, yk_B, yk_C, yk_D, yk_E, yk_F, yk_G, yk_M, yk_I, yk_J, yk_L, yk_Lx, yk_Lm, yk_N, yk_U, yn_cx, yn_cm, yn_Lx, yn_Lm, yn_lo] at e ⊢; omega)))| (refine yG.cg (yS.G h) (yK.sub kx ?_) (yK.sub km ?_) <;> (intro k j e; first | rfl | (simp [yk_A, yk_B, yk_C, yk_D, yk_E, yk_F, yk_G, yk_M, yk_I, yk_J, yk_L, yk_Lx, yk_Lm, yk_N, yk_U, yn_cx, yn_cm, yn_Lx, yn_Lm, yn_lo] at e ⊢; omega)))| (intro t h1 h2; refine yI.cg (yS.I h t h1 h2) (yK.sub kx ?_) (yK.sub km ?_) <;> (intro k j e; first | rfl | (simp [yk_A, yk_B, yk_C, yk_D, yk_E, yk_F, yk_G, yk_M, yk_I, yk_J, yk_L, yk_Lx, yk_Lm, yk_N, yk_U, yn_cx, yn_cm, yn_Lx, yn_Lm, yn_lo] at e ⊢; omega)))| (refine yJ.cg (yS.J h) (yK.sub kx ?_) (yK.sub km ?_) <;> (intro k j e; first | rfl | (simp [yk_A, yk_B, yk_C, yk_D, yk_E, yk_F, yk_G, yk_M, yk_I, yk_J, yk_L, yk_Lx, yk_Lm, yk_N, yk_U, yn_cx, yn_cm, yn_Lx, yn_Lm, yn_lo] at e ⊢; omega)))| (refine yL.cg (yS.L h) (yK.sub kx ?_) (yK.sub km ?_) <;> (intro k j e; first | rfl | (simp [yk_A, yk_B, yk_C, yk_D, yk_E, yk_F, yk_G, yk_M, yk_I, yk_J, yk_L, yk_Lx, yk_Lm, yk_N, yk_U, yn_cx, yn_cm, yn_Lx, yn_Lm, yn_lo] at e ⊢; omega)))| (refine yM.cg (yM.up (yS.R h) (by omega)) (yK.sub kx ?_) (yK.sub km ?_) <;> (intro k j e; first | rfl | (simp [yk_A, yk_B, yk_C, yk_D, yk_E, yk_F, yk_G, yk_M, yk_I, yk_J, yk_L, yk_Lx, yk_Lm, yk_N, yk_U, yn_cx, yn_cm, yn_Lx, yn_Lm, yn_lo] at e ⊢; omega)))| (refine yN.cg (yS.N h) (yK.sub kx ?_) hq <;> (intro k j e; first | rfl | (simp [yk_A, yk_B, yk_C, yk_D, yk_E, yk_F, yk_G, yk_M, yk_I, yk_J, yk_L, yk_Lx, yk_Lm, yk_N, yk_U, yn_cx, yn_cm, yn_Lx, yn_Lm, yn_lo] at e ⊢; omega)))| (refine yU.cg (yS.U h) (yK.sub km ?_) <;> (intro k j e; first | rfl | (simp [yk_A, yk_B, yk_C, yk_D, yk_E, yk_F, yk_G, yk_M, yk_I, yk_J, yk_L, yk_Lx, yk_Lm, yk_N, yk_U, yn_cx, yn_cm, yn_Lx, yn_Lm, yn_lo] at e ⊢; omega)))))
theorem yS.step {e : Nat} {b : Int} {aw : List Int} {dl : List yd} {X M : zz_S} (h : yS e b aw dl X M) {t : Int} (h1 : 0 ≤ t) (h2 : t < zz_h M 40 1 9) (hk : zz_h M 44 1 t = 1 ∨ zz_h M 44 1 t = 2) : xT_step (t + 1) X = some (zz_h M 46 1 t, X) := by
  have B := h.B t h1 h2
  have g := B.gr hk
  unfold xT_step j_max
  rw [if_neg (show ¬ t + 1 = 0 by omega), B.ga, if_neg (by omega), Option.bind_some]
theorem yS.isDue {e : Nat} {b : Int} {aw : List Int} {dl : List yd} {X M : zz_S} (h : yS e b aw dl X M) (t : Int) (h1 : 0 ≤ t) (h2 : t < zz_h M 40 1 9) :
    ∃ v M', x_isDueByKind (t + 1) (zz_h M 40 1 0 + zz_h M 40 1 1) X = some (v, X) ∧ m_isDue t (zz_h M 40 1 0) M = some (v, M') ∧ yK yn_lo M M' ∧ (v = 0 ∨ v = 1) := by
  have nr := h.A.nr
  have B := h.B t h1 h2
  have C := h.C t h1 h2
  have a1 : ¬ t + 1 = 0 := by omega
  have t60 : t < 60 := by omega
  have tr := h.A.tr
  have or := h.A.or
  have to := h.A.to
  have hr := h.A.hr
  have b44 : zz_b M 44 1 t := ⟨h1, by rw [ya_44]; omega⟩
  have b45 : zz_b M 45 1 t := ⟨h1, by rw [ya_45]; omega⟩
  have b46 : zz_b M 46 1 t := ⟨h1, by rw [ya_46]; omega⟩
  have b57 : zz_b M 57 1 t := ⟨h1, by rw [ya_57]; omega⟩
  unfold x_isDueByKind m_isDue
  simp only [a1, if_false, B.ki, B.fi, h.A.t, C.nx, h.A.h]
  rw [if_pos b44, if_pos b45, if_pos b45, if_pos b45, if_pos b57]
  by_cases c0 : zz_h M 44 1 t = 0
  · rw [if_pos c0, if_pos c0]
    split
    · exact ⟨1, M, rfl, rfl, yK.rf, Or.inr rfl⟩
    · exact ⟨0, M, rfl, rfl, yK.rf, Or.inl rfl⟩
  rw [if_neg c0, if_neg c0]
  by_cases c1 : zz_h M 44 1 t = 1
  · rw [if_pos c1, if_pos c1]
    have fr := B.fr (by omega)
    have gr := B.gr (Or.inl c1)
    by_cases c : zz_h M 45 1 t ≤ zz_h M 40 1 0
    · rw [if_pos c, if_neg (show ¬ zz_h M 40 1 0 < zz_h M 45 1 t by omega), h.step h1 h2 (Or.inl c1), Option.bind_some, if_pos b46, if_neg (show ¬ zz_h M 46 1 t = 0 by omega)]
      dsimp only
      unfold j_floorMod
      rw [yy_r (by omega) (by omega), if_neg (show ¬ zz_h M 46 1 t = 0 by omega), if_neg (zz_xor_ok (by omega) (by omega) (by omega) (by omega)), Option.bind_some]
      dsimp only
      by_cases cc : zz_rem (zz_h M 40 1 0 - zz_h M 45 1 t) (zz_h M 46 1 t) = 0
      · rw [if_pos cc, if_pos cc]
        exact ⟨1, M, rfl, rfl, yK.rf, Or.inr rfl⟩
      · rw [if_neg cc, if_neg cc]
        exact ⟨0, M, rfl, rfl, yK.rf, Or.inl rfl⟩
    · rw [if_neg c, if_pos (by omega)]
      exact ⟨0, M, rfl, rfl, yK.rf, Or.inl rfl⟩
  rw [if_neg c1, if_neg c1]
  by_cases c2 : zz_h M 44 1 t = 2
  · rw [if_pos c2, if_pos c2]
    by_cases c : zz_h M 57 1 t = zz_h M 40 1 0
    · rw [if_pos c, if_pos c]
      exact ⟨1, M, rfl, rfl, yK.rf, Or.inr rfl⟩
    · rw [if_neg c, if_neg c]
      exact ⟨0, M, rfl, rfl, yK.rf, Or.inl rfl⟩
  rw [if_neg c2, if_neg c2]
  by_cases c3 : zz_h M 44 1 t = 3
  · rw [if_pos c3, if_pos c3, yy_r (by omega) (by omega)]
    by_cases c : zz_h M 40 1 0 + zz_h M 40 1 1 ≤ zz_h M 40 1 2
    · rw [if_pos c, if_pos c]
      exact ⟨0, M, rfl, rfl, yK.rf, Or.inl rfl⟩
    · rw [if_neg c, if_neg c, xC_fits_ok (h.E t h1 h2) h.N h1 to (by omega), Option.bind_some]
      obtain ⟨M', f1, f2⟩ := m_fits_ok (M := M) h1 t60 (h.E t h1 h2).nr to (by omega)
      rw [f1, Option.bind_some]
      dsimp only
      by_cases cc : yi (yPm t M (zz_h M 40 1 0 + zz_h M 40 1 1) ∧ yPd t M ((zz_h M 40 1 0 + zz_h M 40 1 1) / 1440)) = 0
      · rw [if_pos cc, if_pos cc]
        exact ⟨0, M', rfl, rfl, f2, Or.inl rfl⟩
      · rw [if_neg cc, if_neg cc]
        exact ⟨1, M', rfl, rfl, f2, Or.inr rfl⟩
  rw [if_neg c3, if_neg c3]
  exact ⟨0, M, rfl, rfl, yK.rf, Or.inl rfl⟩
def yn_bx (k : Nat) (j : Int) : Bool := !(k == 22 || k == 23 || k == 24 || (k == 5 && j == 3) || k == 19 || k == 20 || k == 21 || (k == 4 && j == 3) || (k == 7 && (j == 11 || j == 16 || j == 17)) || (k == 3 && j == 18))
def yn_bm (k : Nat) (j : Int) : Bool := !(k == 88 || k == 89 || k == 90 || (k == 40 && (j == 57 || j == 53 || j == 2 || (62 ≤ j && j ≤ 65))) || k == 85 || k == 86 || k == 87 || k == 57 || k == 58)
theorem yS.bringFired {b : Int} {aw : List Int} {dl : List yd} {X M : zz_S} (h : yS 1 b aw dl X M) (hb : b < 1600000000) (t : Int) (h1 : 0 ≤ t) (h2 : t < zz_h M 40 1 9) (ha : zz_h M 56 1 t = 0) :
    ∃ dl' X' M', (∀ K v i, x_bringDues_63 K v i (t + 1) X = K v (zz_r (i + 1)) X') ∧ (∀ K, m_treat_129 K (zz_h M 40 1 0) t M = K (zz_h M 40 1 0) (zz_r (t + 1)) M') ∧ yS 1 (b + 1) aw dl' X' M' ∧ yK yn_cx X X' ∧ yK yn_cm M M' := by
  have nr := h.A.nr
  have D := h.D t h1 h2
  have a1 : ¬ t + 1 = 0 := by omega
  have b62 : zz_b M 62 1 t := ⟨h1, by rw [ya_62]; omega⟩
  have hf : xT_isFiredFor (t + 1) (zz_h M 40 1 0) X = some (zz_h M 62 1 t, X) := by
    unfold xT_isFiredFor
    rw [if_neg a1, if_neg a1]
    rcases D.a rfl with ⟨q1, q2⟩ | ⟨q1, q2⟩
    · rw [if_neg (fun z => q2 (Or.inl z)), if_neg (fun z => q2 (Or.inr z)), q1]
    · rw [q1]
      split
      · rfl
      · rw [if_pos (by omega)]
  by_cases c : zz_h M 62 1 t = 0
  · refine ⟨dl, X, M, fun K v i => ?_, fun K => ?_, h.up (by omega), yK.rf, yK.rf⟩
    · unfold x_bringDues_63
      rw [if_neg a1, h.A.t, hf, Option.bind_some]
      dsimp only
      rw [if_pos c]
    · unfold m_treat_129
      rw [if_pos b62, if_pos c]
  · obtain ⟨dl', X', M', e1, e2, e3, e4, e5⟩ := h.comes (by omega) t h1 h2 ha
    refine ⟨dl', X', M', fun K v i => ?_, fun K => ?_, e3, e4, e5⟩
    · unfold x_bringDues_63
      rw [if_neg a1, h.A.t, hf, Option.bind_some]
      dsimp only
      rw [if_neg c, e1]
      rfl
    · unfold m_treat_129
      rw [if_pos b62, if_neg c, e2]
      rfl
theorem yS.bring_loop {house u : Int} : ∀ (k n m i : Nat) (b : Int) (aw : List Int) (dl : List yd) (X M : zz_S), yS 1 b aw dl X M → b + 2 * k < 1600000000 → u = zz_h M 40 1 0 → house = zz_h M 40 1 0 + zz_h M 40 1 1 → (i : Int) + k = zz_h M 40 1 9 → k < n → k < m → ∃ dl' X' M', x_bringDues_12 n house i X = some (0, X') ∧ m_treat_78 m u i M = ((m_misses u M').bind fun q => m_treat_178 zz_fu u q.2) ∧ yS 1 (b + 2 * k) aw dl' X' M' ∧ yK yn_bx X X' ∧ yK yn_bm M M' := by
  intro k
  induction k with
  | zero =>
    intro n m i b aw dl X M h hb hu hh hi hn hm
    obtain ⟨n, rfl⟩ : ∃ q, n = q + 1 := ⟨n - 1, by omega⟩
    obtain ⟨m, rfl⟩ : ∃ q, m = q + 1 := ⟨m - 1, by omega⟩
    have tr := h.A.tr
    have or := h.A.or
    have to := h.A.to
    have hr := h.A.hr
    have hx := h.A.h
    rw [x_bringDues_12, m_treat_78, h.A.n, if_neg (by omega), if_neg (by omega)]
    unfold j_max
    rw [hx, hu, yy_r (by omega) (by omega), ← hh]
    by_cases c : house ≤ zz_h M 40 1 2
    · rw [if_neg (show ¬ zz_h M 40 1 2 < house by omega), if_pos c, Option.bind_some]
      refine ⟨dl, X, M, ?_, rfl, h.up (by omega), yK.rf, yK.rf⟩
      dsimp only
      rw [← hx, zz_w_self]
    · rw [if_pos (show zz_h M 40 1 2 < house by omega), if_neg c, Option.bind_some]
      exact ⟨dl, _, _, rfl, rfl, (h.setHigh house (by omega)).up (by omega), by (repeat (first | refine yK.w ?_ rfl | exact yK.rf)), by (repeat (first | refine yK.w ?_ rfl | exact yK.rf))⟩
  | succ k ih =>
    intro n m i b aw dl X M h hb hu hh hi hn hm
    obtain ⟨n, rfl⟩ : ∃ q, n = q + 1 := ⟨n - 1, by omega⟩
    obtain ⟨m, rfl⟩ : ∃ q, m = q + 1 := ⟨m - 1, by omega⟩
    have nr := h.A.nr
    have i1 : (0 : Int) ≤ i := by omega
    have i2 : (i : Int) < zz_h M 40 1 9 := by omega
    have i60 : (i : Int) < 60 := by omega
    have r : zz_r ((i : Int) + 1) = ((i + 1 : Nat) : Int) := by rw [yy_r (by omega) (by omega)]; omega
    have t0 : ¬ (i : Int) + 1 = 0 := by omega
    have next : ∀ (b1 : Int) (dl1 : List yd) (X1 M1 : zz_S), yS 1 b1 aw dl1 X1 M1 → b1 ≤ b + 2 → yK yn_bx X X1 → yK yn_bm M M1 → zz_h M1 40 1 0 = zz_h M 40 1 0 → zz_h M1 40 1 1 = zz_h M 40 1 1 → ∃ dl' X' M', x_bringDues_12 n house ((i + 1 : Nat) : Int) X1 = some (0, X') ∧ m_treat_78 m u ((i + 1 : Nat) : Int) M1 = ((m_misses u M').bind fun q => m_treat_178 zz_fu u q.2) ∧ yS 1 (b + 2 * (k + 1 : Nat)) aw dl' X' M' ∧ yK yn_bx X X' ∧ yK yn_bm M M' := by
      intro b1 dl1 X1 M1 g hb1 kx km n0 n1
      have n9 : zz_h M1 40 1 9 = zz_h M 40 1 9 := km 40 1 9 rfl
      obtain ⟨dl', X', M', z1, z2, z3, z4, z5⟩ := ih n m (i + 1) b1 aw dl1 X1 M1 g (by omega) (by omega) (by omega) (by omega) (by omega) (by omega)
      exact ⟨dl', X', M', z1, z2, z3.up (by omega), kx.tr z4, km.tr z5⟩
    rw [x_bringDues_12, m_treat_78, h.A.n, if_pos i2, if_pos i2, x_taskAt_in h i1 i2, Option.bind_some]
    dsimp only
    rw [x_isActive_ok h i1 i2, Option.bind_some, m_isActive_ok _ _ ⟨i1, i60⟩, Option.bind_some, r]
    dsimp only
    by_cases ca : zz_h M 56 1 i = 0
    · rw [if_pos ca, if_neg (by decide), if_neg (by decide)]
      obtain ⟨v, M1, d1, d2, d3, d4⟩ := h.isDue i i1 i2
      have h' := h.lo d3
      have n0 : zz_h M1 40 1 0 = zz_h M 40 1 0 := d3 40 1 0 rfl
      have n1 : zz_h M1 40 1 1 = zz_h M 40 1 1 := d3 40 1 1 rfl
      have n9 : zz_h M1 40 1 9 = zz_h M 40 1 9 := d3 40 1 9 rfl
      have n56 : zz_h M1 56 1 i = 0 := (d3 56 1 i rfl).trans ca
      rw [hh, hu, d1, d2, Option.bind_some, Option.bind_some]
      dsimp only
      rw [← hh, ← hu]
      by_cases cv : v = 0
      · rw [if_pos cv, if_pos cv]
        obtain ⟨dl2, X2, M2, f1, f2, f3, f4, f5⟩ := h'.bringFired (by omega) i i1 (by omega) n56
        rw [n0, ← hu] at f2
        rw [f1, f2, r]
        exact next _ dl2 X2 M2 f3 (by omega) (f4.sub (by (intro k j e; first | rfl | (simp [yk_A, yk_B, yk_C, yk_D, yk_E, yk_F, yk_G, yk_M, yk_I, yk_J, yk_L, yk_Lx, yk_Lm, yk_N, yk_U, yn_cx, yn_cm, yn_Lx, yn_Lm, yn_bx] at e ⊢; omega)))) ((d3.sub (by (intro k j e; first | rfl | (simp [yk_A, yk_B, yk_C, yk_D, yk_E, yk_F, yk_G, yk_M, yk_I, yk_J, yk_L, yk_Lx, yk_Lm, yk_N, yk_U, yn_cx, yn_cm, yn_Lx, yn_Lm, yn_lo, yn_bm] at e ⊢; omega)))).tr (f5.sub (by (intro k j e; first | rfl | (simp [yk_A, yk_B, yk_C, yk_D, yk_E, yk_F, yk_G, yk_M, yk_I, yk_J, yk_L, yk_Lx, yk_Lm, yk_N, yk_U, yn_cx, yn_cm, yn_Lx, yn_Lm, yn_bm] at e ⊢; omega))))) ((f5 40 1 0 rfl).trans n0) ((f5 40 1 1 rfl).trans n1)
      · rw [if_neg cv, if_neg cv, if_neg t0, if_pos (show zz_b M1 44 1 i from ⟨i1, by rw [ya_44]; omega⟩), (h'.B i i1 (by omega)).ki]
        by_cases c2 : zz_h M1 44 1 i = 2
        · rw [if_pos c2, if_pos c2, if_neg t0, if_pos (show zz_b M1 57 1 i from ⟨i1, by rw [ya_57]; omega⟩)]
          have hN := h'.setNext i (-1)
          obtain ⟨dl1, X1, M3, e1, e2, e3, e4, e5⟩ := hN.comes (by omega) i i1 (by rw [yy_kind (by decide)]; omega) (by rw [yy_kind (by decide)]; exact n56)
          have e2 : m_comes i u (zz_w M1 57 1 i (-1)) = some (0, M3) := by rw [← e2, yy_kind (by decide), n0, hu]
          rw [e1, e2, Option.bind_some, Option.bind_some]
          dsimp only
          have m0 : zz_h M3 40 1 0 = zz_h M 40 1 0 := (e5 40 1 0 rfl).trans n0
          have m1 : zz_h M3 40 1 1 = zz_h M 40 1 1 := (e5 40 1 1 rfl).trans n1
          obtain ⟨dl2, X2, M2, f1, f2, f3, f4, f5⟩ := e3.bringFired (by omega) i i1 (by rw [e5 40 1 9 rfl]; exact (by omega : (i : Int) < zz_h M1 40 1 9)) ((e5 56 1 i rfl).trans n56)
          rw [m0, ← hu] at f2
          rw [f1, f2, r]
          exact next _ dl2 X2 M2 f3 (by omega) ((show yK yn_bx X (zz_w X 7 ((i : Int) + 1) 11 (-1)) from by (repeat (first | refine yK.w ?_ rfl | exact yK.rf))).tr ((e4.sub (by (intro k j e; first | rfl | (simp [yk_A, yk_B, yk_C, yk_D, yk_E, yk_F, yk_G, yk_M, yk_I, yk_J, yk_L, yk_Lx, yk_Lm, yk_N, yk_U, yn_cx, yn_cm, yn_Lx, yn_Lm, yn_bx] at e ⊢; omega)))).tr (f4.sub (by (intro k j e; first | rfl | (simp [yk_A, yk_B, yk_C, yk_D, yk_E, yk_F, yk_G, yk_M, yk_I, yk_J, yk_L, yk_Lx, yk_Lm, yk_N, yk_U, yn_cx, yn_cm, yn_Lx, yn_Lm, yn_bx] at e ⊢; omega)))))) (((d3.sub (by (intro k j e; first | rfl | (simp [yk_A, yk_B, yk_C, yk_D, yk_E, yk_F, yk_G, yk_M, yk_I, yk_J, yk_L, yk_Lx, yk_Lm, yk_N, yk_U, yn_cx, yn_cm, yn_Lx, yn_Lm, yn_lo, yn_bm] at e ⊢; omega)))).w rfl).tr ((e5.sub (by (intro k j e; first | rfl | (simp [yk_A, yk_B, yk_C, yk_D, yk_E, yk_F, yk_G, yk_M, yk_I, yk_J, yk_L, yk_Lx, yk_Lm, yk_N, yk_U, yn_cx, yn_cm, yn_Lx, yn_Lm, yn_bm] at e ⊢; omega)))).tr (f5.sub (by (intro k j e; first | rfl | (simp [yk_A, yk_B, yk_C, yk_D, yk_E, yk_F, yk_G, yk_M, yk_I, yk_J, yk_L, yk_Lx, yk_Lm, yk_N, yk_U, yn_cx, yn_cm, yn_Lx, yn_Lm, yn_bm] at e ⊢; omega)))))) ((f5 40 1 0 rfl).trans m0) ((f5 40 1 1 rfl).trans m1)
        · rw [if_neg c2, if_neg c2]
          obtain ⟨dl1, X1, M3, e1, e2, e3, e4, e5⟩ := h'.comes (by omega) i i1 (by omega) n56
          rw [n0, ← hu] at e2
          rw [e1, e2, Option.bind_some, Option.bind_some]
          dsimp only
          have m0 : zz_h M3 40 1 0 = zz_h M 40 1 0 := (e5 40 1 0 rfl).trans n0
          have m1 : zz_h M3 40 1 1 = zz_h M 40 1 1 := (e5 40 1 1 rfl).trans n1
          obtain ⟨dl2, X2, M2, f1, f2, f3, f4, f5⟩ := e3.bringFired (by omega) i i1 (by rw [e5 40 1 9 rfl]; omega) ((e5 56 1 i rfl).trans n56)
          rw [m0, ← hu] at f2
          rw [f1, f2, r]
          exact next _ dl2 X2 M2 f3 (by omega) ((e4.sub (by (intro k j e; first | rfl | (simp [yk_A, yk_B, yk_C, yk_D, yk_E, yk_F, yk_G, yk_M, yk_I, yk_J, yk_L, yk_Lx, yk_Lm, yk_N, yk_U, yn_cx, yn_cm, yn_Lx, yn_Lm, yn_bx] at e ⊢; omega)))).tr (f4.sub (by (intro k j e; first | rfl | (simp [yk_A, yk_B, yk_C, yk_D, yk_E, yk_F, yk_G, yk_M, yk_I, yk_J, yk_L, yk_Lx, yk_Lm, yk_N, yk_U, yn_cx, yn_cm, yn_Lx, yn_Lm, yn_bx] at e ⊢; omega))))) ((d3.sub (by (intro k j e; first | rfl | (simp [yk_A, yk_B, yk_C, yk_D, yk_E, yk_F, yk_G, yk_M, yk_I, yk_J, yk_L, yk_Lx, yk_Lm, yk_N, yk_U, yn_cx, yn_cm, yn_Lx, yn_Lm, yn_lo, yn_bm] at e ⊢; omega)))).tr ((e5.sub (by (intro k j e; first | rfl | (simp [yk_A, yk_B, yk_C, yk_D, yk_E, yk_F, yk_G, yk_M, yk_I, yk_J, yk_L, yk_Lx, yk_Lm, yk_N, yk_U, yn_cx, yn_cm, yn_Lx, yn_Lm, yn_bm] at e ⊢; omega)))).tr (f5.sub (by (intro k j e; first | rfl | (simp [yk_A, yk_B, yk_C, yk_D, yk_E, yk_F, yk_G, yk_M, yk_I, yk_J, yk_L, yk_Lx, yk_Lm, yk_N, yk_U, yn_cx, yn_cm, yn_Lx, yn_Lm, yn_bm] at e ⊢; omega)))))) ((f5 40 1 0 rfl).trans m0) ((f5 40 1 1 rfl).trans m1)
    · rw [if_neg ca, if_pos rfl, if_pos rfl]
      exact next b dl X M h (by omega) yK.rf yK.rf rfl rfl
theorem yS.bring {b : Int} {aw : List Int} {dl : List yd} {X M : zz_S} (h : yS 1 b aw dl X M) (hb : b < 1500000000) : ∃ dl' X' M', x_bringDues X = some (0, X') ∧ m_treat_78 zz_fu (zz_h M 40 1 0) 0 M = ((m_misses (zz_h M 40 1 0) M').bind fun q => m_treat_178 zz_fu (zz_h M 40 1 0) q.2) ∧ yS 1 (b + 120) aw dl' X' M' ∧ yK yn_bx X X' ∧ yK yn_bm M M' := by
  have nr := h.A.nr
  have fu := yy_fu
  have tr := h.A.tr
  have or := h.A.or
  obtain ⟨dl', X', M', z1, z2, z3, z4, z5⟩ := yS.bring_loop (house := zz_h M 40 1 0 + zz_h M 40 1 1) (u := zz_h M 40 1 0) (zz_h M 40 1 9).toNat zz_fu zz_fu 0 b aw dl X M h (by omega) rfl rfl (by omega) (by omega) (by omega)
  refine ⟨dl', X', M', ?_, z2, z3.up (by omega), z4, z5⟩
  unfold x_bringDues
  rw [h.A.t, h.A.o, yy_r (by omega) (by omega)]
  exact z1
