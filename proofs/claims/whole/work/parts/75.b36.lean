/-! STAGE B: the clock of the house jumps -/
def yn_jm (k : Nat) (j : Int) : Bool := !(k == 88 || k == 89 || k == 90 || (k == 40 && (j == 57 || j == 53 || (62 ≤ j && j ≤ 65))) || k == 85 || k == 86 || k == 87 || k == 57 || k == 58)
theorem yPf_jm {t h : Int} {M M' : zz_S} (k : yK yn_jm M M') : yPf t M' h ↔ yPf t M h := by
  have g : yK yk_E M M' := k.sub (by (intro k j e; first | rfl | (simp [yk_A, yk_B, yk_C, yk_D, yk_E, yk_F, yk_G, yk_M, yk_I, yk_J, yk_L, yk_Lx, yk_Lm, yk_N, yk_U, yn_cx, yn_cm, yn_Lx, yn_Lm, yn_jm] at e ⊢; omega)))
  unfold yPf yPm yPd
  rw [yfa.cg g, yfa.cg g]
theorem m_jump_rest {t j first e : Int} (K : Int → Int → Int → zz_S → zz_R) (t0 : 0 ≤ t) (t1 : t < 60) (hj : zz_r (first + j) = e) (he : e ≤ 500000) : ∀ (k m : Nat) (h mc : Int) (M : zz_S), (0 ≤ zz_h M 64 1 t ∧ zz_h M 64 1 t ≤ 4) → zz_h M 51 1 t = 1 → h + k = e → 0 ≤ h → zz_h M 40 1 2 < h → 1 ≤ mc → mc + k ≤ 800 → k < m → ∃ M', m_jump_103 K m j first t mc h M = K j first (zz_r (t + 1)) M' ∧ yK yn_lo M M' := by
  intro k
  induction k with
  | zero =>
    intro m h mc M hF hr a h0 hh b c d
    obtain ⟨m, rfl⟩ : ∃ q, m = q + 1 := ⟨m - 1, by omega⟩
    refine ⟨M, ?_, yK.rf⟩
    rw [m_jump_103, hj, if_neg (by omega)]
  | succ k ih =>
    intro m h mc M hF hr a h0 hh b c d
    obtain ⟨m, rfl⟩ : ∃ q, m = q + 1 := ⟨m - 1, by omega⟩
    obtain ⟨M1, f1, f2⟩ := m_fits_ok (t := t) (h := h) (M := M) t0 t1 hF h0 (by omega)
    have b51 : zz_b M1 51 1 t := ⟨t0, by rw [ya_51]; omega⟩
    have n51 : zz_h M1 51 1 t = 1 := (f2 51 1 t rfl).trans hr
    have hF1 : 0 ≤ zz_h M1 64 1 t ∧ zz_h M1 64 1 t ≤ 4 := by rw [f2 64 1 t rfl]; exact hF
    have n2 : zz_h M1 40 1 2 < h + 1 := by rw [f2 40 1 2 rfl]; omega
    rw [m_jump_103, hj, if_pos (by omega), if_neg (by omega), f1, Option.bind_some, yy_r (z := h + 1) (by omega) (by omega), yy_r (z := mc + 1) (by omega) (by omega)]
    dsimp only
    by_cases cf : yi (yPm t M h ∧ yPd t M (h / 1440)) = 0
    · rw [if_pos cf]
      obtain ⟨M', z1, z2⟩ := ih m (h + 1) mc M1 hF1 n51 (by omega) (by omega) n2 b (by omega) (by omega)
      exact ⟨M', z1, f2.tr z2⟩
    · rw [if_neg cf, if_pos b51, n51, if_neg yy_10, if_pos b51, if_neg (show ¬ (1 : Int) = 2 by decide), if_neg (by omega)]
      obtain ⟨M', z1, z2⟩ := ih m (h + 1) (mc + 1) M1 hF1 n51 (by omega) (by omega) n2 (by omega) (by omega) (by omega)
      exact ⟨M', z1, f2.tr z2⟩
theorem yS.miss_jumped {aw : List Int} {P : Int → Prop} {t j first last rule : Int} (K : Int → Int → Int → zz_S → zz_R) (t0 : 0 ≤ t) (hj : zz_r (first + j) = last + 1) (hl : last ≤ 450000) (hr : rule = 0 ∨ rule = 1 ∨ rule = 2) : ∀ (k n m fc : Nat) (h house b : Int) (dl : List yd) (X M : zz_S), yS 0 b aw dl X M → b + k < 1600000000 → t < zz_h M 40 1 9 → zz_h M 56 1 t = 0 → zz_h M 51 1 t = rule → (∀ x, yPf t M x ↔ P x) → h + k = last + 1 → zz_h M 40 1 2 < h → 0 ≤ h → (rule = 1 → fc = 0) → fc + k ≤ 720 → k < n → k < m → yLst P h last house → ∃ dl' X' M', x_missJumped_22 n (t + 1) last rule house fc X = some (0, X') ∧ m_jump_103 K m j first t fc h M = K j first (zz_r (t + 1)) M' ∧ yS 0 (b + k) aw dl' X' M' ∧ yK yn_cx X X' ∧ yK yn_jm M M' := by
  intro k
  induction k with
  | zero =>
    intro n m fc h house b dl X M hS hb h2 ha h51 hP hk hh h0 hfc hf hn hm hL
    obtain ⟨n, rfl⟩ : ∃ q, n = q + 1 := ⟨n - 1, by omega⟩
    obtain ⟨m, rfl⟩ : ∃ q, m = q + 1 := ⟨m - 1, by omega⟩
    have hz : house = -1 := by
      rcases hL with ⟨z, -⟩ | ⟨z1, z2, -⟩
      · exact z
      · omega
    refine ⟨dl, X, M, ?_, ?_, hS.up (by omega), yK.rf, yK.rf⟩
    · rw [x_missJumped_22, if_pos hz]
      split <;> rfl
    · rw [m_jump_103, hj, if_neg (by omega)]
  | succ k ih =>
    intro n m fc h house b dl X M hS hb h2 ha h51 hP hk hh h0 hfc hf hn hm hL
    obtain ⟨m, rfl⟩ : ∃ q, m = q + 1 := ⟨m - 1, by omega⟩
    have nr := hS.A.nr
    have E := hS.E t t0 h2
    have B := hS.B t t0 h2
    have a1 : ¬ t + 1 = 0 := by omega
    obtain ⟨M1, f1, f2⟩ := m_fits_ok (t := t) (h := h) (M := M) t0 (by omega) E.nr h0 (by omega)
    have g1 := hS.lo f2
    have jm1 : yK yn_jm M M1 := f2.sub (by (intro k j e; first | rfl | (simp [yk_A, yk_B, yk_C, yk_D, yk_E, yk_F, yk_G, yk_M, yk_I, yk_J, yk_L, yk_Lx, yk_Lm, yk_N, yk_U, yn_cx, yn_cm, yn_Lx, yn_Lm, yn_lo, yn_jm] at e ⊢; omega)))
    have n9 : zz_h M1 40 1 9 = zz_h M 40 1 9 := f2 40 1 9 rfl
    have n56 : zz_h M1 56 1 t = 0 := (f2 56 1 t rfl).trans ha
    have n51 : zz_h M1 51 1 t = rule := (f2 51 1 t rfl).trans h51
    have n2 : zz_h M1 40 1 2 = zz_h M 40 1 2 := f2 40 1 2 rfl
    have hP1 : ∀ x, yPf t M1 x ↔ P x := fun x => (yPf_lo f2).trans (hP x)
    have b51 : zz_b M1 51 1 t := ⟨t0, by rw [ya_51]; omega⟩
    have rf : zz_r ((fc : Int) + 1) = ((fc + 1 : Nat) : Int) := by rw [yy_r (by omega) (by omega)]; omega
    rw [m_jump_103, hj, if_pos (by omega), if_neg (by omega), f1, Option.bind_some, yy_r (z := h + 1) (by omega) (by omega), rf]
    dsimp only
    by_cases cf : P h
    · have cf' : yPm t M h ∧ yPd t M (h / 1440) := (hP h).mpr cf
      have hz : house = h := by
        rcases hL with ⟨z, z2⟩ | ⟨z1, z2, z3, z4⟩
        · exact absurd cf (z2 h (by omega) (by omega))
        · by_cases q : h < house
          · exact absurd cf (z4 h (by omega) q)
          · omega
      subst hz
      obtain ⟨n, rfl⟩ : ∃ q, n = q + 1 := ⟨n - 1, by omega⟩
      obtain ⟨r, r1, r2⟩ := xC_firstFit_ok (a := house + 1) (last := last) E hS.N t0 (by omega) (by omega) (by omega) (by omega)
      have r2 : yLst P (house + 1) last r := by
        have : yPf t M = P := funext fun x => propext (hP x)
        rw [this] at r2
        exact r2
      -- behind the action
      have fin : ∀ (b' : Int) (dl1 : List yd) (X2 M2 : zz_S), yS 0 b' aw dl1 X2 M2 → b' = b + 1 → yK yn_cx X X2 → yK yn_jm M M2 → ∃ dl' X' M', x_missJumped_63 (x_missJumped_22 n) (t + 1) last rule house fc X2 = some (0, X') ∧ m_jump_103 K m j first t ((fc + 1 : Nat) : Int) (house + 1) M2 = K j first (zz_r (t + 1)) M' ∧ yS 0 (b + (k + 1 : Nat)) aw dl' X' M' ∧ yK yn_cx X X' ∧ yK yn_jm M M' := by
        intro b' dl1 X2 M2 g hb' kx km
        have p9 : zz_h M2 40 1 9 = zz_h M 40 1 9 := km 40 1 9 rfl
        have p51 : zz_h M2 51 1 t = rule := (km 51 1 t rfl).trans h51
        have p2 : zz_h M2 40 1 2 = zz_h M 40 1 2 := km 40 1 2 rfl
        unfold x_missJumped_63
        by_cases c1 : rule = 1
        · have fc0 := hfc c1
          obtain ⟨M', z1, z2⟩ := m_jump_rest (t := t) (j := j) (first := first) (e := last + 1) K t0 (by omega) hj (by omega) k m (house + 1) ((fc + 1 : Nat) : Int) M2 (by rw [km 64 1 t rfl]; exact E.nr) (p51.trans c1) (by omega) (by omega) (by omega) (by omega) (by omega) (by omega)
          refine ⟨dl1, X2, M', ?_, z1, (g.lo z2).up (by omega), kx, km.tr (z2.sub (by (intro k j e; first | rfl | (simp [yk_A, yk_B, yk_C, yk_D, yk_E, yk_F, yk_G, yk_M, yk_I, yk_J, yk_L, yk_Lx, yk_Lm, yk_N, yk_U, yn_cx, yn_cm, yn_Lx, yn_Lm, yn_lo, yn_jm] at e ⊢; omega))))⟩
          rw [if_pos c1]
        · rw [if_neg c1, if_neg a1, if_neg a1, yy_r (z := house + 1) (by omega) (by omega), rf]
          have E2 := g.E t t0 (by omega)
          obtain ⟨s, s1, s2⟩ := xC_firstFit_ok (a := house + 1) (last := last) E2 g.N t0 (by omega) (by omega) (by omega) (by omega)
          have s2 : yLst P (house + 1) last s := by
            have : yPf t M2 = P := funext fun x => propext ((yPf_jm km).trans (hP x))
            rw [this] at s2
            exact s2
          rw [s1, Option.bind_some]
          dsimp only
          obtain ⟨dl', X', M', z1, z2, z3, z4, z5⟩ := ih n m (fc + 1) (house + 1) s b' dl1 X2 M2 g (by omega) (by omega) ((km 56 1 t rfl).trans ha) p51 (fun x => (yPf_jm km).trans (hP x)) (by omega) (by omega) (by omega) (fun z => absurd z c1) (by omega) (by omega) (by omega) s2
          exact ⟨dl', X', M', z1, z2, z3.up (by omega), kx.tr z4, km.tr z5⟩
      rw [x_missJumped_22, if_pos (show (fc : Int) < 720 by omega), if_neg (show ¬ house = -1 by omega), yi_pos cf', if_neg yy_10, if_pos b51, n51, if_pos b51]
      by_cases c0 : rule = 0
      · rw [if_pos c0, if_pos c0, if_neg a1, B.nu]
        obtain ⟨X2, M2, e1, e2, e3, e4, e5⟩ := g1.book (by omega) t house 3
        rw [e1, e2, Option.bind_some, Option.bind_some]
        exact fin _ _ X2 M2 e3 rfl (e4.sub (by (intro k j e; first | rfl | (simp [yk_A, yk_B, yk_C, yk_D, yk_E, yk_F, yk_G, yk_M, yk_I, yk_J, yk_L, yk_Lx, yk_Lm, yk_N, yk_U, yn_cx, yn_cm, yn_Lx, yn_Lm] at e ⊢; omega)))) (jm1.tr (e5.sub (by (intro k j e; first | rfl | (simp [yk_A, yk_B, yk_C, yk_D, yk_E, yk_F, yk_G, yk_M, yk_I, yk_J, yk_L, yk_Lx, yk_Lm, yk_N, yk_U, yn_cx, yn_cm, yn_Lx, yn_Lm, yn_jm] at e ⊢; omega)))))
      · rw [if_neg c0, if_neg c0]
        obtain ⟨dl2, X2, M2, e1, e2, e3, e4, e5⟩ := g1.comes (by omega) t t0 (by omega) n56
        rw [e1, Option.bind_some]
        by_cases c2 : rule = 2
        · rw [if_pos c2, e2, Option.bind_some]
          exact fin _ _ X2 M2 e3 rfl e4 (jm1.tr (e5.sub (by (intro k j e; first | rfl | (simp [yk_A, yk_B, yk_C, yk_D, yk_E, yk_F, yk_G, yk_M, yk_I, yk_J, yk_L, yk_Lx, yk_Lm, yk_N, yk_U, yn_cx, yn_cm, yn_Lx, yn_Lm, yn_jm] at e ⊢; omega)))))
        · have fc0 := hfc (by omega)
          rw [if_neg c2, if_pos (show ((fc + 1 : Nat) : Int) = 1 by omega), e2, Option.bind_some]
          exact fin _ _ X2 M2 e3 rfl e4 (jm1.tr (e5.sub (by (intro k j e; first | rfl | (simp [yk_A, yk_B, yk_C, yk_D, yk_E, yk_F, yk_G, yk_M, yk_I, yk_J, yk_L, yk_Lx, yk_Lm, yk_N, yk_U, yn_cx, yn_cm, yn_Lx, yn_Lm, yn_jm] at e ⊢; omega)))))
    · have cf' : ¬ (yPm t M h ∧ yPd t M (h / 1440)) := fun z => cf ((hP h).mp z)
      rw [yi_neg cf', if_pos rfl]
      have hL' : yLst P (h + 1) last house := by
        rcases hL with ⟨z, z2⟩ | ⟨z1, z2, z3, z4⟩
        · exact Or.inl ⟨z, fun x x1 x2 => z2 x (by omega) x2⟩
        · refine Or.inr ⟨?_, z2, z3, fun x x1 x2 => z4 x (by omega) x2⟩
          have : house ≠ h := fun z => cf (z ▸ z3)
          omega
      obtain ⟨dl', X', M', z1, z2, z3, z4, z5⟩ := ih n m fc (h + 1) house b dl X M1 g1 (by omega) (by omega) n56 n51 hP1 (by omega) (by omega) (by omega) hfc (by omega) (by omega) (by omega) hL'
      exact ⟨dl', X', M', z1, z2, z3.up (by omega), z4, jm1.tr z5⟩
/-- the minutes that are not above high are passed over -/
theorem m_jump_pass {t j first e mc : Int} (K : Int → Int → Int → zz_S → zz_R) (M : zz_S) (hj : zz_r (first + j) = e) (he : e ≤ 500000) : ∀ (k m : Nat) (h : Int), 0 ≤ h → h + k ≤ e → (1 ≤ k → h + k ≤ zz_h M 40 1 2 + 1) → k < m → ∃ m', m ≤ m' + k ∧ m_jump_103 K m j first t mc h M = m_jump_103 K m' j first t mc (h + k) M := by
  intro k
  induction k with
  | zero =>
    intro m h h0 a b c
    exact ⟨m, by omega, by rw [show h + ((0 : Nat) : Int) = h by omega]⟩
  | succ k ih =>
    intro m h h0 a b c
    obtain ⟨m, rfl⟩ : ∃ q, m = q + 1 := ⟨m - 1, by omega⟩
    obtain ⟨m', e1, e2⟩ := ih m (h + 1) (by omega) (by omega) (by omega) (by omega)
    refine ⟨m', by omega, ?_⟩
    rw [m_jump_103, hj, if_pos (by omega), if_pos (by omega), yy_r (by omega) (by omega), e2]
    congr 1
    omega
theorem yS.jump_loop {aw : List Int} {j first last lo : Int} (f0 : 0 ≤ first) (j0 : 1 ≤ j) (j7 : j ≤ 720) (hlast : last = first + j - 1) (hl : last ≤ 401440) : ∀ (k n m i : Nat) (b : Int) (dl : List yd) (X M : zz_S), yS 0 b aw dl X M → b + 720 * k < 1500000000 → (i : Int) + k = zz_h M 40 1 9 → k < n → k < m → lo = (if first < zz_h M 40 1 2 + 1 then zz_h M 40 1 2 + 1 else first) → ∃ dl' X' M', x_jumpOver_14 n last lo i X = some (0, X') ∧ m_jump_68 m j first i M = m_jump_214 j M' ∧ yS 0 (b + 720 * k) aw dl' X' M' ∧ zz_h M' 40 1 0 = zz_h M 40 1 0 ∧ zz_h M' 40 1 1 = zz_h M 40 1 1 := by
  intro k
  induction k with
  | zero =>
    intro n m i b dl X M h hb hi hn hm hlo
    obtain ⟨n, rfl⟩ : ∃ q, n = q + 1 := ⟨n - 1, by omega⟩
    obtain ⟨m, rfl⟩ : ∃ q, m = q + 1 := ⟨m - 1, by omega⟩
    have hr := h.A.hr
    have hx := h.A.h
    rw [x_jumpOver_14, m_jump_68, h.A.n, if_neg (by omega), if_neg (by omega)]
    unfold j_max
    rw [hx, yy_r (z := first + j) (by omega) (by omega), yy_r (z := first + j - 1) (by omega) (by omega), ← hlast]
    by_cases c : last ≤ zz_h M 40 1 2
    · rw [if_neg (show ¬ zz_h M 40 1 2 < last by omega), if_pos c, Option.bind_some]
      refine ⟨dl, X, M, ?_, rfl, h.up (by omega), rfl, rfl⟩
      dsimp only
      rw [← hx, zz_w_self]
    · rw [if_pos (show zz_h M 40 1 2 < last by omega), if_neg c, Option.bind_some]
      exact ⟨dl, _, _, rfl, rfl, (h.setHigh last (by omega)).up (by omega), rfl, rfl⟩
  | succ k ih =>
    intro n m i b dl X M h hb hi hn hm hlo
    obtain ⟨n, rfl⟩ : ∃ q, n = q + 1 := ⟨n - 1, by omega⟩
    obtain ⟨m, rfl⟩ : ∃ q, m = q + 1 := ⟨m - 1, by omega⟩
    have fu := yy_fu
    have nr := h.A.nr
    have hr := h.A.hr
    have i1 : (0 : Int) ≤ i := by omega
    have i2 : (i : Int) < zz_h M 40 1 9 := by omega
    have i60 : (i : Int) < 60 := by omega
    have a1 : ¬ (i : Int) + 1 = 0 := by omega
    have r : zz_r ((i : Int) + 1) = ((i + 1 : Nat) : Int) := by rw [yy_r (by omega) (by omega)]; omega
    have B := h.B i i1 i2
    have next : ∀ (b1 : Int) (dl1 : List yd) (X1 M1 : zz_S), yS 0 b1 aw dl1 X1 M1 → b1 ≤ b + 720 → yK yn_jm M M1 → ∃ dl' X' M', x_jumpOver_14 n last lo ((i + 1 : Nat) : Int) X1 = some (0, X') ∧ m_jump_68 m j first ((i + 1 : Nat) : Int) M1 = m_jump_214 j M' ∧ yS 0 (b + 720 * (k + 1 : Nat)) aw dl' X' M' ∧ zz_h M' 40 1 0 = zz_h M 40 1 0 ∧ zz_h M' 40 1 1 = zz_h M 40 1 1 := by
      intro b1 dl1 X1 M1 g hb1 km
      have n9 : zz_h M1 40 1 9 = zz_h M 40 1 9 := km 40 1 9 rfl
      obtain ⟨dl', X', M', z1, z2, z3, z4, z5⟩ := ih n m (i + 1) b1 dl1 X1 M1 g (by omega) (by omega) (by omega) (by omega) (by rw [km 40 1 2 rfl]; exact hlo)
      exact ⟨dl', X', M', z1, z2, z3.up (by omega), z4.trans (km 40 1 0 rfl), z5.trans (km 40 1 1 rfl)⟩
    rw [x_jumpOver_14, m_jump_68, h.A.n, if_pos i2, if_pos i2, x_taskAt_in h i1 i2, Option.bind_some]
    dsimp only
    rw [x_isActive_ok h i1 i2, Option.bind_some, m_isActive_ok _ _ ⟨i1, i60⟩, Option.bind_some, r]
    dsimp only
    by_cases ca : zz_h M 56 1 i = 0
    · rw [if_pos ca, if_neg yy_10, if_neg a1, if_neg yy_10, if_pos (show zz_b M 44 1 (i : Int) from ⟨i1, by rw [ya_44]; omega⟩), B.ki]
      by_cases ck : zz_h M 44 1 i = 3
      · rw [if_pos ck, if_pos ck]
        unfold x_missJumped
        simp only [a1, if_false]
        rw [if_pos (show zz_b X 28 ((i : Int) + 1) 4 from ⟨by omega, by rw [ya_28]; omega⟩), B.t4]
        have lo0 : 0 ≤ lo ∧ lo ≤ 450001 ∧ first ≤ lo ∧ zz_h M 40 1 2 < lo ∧ (first < lo → lo = zz_h M 40 1 2 + 1) := by
          rw [hlo]
          split <;> omega
        obtain ⟨house, s1, s2⟩ := xC_firstFit_ok (a := lo) (last := last) (h.E i i1 i2) h.N i1 (by omega) (by omega) (by omega) (by omega)
        rw [s1, Option.bind_some]
        dsimp only
        have hjr : zz_r (first + j) = last + 1 := by rw [yy_r (by omega) (by omega)]; omega
        by_cases cl : lo ≤ last
        · obtain ⟨m', p1, p2⟩ := m_jump_pass (t := (i : Int)) (j := j) (first := first) (e := last + 1) (mc := 0) (m_jump_68 m) M hjr (by omega) (lo - first).toNat zz_fu first (by omega) (by omega) (by omega) (by omega)
          rw [p2, show first + ((lo - first).toNat : Int) = lo by omega]
          obtain ⟨dl1, X1, M1, z1, z2, z3, z4, z5⟩ := yS.miss_jumped (aw := aw) (P := yPf i M) (t := i) (j := j) (first := first) (last := last) (rule := zz_h M 51 1 i) (m_jump_68 m) i1 hjr (by omega) (by have := B.r4; omega) (last + 1 - lo).toNat zz_fu m' 0 lo house b dl X M h (by omega) i2 ca rfl (fun x => Iff.rfl) (by omega) (by omega) (by omega) (fun _ => rfl) (by omega) (by omega) (by omega) s2
          rw [show ((0 : Nat) : Int) = 0 from rfl] at z1 z2
          rw [z1, Option.bind_some, z2, r]
          exact next _ dl1 X1 M1 z3 (by omega) z5
        · have hz : house = -1 := by
            rcases s2 with ⟨z, -⟩ | ⟨z1, z2, -⟩
            · exact z
            · omega
          obtain ⟨m', p1, p2⟩ := m_jump_pass (t := (i : Int)) (j := j) (first := first) (e := last + 1) (mc := 0) (m_jump_68 m) M hjr (by omega) (last + 1 - first).toNat zz_fu first (by omega) (by omega) (by omega) (by omega)
          obtain ⟨m', rfl⟩ : ∃ q, m' = q + 1 := ⟨m' - 1, by omega⟩
          obtain ⟨n', hn'⟩ : ∃ q, zz_fu = q + 1 := ⟨zz_fu - 1, by omega⟩
          rw [p2, m_jump_103, hjr, if_neg (by omega), hn', x_missJumped_22, if_pos (show (0 : Int) < 720 by decide), if_pos hz, Option.bind_some, r]
          exact next b dl X M h (by omega) yK.rf
      · rw [if_neg ck, if_neg ck]
        exact next b dl X M h (by omega) yK.rf
    · rw [if_neg ca, if_pos rfl, if_pos rfl]
      exact next b dl X M h (by omega) yK.rf
theorem yS.shift {b : Int} {aw : List Int} {dl : List yd} {X M : zz_S} (h : yS 0 b aw dl X M) (v : Int) (h1 : -1440 ≤ zz_h M 40 1 1 + v ∧ zz_h M 40 1 1 + v ≤ 1440) (h2 : 0 ≤ zz_h M 40 1 0 + zz_h M 40 1 1 + v) : ∃ X' M', x_jump_85 v X = some (zz_h M 40 1 1 + v, X') ∧ m_jump_214 v M = some (zz_h M 40 1 1 + v, M') ∧ yS 0 b aw dl X' M' ∧ zz_h M' 40 1 0 = zz_h M 40 1 0 := by
  have r1 : zz_r (zz_h M 40 1 1 + v) = zz_h M 40 1 1 + v := yy_r (by omega) (by omega)
  have h' : yS 0 b aw dl (zz_w X 3 1 17 (zz_h M 40 1 1 + v)) (zz_w M 40 1 1 (zz_h M 40 1 1 + v)) := by
    (refine yS.by_ h ?_ rfl rfl rfl ?_ ?_ ?_ ?_ ?_ ?_ ?_ ?_ ?_ ?_ ?_ ?_ <;> try (first | (refine yA.cg (yS.A h) ?_ ?_ <;> ((repeat (first | refine yK.w ?_ rfl | exact yK.rf)); done))| (intro t h1 h2; refine yB.cg (yS.B h t h1 h2) ?_ ?_ <;> ((repeat (first | refine yK.w ?_ rfl | exact yK.rf)); done))| (intro t h1 h2; refine yC.cg (yC.up (yS.C h t h1 h2) (by omega)) ?_ ?_ <;> ((repeat (first | refine yK.w ?_ rfl | exact yK.rf)); done))| (intro t h1 h2; refine yD.cg (yS.D h t h1 h2) ?_ ?_ <;> ((repeat (first | refine yK.w ?_ rfl | exact yK.rf)); done))| (intro t h1 h2; refine yE.cg (yS.E h t h1 h2) ?_ ?_ <;> ((repeat (first | refine yK.w ?_ rfl | exact yK.rf)); done))| (intro t h1 h2; refine yF.cg (yS.F h t h1 h2) ?_ ?_ <;> ((repeat (first | refine yK.w ?_ rfl | exact yK.rf)); done))| (refine yG.cg (yS.G h) ?_ ?_ <;> ((repeat (first | refine yK.w ?_ rfl | exact yK.rf)); done))| (intro t h1 h2; refine yI.cg (yS.I h t h1 h2) ?_ ?_ <;> ((repeat (first | refine yK.w ?_ rfl | exact yK.rf)); done))| (refine yJ.cg (yS.J h) ?_ ?_ <;> ((repeat (first | refine yK.w ?_ rfl | exact yK.rf)); done))| (refine yL.cg (yS.L h) ?_ ?_ <;> ((repeat (first | refine yK.w ?_ rfl | exact yK.rf)); done))| (refine yM.cg (yM.up (yS.R h) (by omega)) ?_ ?_ <;> ((repeat (first | refine yK.w ?_ rfl | exact yK.rf)); done))| (refine yN.cg (yS.N h) ?_ (fun _ => ⟨rfl, rfl⟩) <;> ((repeat (first | refine yK.w ?_ rfl | exact yK.rf)); done))| (refine yU.cg (yS.U h) ?_ <;> ((repeat (first | refine yK.w ?_ rfl | exact yK.rf)); done))))
    have a := h.A
    unfold yA
    refine ⟨a.n, a.nr, a.r, a.rr, a.g, a.gr, a.w, a.wr, a.t, a.tr, rfl, ?_, ?_, a.h, a.hr, a.s, a.sr, a.p, a.pr⟩
    · rw [yy_same]
      exact h1
    · rw [yy_same, yy_slot (by decide)]
      omega
  refine ⟨_, _, ?_, ?_, h', yy_slot (by decide)⟩
  · unfold x_jump_85
    rw [h.A.o, r1]
    dsimp only
    rw [yy_same]
  · unfold m_jump_214
    rw [r1]
    dsimp only
    rw [yy_same]
theorem yW.jump {c : Int} {X M : zz_S} (hW : yW c X M) (hc : c ≤ 600) (v : Int) : yR c (x_jump v) (m_jump v) X M := by
  obtain ⟨aw, dl, h⟩ := hW
  have fu := yy_fu
  have nr := h.A.nr
  have tr := h.A.tr
  have or := h.A.or
  have to := h.A.to
  have hr := h.A.hr
  have hW : yW c X M := ⟨aw, dl, h⟩
  unfold yR x_jump m_jump
  rw [x_isWithin_ok, m_in_ok, Option.bind_some, Option.bind_some]
  dsimp only
  rw [h.A.o]
  by_cases k0 : v = 0
  · rw [if_pos k0, if_pos (show -720 ≤ v ∧ v ≤ 720 by omega), if_neg yy_10, if_pos k0]
    exact ⟨_, _, _, rfl, rfl, hW.up (by omega)⟩
  rw [if_neg k0]
  by_cases k1 : -720 ≤ v ∧ v ≤ 720
  · rw [if_pos k1, if_neg yy_10, if_neg yy_10, if_neg k0, yy_r (z := zz_h M 40 1 1 + v) (by omega) (by omega), x_isWithin_ok, m_in_ok, Option.bind_some, Option.bind_some]
    dsimp only
    rw [h.A.o, h.A.t, yy_r (z := zz_h M 40 1 0 + zz_h M 40 1 1) (by omega) (by omega), yy_r (z := zz_h M 40 1 0 + zz_h M 40 1 1 + v) (by omega) (by omega), yy_r (z := zz_h M 40 1 0 + zz_h M 40 1 1 + v - 1) (by omega) (by omega)]
    by_cases k2 : -1440 ≤ zz_h M 40 1 1 + v ∧ zz_h M 40 1 1 + v ≤ 1440
    · rw [if_pos k2, if_neg yy_10, if_neg yy_10]
      by_cases k3 : zz_h M 40 1 0 + zz_h M 40 1 1 + v < 0
      · rw [if_pos k3, if_pos k3]
        exact ⟨_, _, _, rfl, rfl, hW.up (by omega)⟩
      · rw [if_neg k3, if_neg k3]
        by_cases k4 : v ≤ 0
        · rw [if_pos k4, if_pos k4]
          obtain ⟨X', M', e1, e2, e3, e4⟩ := h.shift v k2 (by omega)
          exact ⟨_, X', M', e1, e2, aw, dl, e3.up (by rw [e4]; omega)⟩
        · rw [if_neg k4, if_neg k4]
          unfold x_jumpOver
          have hmax : j_max (zz_h M 40 1 0 + zz_h M 40 1 1) (zz_r (zz_h M 40 1 2 + 1)) X = some (if zz_h M 40 1 0 + zz_h M 40 1 1 < zz_h M 40 1 2 + 1 then zz_h M 40 1 2 + 1 else zz_h M 40 1 0 + zz_h M 40 1 1, X) := by
            unfold j_max
            rw [yy_r (by omega) (by omega)]
            split <;> rfl
          rw [h.A.h, hmax, Option.bind_some]
          dsimp only
          obtain ⟨dl1, X1, M1, z1, z2, z3, z4, z5⟩ := yS.jump_loop (aw := aw) (j := v) (first := zz_h M 40 1 0 + zz_h M 40 1 1) (last := zz_h M 40 1 0 + zz_h M 40 1 1 + v - 1) (lo := (if zz_h M 40 1 0 + zz_h M 40 1 1 < zz_h M 40 1 2 + 1 then zz_h M 40 1 2 + 1 else zz_h M 40 1 0 + zz_h M 40 1 1)) (by omega) (by omega) (by omega) rfl (by omega) (zz_h M 40 1 9).toNat zz_fu zz_fu 0 _ dl X M h (by omega) (by omega) (by omega) (by omega) rfl
          rw [show ((0 : Nat) : Int) = 0 from rfl] at z1 z2
          rw [z1, Option.bind_some, z2]
          obtain ⟨X', M', e1, e2, e3, e4⟩ := z3.shift v (by rw [z5]; exact k2) (by rw [z4, z5]; omega)
          exact ⟨_, X', M', e1, e2, aw, dl1, e3.up (by rw [e4, z4]; omega)⟩
    · rw [if_neg k2, if_pos rfl, if_pos rfl]
      exact ⟨_, _, _, rfl, rfl, hW.up (by omega)⟩
  · rw [if_neg k1, if_pos rfl, if_pos rfl]
    exact ⟨_, _, _, rfl, rfl, hW.up (by omega)⟩
