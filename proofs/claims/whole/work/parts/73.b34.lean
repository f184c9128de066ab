/-! STAGE B: the first minute that fits -/
def yLst (P : Int → Prop) (a b r : Int) : Prop := (r = -1 ∧ ∀ h, a ≤ h → h ≤ b → ¬ P h) ∨ (a ≤ r ∧ r ≤ b ∧ P r ∧ ∀ h, a ≤ h → h < r → ¬ P h)
theorem yLst.ext {P : Int → Prop} {a a' b r : Int} (ha : a ≤ a') (hn : ∀ h, a ≤ h → h < a' → ¬ P h) (h : yLst P a' b r) : yLst P a b r := by
  rcases h with ⟨h1, h2⟩ | ⟨h1, h2, h3, h4⟩
  · refine Or.inl ⟨h1, fun x x1 x2 => ?_⟩
    by_cases c : x < a'
    · exact hn x x1 c
    · exact h2 x (by omega) x2
  · refine Or.inr ⟨by omega, h2, h3, fun x x1 x2 => ?_⟩
    by_cases c : x < a'
    · exact hn x x1 c
    · exact h4 x (by omega) x2
theorem yLst.uq {P : Int → Prop} {a b r s : Int} (ha : 0 ≤ a) (h : yLst P a b r) (g : yLst P a b s) : r = s := by
  rcases h with ⟨h1, h2⟩ | ⟨h1, h2, h3, h4⟩
  · rcases g with ⟨g1, g2⟩ | ⟨g1, g2, g3, g4⟩
    · omega
    · exact absurd g3 (h2 s g1 g2)
  · rcases g with ⟨g1, g2⟩ | ⟨g1, g2, g3, g4⟩
    · exact absurd h3 (g2 r h1 h2)
    · by_cases c : r < s
      · exact absurd h3 (g4 r h1 c)
      · by_cases d : s < r
        · exact absurd g3 (h4 s g1 d)
        · omega
theorem yLst.none {P : Int → Prop} {a b : Int} (h : ∀ x, a ≤ x → x ≤ b → ¬ P x) : yLst P a b (-1) := Or.inl ⟨rfl, h⟩
/-- the minute h of the house fits -/
def yPf (t : Int) (M : zz_S) (h : Int) : Prop := yPm t M h ∧ yPd t M (h / 1440)
theorem xC_firstFit_loop {t last : Int} {X M : zz_S} (E : yE t X M) (N : yN X) (t0 : 0 ≤ t) (hl : last < 525600) : ∀ (k n : Nat) (h : Int), 0 ≤ h → h ≤ 600000 → last + 1 - h ≤ k → k < n → ∃ r, xC_firstFit_31 n (t + 1) last h X = some (r, X) ∧ yLst (yPf t M) h last r := by
  have a1 : ¬ t + 1 = 0 := by omega
  intro k
  induction k with
  | zero =>
    intro n h h0 h6 hk hn
    obtain ⟨n, rfl⟩ : ∃ q, n = q + 1 := ⟨n - 1, by omega⟩
    refine ⟨-1, ?_, yLst.none fun x x1 x2 => by omega⟩
    rw [xC_firstFit_31, if_neg (by omega)]
  | succ k ih =>
    intro n h h0 h6 hk hn
    obtain ⟨n, rfl⟩ : ∃ q, n = q + 1 := ⟨n - 1, by omega⟩
    by_cases c : h ≤ last
    · rw [xC_firstFit_31, if_pos c, if_pos (by omega)]
      simp only [a1, if_false]
      rw [zz_div_ok (y := 1440) h0 (by omega) (by decide) (by decide), zz_div_ok (y := 60) h0 (by omega) (by decide) (by decide), xC_dayFits_ok E N t0 (by omega) (by omega), Option.bind_some, yy_r (z := h / 1440 + 1) (by omega) (by omega), yy_r (z := (h / 1440 + 1) * 1440) (by omega) (by omega), yy_r (z := h / 60 + 1) (by omega) (by omega), yy_r (z := (h / 60 + 1) * 60) (by omega) (by omega), yy_r (z := h + 1) (by omega) (by omega)]
      dsimp only
      by_cases d1 : yPd t M (h / 1440)
      · rw [yi_pos d1, if_neg yy_10, xC_hourFits_ok E t0 h0 (by omega), Option.bind_some]
        dsimp only
        by_cases d2 : yfa yfh t M (h / 60 % 24)
        · rw [yi_pos d2, if_neg yy_10, xC_minuteFits_ok E t0 h0 (by omega), Option.bind_some]
          dsimp only
          by_cases d3 : yfa yfm t M (h % 60)
          · rw [yi_pos d3, if_neg yy_10]
            exact ⟨h, rfl, Or.inr ⟨by omega, c, ⟨yPm_iff.mpr ⟨d3, d2⟩, d1⟩, fun x x1 x2 => by omega⟩⟩
          · rw [yi_neg d3, if_pos rfl]
            obtain ⟨r, r1, r2⟩ := ih n (h + 1) (by omega) (by omega) (by omega) (by omega)
            refine ⟨r, r1, r2.ext (by omega) fun x x1 x2 z => d3 ?_⟩
            have : x = h := by omega
            subst this
            exact (yPm_iff.mp z.1).1
        · rw [yi_neg d2, if_pos rfl]
          obtain ⟨r, r1, r2⟩ := ih n ((h / 60 + 1) * 60) (by omega) (by omega) (by omega) (by omega)
          refine ⟨r, r1, r2.ext (by omega) fun x x1 x2 z => d2 ?_⟩
          have := (yPm_iff.mp z.1).2
          rw [show x / 60 = h / 60 by omega] at this
          exact this
      · rw [yi_neg d1, if_pos rfl]
        obtain ⟨r, r1, r2⟩ := ih n ((h / 1440 + 1) * 1440) (by omega) (by omega) (by omega) (by omega)
        refine ⟨r, r1, r2.ext (by omega) fun x x1 x2 z => d1 ?_⟩
        have := z.2
        rw [show x / 1440 = h / 1440 by omega] at this
        exact this
    · refine ⟨-1, ?_, yLst.none fun x x1 x2 => by omega⟩
      rw [xC_firstFit_31, if_neg c]
theorem xC_firstFit_ok {t a last : Int} {X M : zz_S} (E : yE t X M) (N : yN X) (t0 : 0 ≤ t) (ha : 0 ≤ a) (ha2 : a ≤ 600000) (hl : last < 525600) (hl0 : -1 ≤ last) : ∃ r, xC_firstFit (t + 1) a last X = some (r, X) ∧ yLst (yPf t M) a last r := by
  have a1 : ¬ t + 1 = 0 := by omega
  have fu := yy_fu
  unfold xC_firstFit j_max
  simp only [a1, if_false, zz_lc0]
  by_cases c1 : zz_h X 8 (t + 1) 1 = 0
  · rw [if_pos c1]
    refine ⟨-1, rfl, yLst.none fun x x1 x2 z => ?_⟩
    have m := E.m1 (x % 60).toNat (by omega)
    rw [Int.toNat_of_nonneg (by omega), c1, yl_zero] at m
    exact absurd (m.mpr (yPm_iff.mp z.1).1) (by decide)
  rw [if_neg c1]
  by_cases c2 : zz_h X 8 (t + 1) 2 = 0
  · rw [if_pos c2]
    refine ⟨-1, rfl, yLst.none fun x x1 x2 z => ?_⟩
    have m := E.m2 (x / 60 % 24).toNat (by omega)
    rw [Int.toNat_of_nonneg (by omega), c2, yb_zero] at m
    exact absurd (m.mpr (yPm_iff.mp z.1).2) (by decide)
  rw [if_neg c2]
  by_cases c3 : zz_h X 8 (t + 1) 3 = 0
  · rw [if_pos c3]
    refine ⟨-1, rfl, yLst.none fun x x1 x2 z => ?_⟩
    have m := E.m3 (x / 1440 % 7).toNat (by omega)
    rw [Int.toNat_of_nonneg (by omega), c3, yb_zero] at m
    exact absurd (m.mpr (yPd_iff.mp z.2).1) (by decide)
  rw [if_neg c3, if_neg (by omega), Option.bind_some]
  exact xC_firstFit_loop E N t0 hl 600000 zz_fu a ha ha2 (by omega) (by omega)
-- the reference
theorem yn_loE {M M' : zz_S} (k : yK yn_lo M M') : yK yk_E M M' := k.sub (by (intro k j e; first | rfl | (simp [yk_A, yk_B, yk_C, yk_D, yk_E, yk_F, yk_G, yk_M, yk_I, yk_J, yk_L, yk_Lx, yk_Lm, yk_N, yk_U, yn_cx, yn_cm, yn_Lx, yn_Lm, yn_lo] at e ⊢; omega)))
theorem yPm_lo {t h : Int} {M M' : zz_S} (k : yK yn_lo M M') : yPm t M' h ↔ yPm t M h := yfa.cg (yn_loE k)
theorem yPd_lo {t h : Int} {M M' : zz_S} (k : yK yn_lo M M') : yPd t M' h ↔ yPd t M h := yfa.cg (yn_loE k)
theorem yPf_lo {t h : Int} {M M' : zz_S} (k : yK yn_lo M M') : yPf t M' h ↔ yPf t M h := by
  unfold yPf
  rw [yPm_lo k, yPd_lo k]
theorem m_hasMinute_loop {t : Int} {M : zz_S} (t0 : 0 ≤ t) (t1 : t < 60) (hF : 0 ≤ zz_h M 64 1 t ∧ zz_h M 64 1 t ≤ 4) : ∀ (k n m : Nat), m + k = 1440 → k < n → ∃ v, m_hasMinute_2 n t m M = some (v, M) ∧ (v = 0 → ∀ h : Int, 0 ≤ h → (m : Int) ≤ h % 1440 → ¬ yPm t M h) := by
  intro k
  induction k with
  | zero =>
    intro n m a b
    obtain ⟨n, rfl⟩ : ∃ q, n = q + 1 := ⟨n - 1, by omega⟩
    refine ⟨0, ?_, fun _ h h1 h2 => by omega⟩
    rw [m_hasMinute_2, if_neg (by omega)]
  | succ k ih =>
    intro n m a b
    obtain ⟨n, rfl⟩ : ∃ q, n = q + 1 := ⟨n - 1, by omega⟩
    have r : zz_r ((m : Int) + 1) = ((m + 1 : Nat) : Int) := by rw [yy_r (by omega) (by omega)]; omega
    have e := m_fitsMinute_ok (t := t) (h := (m : Int)) (M := M) t0 t1 hF
    rw [show (m : Int) % 1440 = m by omega] at e
    rw [m_hasMinute_2, if_pos (by omega), e, Option.bind_some, r]
    dsimp only
    by_cases c : yPm t M (m : Int)
    · rw [yi_pos c, if_neg yy_10]
      exact ⟨1, rfl, fun z => absurd z yy_10⟩
    · rw [yi_neg c, if_pos rfl]
      obtain ⟨v, v1, v2⟩ := ih n (m + 1) (by omega) (by omega)
      refine ⟨v, v1, fun z h h1 h2 w => ?_⟩
      by_cases q : h % 1440 = m
      · refine c ?_
        rw [yPm_iff] at w ⊢
        rw [show (m : Int) % 60 = h % 60 by omega, show (m : Int) / 60 % 24 = h / 60 % 24 by omega]
        exact w
      · exact v2 z h h1 (by omega) w
theorem m_cal77 {t e off d : Int} {M : zz_S} (K : Int → Int → Int → zz_S → zz_R) (t0 : 0 ≤ t) (t1 : t < 60) (hF : 0 ≤ zz_h M 64 1 t ∧ zz_h M 64 1 t ≤ 4) (hd : yPd t M d) (d0 : 0 ≤ d) (d1 : d < 365) (ho : zz_h M 40 1 1 = off) (ho1 : -1440 ≤ off) (ho2 : off ≤ 1440) (he : e < 525600) : ∀ (k n m : Nat), m + k = 1440 → k < n → (∃ h', 1440 * d + m ≤ h' ∧ (h' = 1440 * (d + 1) ∨ (e < h' ∧ h' ≤ 1440 * (d + 1))) ∧ (∀ x, 1440 * d + m ≤ x → x < h' → ¬ yPf t M x) ∧ m_calendarFrom_77 K n t (1440 * d + m) e m M = K t h' e M) ∨ (∃ r, 1440 * d + m ≤ r ∧ r ≤ e ∧ yPf t M r ∧ (∀ x, 1440 * d + m ≤ x → x < r → ¬ yPf t M x) ∧ m_calendarFrom_77 K n t (1440 * d + m) e m M = some (r - off, M)) := by
  intro k
  induction k with
  | zero =>
    intro n m a b
    obtain ⟨n, rfl⟩ : ∃ q, n = q + 1 := ⟨n - 1, by omega⟩
    left
    refine ⟨1440 * d + m, by omega, Or.inl (by omega), fun x x1 x2 => by omega, ?_⟩
    rw [m_calendarFrom_77, if_neg (by omega)]
  | succ k ih =>
    intro n m a b
    obtain ⟨n, rfl⟩ : ∃ q, n = q + 1 := ⟨n - 1, by omega⟩
    have r1 : zz_r ((m : Int) + 1) = ((m + 1 : Nat) : Int) := by rw [yy_r (by omega) (by omega)]; omega
    have r2 : zz_r (1440 * d + (m : Int) + 1) = 1440 * d + ((m + 1 : Nat) : Int) := by rw [yy_r (by omega) (by omega)]; omega
    by_cases c : 1440 * d + (m : Int) ≤ e
    · have ef := m_fitsMinute_ok (t := t) (h := 1440 * d + (m : Int)) (M := M) t0 t1 hF
      rw [show (1440 * d + (m : Int)) % 1440 = m by omega] at ef
      rw [m_calendarFrom_77, if_pos (show (m : Int) < 1440 by omega), if_pos c, ef, Option.bind_some, r1, r2]
      dsimp only
      by_cases cf : yPm t M (1440 * d + (m : Int))
      · rw [yi_pos cf, if_neg yy_10, ho, yy_r (by omega) (by omega)]
        right
        refine ⟨1440 * d + m, by omega, c, ⟨cf, ?_⟩, fun x x1 x2 => by omega, rfl⟩
        rw [show (1440 * d + (m : Int)) / 1440 = d by omega]
        exact hd
      · rw [yi_neg cf, if_pos rfl]
        have no : ∀ x, 1440 * d + (m : Int) ≤ x → x < 1440 * d + ((m + 1 : Nat) : Int) → ¬ yPf t M x := by
          intro x x1 x2 z
          have : x = 1440 * d + (m : Int) := by omega
          rw [this] at z
          exact cf z.1
        rcases ih n (m + 1) (by omega) (by omega) with ⟨h', g1, g2, g3, g4⟩ | ⟨r, g1, g2, g3, g4, g5⟩
        · left
          refine ⟨h', by omega, g2, fun x x1 x2 => ?_, g4⟩
          by_cases q : x < 1440 * d + ((m + 1 : Nat) : Int)
          · exact no x x1 q
          · exact g3 x (by omega) x2
        · right
          refine ⟨r, by omega, g2, g3, fun x x1 x2 => ?_, g5⟩
          by_cases q : x < 1440 * d + ((m + 1 : Nat) : Int)
          · exact no x x1 q
          · exact g4 x (by omega) x2
    · left
      refine ⟨1440 * d + m, by omega, Or.inr ⟨by omega, by omega⟩, fun x x1 x2 => by omega, ?_⟩
      rw [m_calendarFrom_77, if_pos (show (m : Int) < 1440 by omega), if_neg c]
theorem m_cal47 {t e off : Int} (t0 : 0 ≤ t) (t1 : t < 60) (ho1 : -1440 ≤ off) (ho2 : off ≤ 1440) (he : e < 525600) : ∀ (k n : Nat) (h : Int) (M : zz_S), (0 ≤ zz_h M 64 1 t ∧ zz_h M 64 1 t ≤ 4) → zz_h M 40 1 1 = off → 0 ≤ h → h ≤ 600000 → e + 1 - h ≤ k → k < n → ∃ r M', m_calendarFrom_47 n t h e M = some (if r = -1 then -1 else r - off, M') ∧ yLst (yPf t M) h e r ∧ yK yn_lo M M' := by
  have fu := yy_fu
  intro k
  induction k with
  | zero =>
    intro n h M hF ho h0 h6 hk hn
    obtain ⟨n, rfl⟩ : ∃ q, n = q + 1 := ⟨n - 1, by omega⟩
    refine ⟨-1, M, ?_, yLst.none fun x x1 x2 => by omega, yK.rf⟩
    rw [m_calendarFrom_47, if_neg (by omega), if_pos rfl]
  | succ k ih =>
    intro n h M hF ho h0 h6 hk hn
    obtain ⟨n, rfl⟩ : ∃ q, n = q + 1 := ⟨n - 1, by omega⟩
    by_cases c : h ≤ e
    · obtain ⟨M1, f1, f2, f3, f4, f5, f6⟩ := m_look_ok M (d := h / 1440) (by omega) (by omega)
      have hF1 : 0 ≤ zz_h M1 64 1 t ∧ zz_h M1 64 1 t ≤ 4 := by rw [f6 64 1 t rfl]; exact hF
      have ho' : zz_h M1 40 1 1 = off := (f6 40 1 1 rfl).trans ho
      rw [m_calendarFrom_47, if_pos c, zz_div_ok (y := 1440) h0 (by omega) (by decide) (by decide), zz_rem_ok (y := 1440) h0 (by omega) (by decide) (by decide), f1, Option.bind_some]
      dsimp only
      rw [m_fitsDay_ok t0 t1 hF (by omega) (by omega) f2 f3 f4 f5 f6, Option.bind_some]
      dsimp only
      by_cases d1 : yPd t M (h / 1440)
      · rw [yi_pos d1, if_neg yy_10]
        have e77 := m_cal77 (t := t) (e := e) (off := off) (d := h / 1440) (M := M1) (m_calendarFrom_47 n) t0 t1 hF1 ((yPd_lo f6).mpr d1) (by omega) (by omega) ho' ho1 ho2 he (1440 - (h % 1440).toNat) zz_fu (h % 1440).toNat (by omega) (by omega)
        rw [Int.toNat_of_nonneg (by omega), show 1440 * (h / 1440) + h % 1440 = h by omega] at e77
        rcases e77 with ⟨h', g1, g2, g3, g4⟩ | ⟨r, g1, g2, g3, g4, g5⟩
        · obtain ⟨r, M', z1, z2, z3⟩ := ih n h' M1 hF1 ho' (by omega) (by omega) (by omega) (by omega)
          refine ⟨r, M', g4.trans z1, ?_, f6.tr z3⟩
          refine yLst.ext (a' := h') g1 (fun x x1 x2 z => g3 x x1 x2 ((yPf_lo f6).mpr z)) ?_
          have : yPf t M1 = yPf t M := funext fun x => propext (yPf_lo f6)
          rw [← this]
          exact z2
        · refine ⟨r, M1, ?_, Or.inr ⟨g1, g2, (yPf_lo f6).mp g3, fun x x1 x2 z => g4 x x1 x2 ((yPf_lo f6).mpr z)⟩, f6⟩
          rw [g5, if_neg (by omega)]
      · rw [yi_neg d1, if_pos rfl, yy_r (z := 1440 - h % 1440) (by omega) (by omega), yy_r (by omega) (by omega)]
        obtain ⟨r, M', z1, z2, z3⟩ := ih n (h + (1440 - h % 1440)) M1 hF1 ho' (by omega) (by omega) (by omega) (by omega)
        refine ⟨r, M', z1, ?_, f6.tr z3⟩
        refine yLst.ext (a' := h + (1440 - h % 1440)) (by omega) (fun x x1 x2 z => d1 ?_) ?_
        · have := z.2
          rw [show x / 1440 = h / 1440 by omega] at this
          exact this
        · have : yPf t M1 = yPf t M := funext fun x => propext (yPf_lo f6)
          rw [← this]
          exact z2
    · refine ⟨-1, M, ?_, yLst.none fun x x1 x2 => by omega, yK.rf⟩
      rw [m_calendarFrom_47, if_neg c, if_pos rfl]
/-- from a minute on; the house's minute is looked for above high -/
theorem yS.calFrom {e : Nat} {b : Int} {aw : List Int} {dl : List yd} {X M : zz_S} (h : yS e b aw dl X M) (t f : Int) (h1 : 0 ≤ t) (h2 : t < zz_h M 40 1 9) (hf : zz_h M 40 1 0 ≤ f) (hf2 : f ≤ 400001) : ∃ r M', m_calendarFrom t f M = some (if r = -1 then -1 else r - zz_h M 40 1 1, M') ∧ yLst (yPf t M) (if f + zz_h M 40 1 1 ≤ zz_h M 40 1 2 then zz_h M 40 1 2 + 1 else f + zz_h M 40 1 1) (400000 + zz_h M 40 1 1) r ∧ yK yn_lo M M' := by
  have fu := yy_fu
  have nr := h.A.nr
  have tr := h.A.tr
  have or := h.A.or
  have to := h.A.to
  have hr := h.A.hr
  have hF := (h.E t h1 h2).nr
  have go : ∀ a, 0 ≤ a → a ≤ 600000 → ∃ r M', m_calendarFrom_22 t a M = some (if r = -1 then -1 else r - zz_h M 40 1 1, M') ∧ yLst (yPf t M) a (400000 + zz_h M 40 1 1) r ∧ yK yn_lo M M' := by
    intro a ha ha2
    unfold m_calendarFrom_22
    rw [yy_r (by omega) (by omega)]
    by_cases c : a ≤ 400000 + zz_h M 40 1 1
    · obtain ⟨v, v1, v2⟩ := m_hasMinute_loop (t := t) (M := M) h1 (by omega) hF 1440 zz_fu 0 (by omega) (by omega)
      rw [show ((0 : Nat) : Int) = 0 from rfl] at v1 v2
      unfold m_hasMinute
      rw [if_pos c, v1, Option.bind_some]
      dsimp only
      by_cases cv : v = 0
      · rw [if_pos cv]
        refine ⟨-1, M, by rw [if_pos rfl], yLst.none fun x x1 x2 z => v2 cv x (by omega) (by omega) z.1, yK.rf⟩
      · rw [if_neg cv]
        exact m_cal47 h1 (by omega) or.1 or.2 (by omega) 600000 zz_fu a M hF rfl ha ha2 (by omega) (by omega)
    · rw [if_neg c]
      exact ⟨-1, M, by rw [if_pos rfl], yLst.none fun x x1 x2 => by omega, yK.rf⟩
  unfold m_calendarFrom
  rw [yy_r (z := f + zz_h M 40 1 1) (by omega) (by omega), yy_r (z := zz_h M 40 1 2 + 1) (by omega) (by omega)]
  by_cases c : f + zz_h M 40 1 1 ≤ zz_h M 40 1 2
  · rw [if_pos c, if_pos c]
    exact go _ (by omega) (by omega)
  · rw [if_neg c, if_neg c]
    exact go _ (by omega) (by omega)
