/-! STAGE B: when a task is due next -/
theorem yS.dueFrom0 {e : Nat} {b : Int} {aw : List Int} {dl : List yd} {X M : zz_S} (h : yS e b aw dl X M) (t f : Int) (h1 : 0 ≤ t) (h2 : t < zz_h M 40 1 9) (hk : zz_h M 44 1 t = 0) : m_dueFrom t f M = some (if f ≤ zz_h M 45 1 t ∧ zz_h M 45 1 t ≤ 400000 then zz_h M 45 1 t else -1, M) := by
  have nr := h.A.nr
  have b44 : zz_b M 44 1 t := ⟨h1, by rw [ya_44]; omega⟩
  have b45 : zz_b M 45 1 t := ⟨h1, by rw [ya_45]; omega⟩
  unfold m_dueFrom
  simp only [if_pos b44, if_pos b45, if_pos hk]
  by_cases c : zz_h M 45 1 t < f
  · rw [if_pos c, if_neg (by omega)]
  · rw [if_neg c]
    by_cases d : zz_h M 45 1 t ≤ 400000
    · rw [if_pos d, if_pos (by omega)]
    · rw [if_neg d, if_neg (by omega)]
theorem yS.dueFrom2 {e : Nat} {b : Int} {aw : List Int} {dl : List yd} {X M : zz_S} (h : yS e b aw dl X M) (t f : Int) (h1 : 0 ≤ t) (h2 : t < zz_h M 40 1 9) (hk : zz_h M 44 1 t = 2) : m_dueFrom t f M = some (if f ≤ zz_h M 57 1 t ∧ zz_h M 57 1 t ≤ 400000 then zz_h M 57 1 t else -1, M) := by
  have nr := h.A.nr
  have b44 : zz_b M 44 1 t := ⟨h1, by rw [ya_44]; omega⟩
  have b57 : zz_b M 57 1 t := ⟨h1, by rw [ya_57]; omega⟩
  unfold m_dueFrom
  rw [if_pos b44, if_neg (by omega), if_neg (by omega), if_pos hk]
  simp only [if_pos b57]
  by_cases c : zz_h M 57 1 t < f
  · rw [if_pos c, if_neg (by omega)]
  · rw [if_neg c]
    by_cases d : zz_h M 57 1 t ≤ 400000
    · rw [if_pos d, if_pos (by omega)]
    · rw [if_neg d, if_neg (by omega)]
/-- the first of a RATE task's minutes from f on -/
def yfq (F g f : Int) : Int := if F < f then F + (f - F + g - 1) / g * g else F
theorem yfq_ge {F g f : Int} (hg : 1 ≤ g) : f ≤ yfq F g f := by
  unfold yfq
  split
  · have := Int.lt_ediv_add_one_mul_self (f - F + g - 1) (show 0 < g by omega)
    rw [Int.add_mul, Int.one_mul] at this
    omega
  · omega
theorem yfq_le {F g f : Int} (hg : 1 ≤ g) (hF : F ≤ 400000) (hf : f ≤ 400001) : yfq F g f ≤ 400000 + g := by
  unfold yfq
  split
  · have := Int.ediv_mul_le (f - F + g - 1) (show g ≠ 0 by omega)
    omega
  · omega
theorem yS.dueFrom1 {e : Nat} {b : Int} {aw : List Int} {dl : List yd} {X M : zz_S} (h : yS e b aw dl X M) (t f : Int) (h1 : 0 ≤ t) (h2 : t < zz_h M 40 1 9) (hk : zz_h M 44 1 t = 1) (hf : 0 ≤ f) (hf2 : f ≤ 400001) : m_dueFrom t f M = some (if yfq (zz_h M 45 1 t) (zz_h M 46 1 t) f ≤ 400000 then yfq (zz_h M 45 1 t) (zz_h M 46 1 t) f else -1, M) := by
  have nr := h.A.nr
  have B := h.B t h1 h2
  have fr := B.fr (by omega)
  have gr := B.gr (Or.inl hk)
  have b44 : zz_b M 44 1 t := ⟨h1, by rw [ya_44]; omega⟩
  have b45 : zz_b M 45 1 t := ⟨h1, by rw [ya_45]; omega⟩
  have b46 : zz_b M 46 1 t := ⟨h1, by rw [ya_46]; omega⟩
  unfold m_dueFrom
  rw [if_pos b44, if_neg (by omega), if_pos hk]
  simp only [if_pos b45, if_pos b46]
  by_cases c : zz_h M 45 1 t < f
  · have v1 := yfq_le (F := zz_h M 45 1 t) (g := zz_h M 46 1 t) (f := f) gr.1 fr.2 hf2
    have v2 := yfq_ge (F := zz_h M 45 1 t) (g := zz_h M 46 1 t) (f := f) gr.1
    unfold yfq at v1 v2 ⊢
    rw [if_pos c] at v1 v2
    rw [if_pos c, if_pos c, if_neg (show ¬ zz_h M 46 1 t = 0 by omega), yy_r (z := f - zz_h M 45 1 t) (by omega) (by omega), yy_r (z := f - zz_h M 45 1 t + zz_h M 46 1 t) (by omega) (by omega), yy_r (z := f - zz_h M 45 1 t + zz_h M 46 1 t - 1) (by omega) (by omega), zz_div_ok (by omega) (by omega) (by omega) (by omega), yy_r (z := (f - zz_h M 45 1 t + zz_h M 46 1 t - 1) / zz_h M 46 1 t * zz_h M 46 1 t) (by omega) (by omega), yy_r (by omega) (by omega)]
    split <;> rfl
  · unfold yfq
    rw [if_neg c, if_neg c, if_pos fr.2]
theorem yS.dueFrom4 {e : Nat} {b : Int} {aw : List Int} {dl : List yd} {X M : zz_S} (h : yS e b aw dl X M) (t f : Int) (h1 : 0 ≤ t) (h2 : t < zz_h M 40 1 9) (hk : zz_h M 44 1 t = 4) : m_dueFrom t f M = some (-1, M) := by
  have nr := h.A.nr
  have b44 : zz_b M 44 1 t := ⟨h1, by rw [ya_44]; omega⟩
  unfold m_dueFrom
  rw [if_pos b44, if_neg (by omega), if_neg (by omega), if_neg (by omega), if_neg (by omega)]
theorem yS.dueFrom3 {e : Nat} {b : Int} {aw : List Int} {dl : List yd} {X M : zz_S} (h : yS e b aw dl X M) (t f : Int) (h1 : 0 ≤ t) (h2 : t < zz_h M 40 1 9) (hk : zz_h M 44 1 t = 3) (hf : zz_h M 40 1 0 ≤ f) (hf2 : f ≤ 400001) : ∃ r M', m_dueFrom t f M = some (if r = -1 then -1 else r - zz_h M 40 1 1, M') ∧ yLst (yPf t M) (if f + zz_h M 40 1 1 ≤ zz_h M 40 1 2 then zz_h M 40 1 2 + 1 else f + zz_h M 40 1 1) (400000 + zz_h M 40 1 1) r ∧ yK yn_lo M M' := by
  have nr := h.A.nr
  have b44 : zz_b M 44 1 t := ⟨h1, by rw [ya_44]; omega⟩
  obtain ⟨r, M', e1, e2, e3⟩ := h.calFrom t f h1 h2 hf hf2
  refine ⟨r, M', ?_, e2, e3⟩
  unfold m_dueFrom
  rw [if_pos b44, if_neg (by omega), if_neg (by omega), if_neg (by omega), if_pos hk, e1, Option.bind_some]
/-- the class's first minute of a RATE task from now on -/
theorem yS.firstOfRate {e : Nat} {b : Int} {aw : List Int} {dl : List yd} {X M : zz_S} (h : yS e b aw dl X M) (t : Int) (h1 : 0 ≤ t) (h2 : t < zz_h M 40 1 9) (hk : zz_h M 44 1 t = 1) : xT_firstOfRate (t + 1) (zz_h M 40 1 0) X = some (yfq (zz_h M 45 1 t) (zz_h M 46 1 t) (zz_h M 40 1 0), X) := by
  have nr := h.A.nr
  have tr := h.A.tr
  have B := h.B t h1 h2
  have fr := B.fr (by omega)
  have gr := B.gr (Or.inl hk)
  have a1 : ¬ t + 1 = 0 := by omega
  unfold xT_firstOfRate
  simp only [a1, if_false, B.fi, h.step h1 h2 (Or.inl hk), Option.bind_some]
  by_cases c : zz_h M 45 1 t < zz_h M 40 1 0
  · have v1 := yfq_le (F := zz_h M 45 1 t) (g := zz_h M 46 1 t) (f := zz_h M 40 1 0) gr.1 fr.2 (by omega)
    have v2 := yfq_ge (F := zz_h M 45 1 t) (g := zz_h M 46 1 t) (f := zz_h M 40 1 0) gr.1
    unfold yfq at v1 v2 ⊢
    rw [if_pos c] at v1 v2
    rw [if_pos c, if_pos c, if_neg (show ¬ zz_h M 46 1 t = 0 by omega), yy_r (z := zz_h M 40 1 0 - zz_h M 45 1 t) (by omega) (by omega), yy_r (z := zz_h M 40 1 0 - zz_h M 45 1 t + zz_h M 46 1 t) (by omega) (by omega), yy_r (z := zz_h M 40 1 0 - zz_h M 45 1 t + zz_h M 46 1 t - 1) (by omega) (by omega), zz_div_ok (by omega) (by omega) (by omega) (by omega), yy_r (z := (zz_h M 40 1 0 - zz_h M 45 1 t + zz_h M 46 1 t - 1) / zz_h M 46 1 t * zz_h M 46 1 t) (by omega) (by omega), yy_r (by omega) (by omega)]
  · unfold yfq
    rw [if_neg c, if_neg c]
theorem x_due97 {e : Nat} {b : Int} {aw : List Int} {dl : List yd} {X M : zz_S} (h : yS e b aw dl X M) (v : Int) : x_dueMinute_97 v X = some (if zz_h M 40 1 0 ≤ v ∧ v ≤ 400000 then v else -1, X) := by
  unfold x_dueMinute_97
  rw [h.A.t, x_isWithin_ok, Option.bind_some]
  dsimp only
  by_cases c : zz_h M 40 1 0 ≤ v ∧ v ≤ 400000
  · rw [if_pos c, if_neg yy_10, if_pos c]
  · rw [if_neg c, if_pos rfl, if_neg c]
/-- RATE: from the k-th on -/
theorem yS.rate_loop {e : Nat} {b : Int} {aw : List Int} {dl : List yd} {X M : zz_S} (h : yS e b aw dl X M) (t i V : Int) (h1 : 0 ≤ t) (h2 : t < zz_h M 40 1 9) (hk : zz_h M 44 1 t = 1) (i0 : i ≤ 9) (hV : ∃ Q : Int, 0 ≤ Q ∧ V = zz_h M 45 1 t + Q * zz_h M 46 1 t) : ∀ (c n k : Nat) (v : Int), (k : Int) + c = i + 1 → 1 ≤ k → c < n → v = V + ((k : Int) - 1) * zz_h M 46 1 t → v ≤ 400000 → m_next_59 n t i v k M = some (if V + i * zz_h M 46 1 t ≤ 400000 then V + i * zz_h M 46 1 t else -1, M) := by
  have nr := h.A.nr
  have B := h.B t h1 h2
  have fr := B.fr (by omega)
  have gr := B.gr (Or.inl hk)
  obtain ⟨Q, q0, rfl⟩ := hV
  have qg : 0 ≤ Q * zz_h M 46 1 t := Int.mul_nonneg q0 (by omega)
  intro c
  induction c with
  | zero =>
    intro n k v a k1 hn hv hv2
    obtain ⟨n, rfl⟩ : ∃ q, n = q + 1 := ⟨n - 1, by omega⟩
    have : (k : Int) - 1 = i := by omega
    rw [this] at hv
    rw [m_next_59, if_neg (by omega), hv, if_pos (by omega)]
  | succ c ih =>
    intro n k v a k1 hn hv hv2
    obtain ⟨n, rfl⟩ : ∃ q, n = q + 1 := ⟨n - 1, by omega⟩
    have kg : 0 ≤ ((k : Int) - 1) * zz_h M 46 1 t := Int.mul_nonneg (by omega) (by omega)
    have kk : (k : Int) * zz_h M 46 1 t = ((k : Int) - 1) * zz_h M 46 1 t + zz_h M 46 1 t := by
      rw [Int.sub_mul, Int.one_mul]
      omega
    have rk : zz_r ((k : Int) + 1) = ((k + 1 : Nat) : Int) := by rw [yy_r (by omega) (by omega)]; omega
    have vq : yfq (zz_h M 45 1 t) (zz_h M 46 1 t) (v + 1) = zz_h M 45 1 t + Q * zz_h M 46 1 t + (k : Int) * zz_h M 46 1 t := by
      unfold yfq
      rw [if_pos (by omega), show v + 1 - zz_h M 45 1 t + zz_h M 46 1 t - 1 = (Q + k) * zz_h M 46 1 t by rw [Int.add_mul]; omega, Int.mul_ediv_cancel _ (show zz_h M 46 1 t ≠ 0 by omega), Int.add_mul]
      omega
    have ik : (k : Int) * zz_h M 46 1 t ≤ i * zz_h M 46 1 t := Int.mul_le_mul_of_nonneg_right (by omega) (by omega)
    rw [m_next_59, if_pos (by omega), yy_r (z := v + 1) (by omega) (by omega), h.dueFrom1 t (v + 1) h1 h2 hk (by omega) (by omega), Option.bind_some, vq, rk]
    dsimp only
    by_cases q : zz_h M 45 1 t + Q * zz_h M 46 1 t + (k : Int) * zz_h M 46 1 t ≤ 400000
    · rw [if_pos q, if_neg (by omega)]
      refine ih n (k + 1) _ (by omega) (by omega) (by omega) ?_ q
      rw [show ((k + 1 : Nat) : Int) - 1 = k by omega]
    · rw [if_neg q, if_pos rfl, if_neg (by omega)]
theorem yS.cal_loop {e : Nat} {b : Int} {aw : List Int} {dl : List yd} {X : zz_S} (t i : Int) (h1 : 0 ≤ t) (i0 : i ≤ 9) : ∀ (c n m v : Nat) (house last off : Int) (M : zz_S), yS e b aw dl X M → t < zz_h M 40 1 9 → zz_h M 44 1 t = 3 → (v : Int) + c = i → c + 1 < n → c + 1 < m → off = zz_h M 40 1 1 → last = 400000 + off → house ≠ -1 → zz_h M 40 1 2 < house → zz_h M 40 1 0 + off ≤ house → house ≤ last → ∃ r M', x_calendarMinute_36 n (t + 1) i last house v X = some (r, X) ∧ m_next_59 m t i (house - off) ((v + 1 : Nat) : Int) M = some (r, M') ∧ yK yn_lo M M' := by
  intro c
  induction c with
  | zero =>
    intro n m v house last off M h h2 hk a hn hm ho hl hne hh hnow hle
    obtain ⟨n, rfl⟩ : ∃ q, n = q + 1 := ⟨n - 1, by omega⟩
    obtain ⟨m, rfl⟩ : ∃ q, m = q + 1 := ⟨m - 1, by omega⟩
    have or := h.A.or
    have hr := h.A.hr
    refine ⟨house - off, M, ?_, ?_, yK.rf⟩
    · rw [x_calendarMinute_36, if_neg (by omega)]
      unfold x_calendarMinute_65
      rw [if_neg hne, h.A.o, ← ho, yy_r (by omega) (by omega)]
    · rw [m_next_59, if_neg (by omega)]
  | succ c ih =>
    intro n m v house last off M h h2 hk a hn hm ho hl hne hh hnow hle
    obtain ⟨n, rfl⟩ : ∃ q, n = q + 1 := ⟨n - 1, by omega⟩
    obtain ⟨m, rfl⟩ : ∃ q, m = q + 1 := ⟨m - 1, by omega⟩
    have or := h.A.or
    have hr := h.A.hr
    have to := h.A.to
    have tr := h.A.tr
    have a1 : ¬ t + 1 = 0 := by omega
    have rv : zz_r ((v : Int) + 1) = ((v + 1 : Nat) : Int) := by rw [yy_r (by omega) (by omega)]; omega
    have rv2 : zz_r (((v + 1 : Nat) : Int) + 1) = ((v + 1 + 1 : Nat) : Int) := by rw [yy_r (by omega) (by omega)]; omega
    obtain ⟨r, r1, r2⟩ := xC_firstFit_ok (a := house + 1) (last := last) (h.E t h1 h2) h.N h1 (by omega) (by omega) (by omega) (by omega)
    obtain ⟨s, M1, s1, s2, s3⟩ := h.dueFrom3 t (house - off + 1) h1 h2 hk (by omega) (by omega)
    rw [if_neg (by omega), ← ho, ← hl, show house - off + 1 + off = house + 1 by omega] at s2
    rw [← ho] at s1
    have rs := r2.uq (by omega) s2
    subst rs
    rw [x_calendarMinute_36, if_pos (by omega), if_neg hne, if_neg a1, yy_r (z := house + 1) (by omega) (by omega), r1, Option.bind_some, m_next_59, if_pos (by omega), yy_r (z := house - off + 1) (by omega) (by omega), s1, Option.bind_some, rv, rv2]
    dsimp only
    by_cases cr : r = -1
    · rw [if_pos cr, if_pos rfl]
      refine ⟨-1, M1, ?_, rfl, s3⟩
      obtain ⟨n, rfl⟩ : ∃ q, n = q + 1 := ⟨n - 1, by omega⟩
      rw [cr, x_calendarMinute_36]
      unfold x_calendarMinute_65
      rw [if_pos rfl]
      split <;> rfl
    · have rr : house + 1 ≤ r ∧ r ≤ last := by
        rcases r2 with ⟨z, -⟩ | ⟨z1, z2, -⟩
        · exact absurd z cr
        · exact ⟨z1, z2⟩
      rw [if_neg cr, if_neg (by omega)]
      have g := h.lo s3
      obtain ⟨q, M', z1, z2, z3⟩ := ih n m (v + 1) r last off M1 g (by rw [s3 40 1 9 rfl]; exact h2) ((s3 44 1 t rfl).trans hk) (by omega) (by omega) (by omega) (by rw [s3 40 1 1 rfl]; exact ho) hl cr (by rw [s3 40 1 2 rfl]; omega) (by rw [s3 40 1 0 rfl]; omega) rr.2
      exact ⟨q, M', z1, z2, s3.tr z3⟩
/-- the i-th minute, on both sides -/
theorem yS.dueMinute {e : Nat} {b : Int} {aw : List Int} {dl : List yd} {X M : zz_S} (h : yS e b aw dl X M) (t i : Int) (h1 : 0 ≤ t) (h2 : t < zz_h M 40 1 9) (i0 : 0 ≤ i) (i9 : i ≤ 9) : ∃ r M', x_dueMinute (t + 1) i X = some (r, X) ∧ (if zz_h M 44 1 t = 2 then (if i = 0 then m_dueFrom t (zz_h M 40 1 0) M else some (-1, M)) else m_next_59 zz_fu t i (zz_h M 40 1 0 - 1) 0 M) = some (r, M') ∧ yK yn_lo M M' := by
  have fu := yy_fu
  have nr := h.A.nr
  have tr := h.A.tr
  have or := h.A.or
  have to := h.A.to
  have hr := h.A.hr
  have B := h.B t h1 h2
  have C := h.C t h1 h2
  have kr := B.kr
  have a1 : ¬ t + 1 = 0 := by omega
  obtain ⟨n, hn⟩ : ∃ n, zz_fu = n + 1 := ⟨zz_fu - 1, by omega⟩
  have r0 : zz_r (zz_h M 40 1 0 - 1) = zz_h M 40 1 0 - 1 := yy_r (by omega) (by omega)
  have r1 : zz_r (zz_h M 40 1 0 - 1 + 1) = zz_h M 40 1 0 := by rw [yy_r (by omega) (by omega)]; omega
  have r2 : zz_r (0 + 1) = ((0 + 1 : Nat) : Int) := by rw [yy_r (by omega) (by omega)]; rfl
  have first : m_next_59 zz_fu t i (zz_h M 40 1 0 - 1) 0 M = ((m_dueFrom t (zz_h M 40 1 0) M).bind fun q1 => (if q1.1 = (-1) then (some ((-1), q1.2)) else (m_next_59 n t i q1.1 ((0 + 1 : Nat) : Int) q1.2))) := by
    rw [hn, m_next_59, if_pos i0, r1, r2]
  unfold x_dueMinute
  simp only [a1, if_false, B.ki, B.fi, C.nx, B.ga, h.A.t]
  by_cases k0 : zz_h M 44 1 t = 0
  · have fr := B.fr (by omega)
    rw [if_pos k0, if_neg (show ¬ zz_h M 44 1 t = 2 by omega), first, h.dueFrom0 t _ h1 h2 k0, Option.bind_some, x_due97 h, x_due97 h]
    dsimp only
    by_cases c : zz_h M 40 1 0 ≤ zz_h M 45 1 t ∧ zz_h M 45 1 t ≤ 400000
    · rw [if_pos c, if_neg (show ¬ zz_h M 45 1 t = -1 by omega)]
      obtain ⟨n, rfl⟩ : ∃ q, n = q + 1 := ⟨n - 1, by omega⟩
      by_cases ci : i = 0
      · rw [if_pos ci]
        refine ⟨_, M, rfl, ?_, yK.rf⟩
        rw [m_next_59, if_neg (by omega)]
      · rw [if_neg ci, if_neg (by omega)]
        refine ⟨_, M, rfl, ?_, yK.rf⟩
        rw [m_next_59, if_pos (by omega), yy_r (z := zz_h M 45 1 t + 1) (by omega) (by omega), h.dueFrom0 t _ h1 h2 k0, if_neg (by omega), Option.bind_some, if_pos rfl]
    · rw [if_neg c, if_pos rfl, if_neg (show ¬ (zz_h M 40 1 0 ≤ -1 ∧ (-1 : Int) ≤ 400000) by omega)]
      refine ⟨-1, M, ?_, rfl, yK.rf⟩
      split <;> rfl
  rw [if_neg k0]
  by_cases k1 : zz_h M 44 1 t = 1
  · have fr := B.fr (by omega)
    have gr := B.gr (Or.inl k1)
    have v1 := yfq_le (F := zz_h M 45 1 t) (g := zz_h M 46 1 t) (f := zz_h M 40 1 0) gr.1 fr.2 (by omega)
    have v2 := yfq_ge (F := zz_h M 45 1 t) (g := zz_h M 46 1 t) (f := zz_h M 40 1 0) gr.1
    have ig : 0 ≤ i * zz_h M 46 1 t := Int.mul_nonneg i0 (by omega)
    have ig2 : i * zz_h M 46 1 t ≤ 9 * zz_h M 46 1 t := Int.mul_le_mul_of_nonneg_right i9 (by omega)
    rw [if_pos k1, if_neg (show ¬ zz_h M 44 1 t = 2 by omega), first, h.dueFrom1 t _ h1 h2 k1 (by omega) (by omega), Option.bind_some, h.firstOfRate t h1 h2 k1, Option.bind_some]
    dsimp only
    rw [B.ga, yy_r (z := i * zz_h M 46 1 t) (by omega) (by omega), yy_r (by omega) (by omega), x_due97 h]
    have hQ : ∃ Q : Int, 0 ≤ Q ∧ yfq (zz_h M 45 1 t) (zz_h M 46 1 t) (zz_h M 40 1 0) = zz_h M 45 1 t + Q * zz_h M 46 1 t := by
      unfold yfq
      split
      · exact ⟨_, Int.ediv_nonneg (by omega) (by omega), rfl⟩
      · exact ⟨0, Int.le_refl _, by omega⟩
    by_cases c : yfq (zz_h M 45 1 t) (zz_h M 46 1 t) (zz_h M 40 1 0) ≤ 400000
    · rw [if_pos c, if_neg (show ¬ yfq (zz_h M 45 1 t) (zz_h M 46 1 t) (zz_h M 40 1 0) = -1 by omega)]
      have lo := h.rate_loop t i _ h1 h2 k1 i9 hQ i.toNat n (0 + 1) (yfq (zz_h M 45 1 t) (zz_h M 46 1 t) (zz_h M 40 1 0)) (by omega) (by omega) (by omega) (by rw [show (((0 + 1 : Nat) : Int) - 1) = 0 from rfl]; omega) c
      refine ⟨_, M, rfl, ?_, yK.rf⟩
      rw [lo]
      by_cases d : yfq (zz_h M 45 1 t) (zz_h M 46 1 t) (zz_h M 40 1 0) + i * zz_h M 46 1 t ≤ 400000
      · rw [if_pos d, if_pos ⟨by omega, d⟩]
      · rw [if_neg d, if_neg (fun z => d z.2)]
    · rw [if_neg c, if_pos rfl, if_neg (by omega)]
      exact ⟨-1, M, rfl, rfl, yK.rf⟩
  rw [if_neg k1]
  by_cases k2 : zz_h M 44 1 t = 2
  · rw [if_pos k2, if_pos k2, x_due97 h, x_due97 h]
    by_cases ci : i = 0
    · rw [if_pos ci, if_pos ci, h.dueFrom2 t _ h1 h2 k2]
      exact ⟨_, M, rfl, rfl, yK.rf⟩
    · rw [if_neg ci, if_neg ci, if_neg (by omega)]
      exact ⟨-1, M, rfl, rfl, yK.rf⟩
  rw [if_neg k2, if_neg k2, first]
  by_cases k3 : zz_h M 44 1 t = 3
  · rw [if_pos k3]
    obtain ⟨s, M1, s1, s2, s3⟩ := h.dueFrom3 t (zz_h M 40 1 0) h1 h2 k3 (by omega) (by omega)
    have hmax : j_max (zz_h M 40 1 0 + zz_h M 40 1 1) (zz_h M 40 1 2 + 1) X = some (if zz_h M 40 1 0 + zz_h M 40 1 1 ≤ zz_h M 40 1 2 then zz_h M 40 1 2 + 1 else zz_h M 40 1 0 + zz_h M 40 1 1, X) := by
      unfold j_max
      by_cases c : zz_h M 40 1 0 + zz_h M 40 1 1 ≤ zz_h M 40 1 2
      · rw [if_pos (by omega), if_pos c]
      · rw [if_neg (by omega), if_neg c]
    generalize ha : (if zz_h M 40 1 0 + zz_h M 40 1 1 ≤ zz_h M 40 1 2 then zz_h M 40 1 2 + 1 else zz_h M 40 1 0 + zz_h M 40 1 1) = a at s2 hmax
    have a0 : 0 ≤ a ∧ a ≤ 600000 ∧ zz_h M 40 1 2 < a ∧ zz_h M 40 1 0 + zz_h M 40 1 1 ≤ a := by
      rw [← ha]
      split <;> omega
    obtain ⟨r, e1, e2⟩ := xC_firstFit_ok (a := a) (last := 400000 + zz_h M 40 1 1) (h.E t h1 h2) h.N h1 (by omega) (by omega) (by omega) (by omega)
    have rs := e2.uq (by omega) s2
    subst rs
    unfold x_calendarMinute
    rw [h.A.t, h.A.o, h.A.h, yy_r (z := zz_h M 40 1 0 + zz_h M 40 1 1) (by omega) (by omega), yy_r (z := zz_h M 40 1 2 + 1) (by omega) (by omega), yy_r (z := 400000 + zz_h M 40 1 1) (by omega) (by omega), hmax, Option.bind_some]
    dsimp only
    rw [if_neg a1, e1, Option.bind_some, s1, Option.bind_some]
    dsimp only
    by_cases cr : r = -1
    · rw [if_pos cr, if_pos rfl]
      refine ⟨-1, M1, ?_, rfl, s3⟩
      rw [hn, cr, x_calendarMinute_36]
      unfold x_calendarMinute_65
      rw [if_pos rfl]
      split <;> rfl
    · have rr : a ≤ r ∧ r ≤ 400000 + zz_h M 40 1 1 := by
        rcases e2 with ⟨z, -⟩ | ⟨z1, z2, -⟩
        · exact absurd z cr
        · exact ⟨z1, z2⟩
      rw [if_neg cr, if_neg (by omega)]
      have g := h.lo s3
      obtain ⟨q, M', z1, z2, z3⟩ := yS.cal_loop t i h1 i9 i.toNat zz_fu n 0 r (400000 + zz_h M 40 1 1) (zz_h M 40 1 1) M1 g (by rw [s3 40 1 9 rfl]; exact h2) ((s3 44 1 t rfl).trans k3) (by omega) (by omega) (by omega) (s3 40 1 1 rfl).symm rfl cr (by rw [s3 40 1 2 rfl]; omega) (by rw [s3 40 1 0 rfl]; omega) rr.2
      rw [show ((0 : Nat) : Int) = 0 from rfl] at z1
      refine ⟨q, M', ?_, z2, s3.tr z3⟩
      rw [z1]
      rfl
  rw [if_neg k3, x_due97 h, h.dueFrom4 t _ h1 h2 (by omega), if_neg (by omega), Option.bind_some, if_pos rfl]
  exact ⟨-1, M, rfl, rfl, yK.rf⟩
theorem yW.next {c : Int} {X M : zz_S} (hW : yW c X M) (t i : Int) : yR c (x_next t i) (m_next t i) X M := by
  obtain ⟨aw, dl, h⟩ := hW
  have nr := h.A.nr
  have tr := h.A.tr
  have hW : yW c X M := ⟨aw, dl, h⟩
  by_cases g : 0 ≤ t ∧ t < zz_h M 40 1 9
  · have a1 : ¬ t + 1 = 0 := by omega
    by_cases k : 0 ≤ i ∧ i ≤ 9
    · obtain ⟨r, M', e1, e2, e3⟩ := h.dueMinute t i g.1 g.2 k.1 k.2
      refine yW.w r (h.lo e3) ?_ ?_ (by rw [e3 40 1 0 rfl]; omega)
      · unfold x_next
        rw [x_taskAt_in h g.1 g.2, Option.bind_some]
        dsimp only
        rw [if_neg a1, x_isWithin_ok, Option.bind_some, if_pos k, if_neg yy_10]
        dsimp only
        rw [e1]
        rfl
      · unfold m_next
        rw [m_isTask_ok _ _ nr, if_pos g, Option.bind_some, if_neg yy_10, m_in_ok, Option.bind_some, if_pos k, if_neg yy_10]
        dsimp only
        rw [if_pos (show zz_b M 44 1 t from ⟨g.1, by rw [ya_44]; omega⟩), yy_r (by omega) (by omega), ← e2]
        by_cases c2 : zz_h M 44 1 t = 2
        · rw [if_pos c2, if_pos c2]
          by_cases ci : i = 0
          · rw [if_pos ci, if_pos ci]
            cases m_dueFrom t (zz_h M 40 1 0) M with
            | none => rfl
            | some q => rfl
          · rw [if_neg ci, if_neg ci]
        · rw [if_neg c2, if_neg c2]
    · refine hW.q ⟨-2, ?_, ?_⟩
      · unfold x_next
        rw [x_taskAt_in h g.1 g.2, Option.bind_some]
        dsimp only
        rw [if_neg a1, x_isWithin_ok, Option.bind_some, if_neg k, if_pos rfl]
      · unfold m_next
        rw [m_isTask_ok _ _ nr, if_pos g, Option.bind_some, if_neg yy_10, m_in_ok, Option.bind_some, if_neg k, if_pos rfl]
  · refine hW.q ⟨-2, ?_, ?_⟩
    · unfold x_next
      rw [x_taskAt_out h g, Option.bind_some]
      rfl
    · unfold m_next
      rw [m_isTask_ok _ _ nr, if_neg g, Option.bind_some]
      rfl
/-- the first one: the reference asks dueFrom itself -/
theorem yS.dueFirst {e : Nat} {b : Int} {aw : List Int} {dl : List yd} {X M : zz_S} (h : yS e b aw dl X M) (t : Int) (h1 : 0 ≤ t) (h2 : t < zz_h M 40 1 9) : ∃ r M', x_dueMinute (t + 1) 0 X = some (r, X) ∧ m_dueFrom t (zz_h M 40 1 0) M = some (r, M') ∧ yK yn_lo M M' := by
  have fu := yy_fu
  have tr := h.A.tr
  obtain ⟨r, M', e1, e2, e3⟩ := h.dueMinute t 0 h1 h2 (by omega) (by omega)
  by_cases k2 : zz_h M 44 1 t = 2
  · rw [if_pos k2, if_pos rfl] at e2
    exact ⟨r, M', e1, e2, e3⟩
  · rw [if_neg k2] at e2
    obtain ⟨n, hn⟩ : ∃ n, zz_fu = n + 1 + 1 := ⟨zz_fu - 2, by omega⟩
    rw [hn, m_next_59, if_pos (by omega), show zz_r (zz_h M 40 1 0 - 1 + 1) = zz_h M 40 1 0 by rw [yy_r (by omega) (by omega)]; omega] at e2
    cases q : m_dueFrom t (zz_h M 40 1 0) M with
    | none =>
      rw [q] at e2
      exact absurd e2 (by simp)
    | some z =>
      rw [q, Option.bind_some] at e2
      refine ⟨r, M', e1, ?_, e3⟩
      by_cases c : z.1 = -1
      · rw [if_pos c] at e2
        rw [← e2, ← c]
      · rw [if_neg c, show zz_r (0 + 1) = 1 from yy_r (by omega) (by omega), m_next_59, if_neg (by omega)] at e2
        exact e2
theorem yS.quiet_loop {b : Int} {aw : List Int} {dl : List yd} {X : zz_S} : ∀ (k n m i : Nat) (M : zz_S), yS 0 b aw dl X M → (i : Int) + k = zz_h M 40 1 9 → k < n → k < m → ∃ r M', x_quiet_21 n i X = some (r, X) ∧ m_quiet_18 m i M = some (r, M') ∧ yK yn_lo M M' := by
  intro k
  induction k with
  | zero =>
    intro n m i M h a c d
    obtain ⟨n, rfl⟩ : ∃ q, n = q + 1 := ⟨n - 1, by omega⟩
    obtain ⟨m, rfl⟩ : ∃ q, m = q + 1 := ⟨m - 1, by omega⟩
    refine ⟨1, M, ?_, ?_, yK.rf⟩
    · rw [x_quiet_21, h.A.n, if_neg (by omega)]
    · rw [m_quiet_18, if_neg (by omega)]
  | succ k ih =>
    intro n m i M h a c d
    obtain ⟨n, rfl⟩ : ∃ q, n = q + 1 := ⟨n - 1, by omega⟩
    obtain ⟨m, rfl⟩ : ∃ q, m = q + 1 := ⟨m - 1, by omega⟩
    have nr := h.A.nr
    have i1 : (0 : Int) ≤ i := by omega
    have i2 : (i : Int) < zz_h M 40 1 9 := by omega
    have i60 : (i : Int) < 60 := by omega
    have a1 : ¬ (i : Int) + 1 = 0 := by omega
    have r : zz_r ((i : Int) + 1) = ((i + 1 : Nat) : Int) := by rw [yy_r (by omega) (by omega)]; omega
    have D := h.D i i1 i2
    rw [x_quiet_21, m_quiet_18, h.A.n, if_pos i2, if_pos i2, x_taskAt_in h i1 i2, Option.bind_some]
    dsimp only
    rw [x_isActive_ok h i1 i2, Option.bind_some, m_isActive_ok _ _ ⟨i1, i60⟩, Option.bind_some, r]
    dsimp only
    by_cases ca : zz_h M 56 1 i = 0
    · have hf : xT_isFiredFor ((i : Int) + 1) (zz_h M 40 1 0) X = some (zz_h M 63 1 i, X) := by
        unfold xT_isFiredFor
        rw [if_neg a1, if_neg a1]
        rcases D.c with ⟨q1, q2⟩ | ⟨q1, q2⟩
        · rw [if_neg (fun z => q2 (Or.inl (by omega))), if_neg (fun z => q2 (Or.inr (by omega))), q1]
        · rw [q1]
          split
          · rfl
          · rw [if_pos (by omega)]
      rw [if_pos ca, if_neg yy_10, if_neg a1, if_neg yy_10, h.A.t, hf, Option.bind_some, if_pos (show zz_b M 63 1 (i : Int) from ⟨i1, by rw [ya_63]; omega⟩)]
      dsimp only
      by_cases cf : zz_h M 63 1 i = 0
      · obtain ⟨v, M1, e1, e2, e3⟩ := h.dueFirst i i1 i2
        rw [if_pos cf, if_pos cf, e1, e2, Option.bind_some, Option.bind_some]
        dsimp only
        by_cases cv : v = -1
        · rw [if_pos cv, if_pos cv]
          obtain ⟨q, M', z1, z2, z3⟩ := ih n m (i + 1) M1 (h.lo e3) (by rw [e3 40 1 9 rfl]; omega) (by omega) (by omega)
          exact ⟨q, M', z1, z2, e3.tr z3⟩
        · rw [if_neg cv, if_neg cv]
          exact ⟨0, M1, rfl, rfl, e3⟩
      · rw [if_neg cf, if_neg cf]
        exact ⟨0, M, rfl, rfl, yK.rf⟩
    · rw [if_neg ca, if_pos rfl, if_pos rfl]
      exact ih n m (i + 1) M h (by omega) (by omega) (by omega)
theorem yW.quiet {c : Int} {X M : zz_S} (hW : yW c X M) : yR c x_quiet m_quiet X M := by
  obtain ⟨aw, dl, h⟩ := hW
  have fu := yy_fu
  have nr := h.A.nr
  have hW : yW c X M := ⟨aw, dl, h⟩
  unfold yR x_quiet m_quiet
  rw [h.J.le, h.L.x.le, h.atWork, Option.bind_some]
  dsimp only
  rw [h.L.m.le]
  by_cases c1 : (aw.length : Int) ≤ 0
  · rw [if_pos c1, if_pos c1]
    by_cases c2 : (dl.length : Int) ≤ 0
    · rw [if_pos c2, if_pos c2]
      obtain ⟨r, M', e1, e2, e3⟩ := yS.quiet_loop (zz_h M 40 1 9).toNat zz_fu zz_fu 0 M h (by omega) (by omega) (by omega)
      exact ⟨r, X, M', e1, e2, aw, dl, (h.lo e3).up (by rw [e3 40 1 0 rfl]; omega)⟩
    · rw [if_neg c2, if_neg c2]
      exact ⟨_, _, _, rfl, rfl, hW.up (by omega)⟩
  · rw [if_neg c1, if_neg c1]
    exact ⟨_, _, _, rfl, rfl, hW.up (by omega)⟩
