/-! STAGE B: which due begins -/
theorem yw_ct (M : zz_S) : ∀ n : Nat, ((yw M n).length : Int) = yy_ct (fun j => decide (zz_h M 41 1 j ≠ -1)) n
  | 0 => rfl
  | n + 1 => by
    have ih := yw_ct M n
    rw [yw, yy_ct]
    by_cases c : zz_h M 41 1 n = -1
    · rw [if_pos c, if_neg (by simp [c])]
      omega
    · rw [if_neg c, if_pos (by simp [c]), List.length_cons]
      omega
theorem yw_full (M : zz_S) : ∀ n : Nat, (yw M n).length = n → ∀ w : Int, 0 ≤ w → w < n → zz_h M 41 1 w ≠ -1
  | 0, _, w, h1, h2 => by omega
  | n + 1, h, w, h1, h2 => by
    have l := yw_length M n
    rw [yw] at h
    by_cases c : zz_h M 41 1 n = -1
    · rw [if_pos c] at h
      omega
    · rw [if_neg c, List.length_cons] at h
      by_cases q : w = n
      · rw [q]
        exact c
      · exact yw_full M n (by omega) w h1 (by omega)
theorem yw_all (M : zz_S) : ∀ n : Nat, (∀ w : Int, 0 ≤ w → w < n → zz_h M 41 1 w ≠ -1) → (yw M n).length = n
  | 0, _ => rfl
  | n + 1, h => by
    rw [yw, if_neg (h n (by omega) (by omega)), List.length_cons, yw_all M n (fun w a b => h w a (by omega))]
theorem yS.atWork {e : Nat} {b : Int} {aw : List Int} {dl : List yd} {X M : zz_S} (h : yS e b aw dl X M) : m_atWork M = some ((aw.length : Int), M) := by
  have wr := h.A.wr
  rw [m_atWork_ok (by omega), ← yw_ct, h.J.pe.length_eq]
theorem yS.free_loop {e : Nat} {b : Int} {aw : List Int} {dl : List yd} {X M : zz_S} (h : yS e b aw dl X M) : ∀ (k n w : Nat), (w : Int) + k = zz_h M 40 1 4 → k < n → ∃ v, x_freeWorker_2 n w X = some (v, X) ∧ ((v = -1 ∧ ∀ j : Int, w ≤ j → j < zz_h M 40 1 4 → zz_h M 41 1 j ≠ -1) ∨ ((w : Int) ≤ v ∧ v < zz_h M 40 1 4 ∧ zz_h M 41 1 v = -1 ∧ ∀ j : Int, w ≤ j → j < v → zz_h M 41 1 j ≠ -1)) := by
  have wr := h.A.wr
  have rr := h.A.rr
  intro k
  induction k with
  | zero =>
    intro n w a b
    obtain ⟨n, rfl⟩ : ∃ q, n = q + 1 := ⟨n - 1, by omega⟩
    refine ⟨-1, ?_, Or.inl ⟨rfl, fun j h1 h2 => by omega⟩⟩
    rw [x_freeWorker_2, h.A.w, if_neg (by omega)]
  | succ k ih =>
    intro n w a b
    obtain ⟨n, rfl⟩ : ∃ q, n = q + 1 := ⟨n - 1, by omega⟩
    have r : zz_r ((w : Int) + 1) = ((w + 1 : Nat) : Int) := by rw [yy_r (by omega) (by omega)]; omega
    rw [x_freeWorker_2, h.A.w, if_pos (by omega), if_pos (show zz_b X 16 1 (w : Int) from ⟨by omega, by rw [ya_16]; omega⟩), r]
    rcases h.J.bu w (by omega) (by omega) with ⟨g1, g2⟩ | ⟨g1, g2, g3, g4⟩
    · rw [if_pos g1]
      exact ⟨w, rfl, Or.inr ⟨by omega, by omega, g2, fun j h1 h2 => by omega⟩⟩
    · rw [if_neg (by omega)]
      obtain ⟨v, e1, e2⟩ := ih n (w + 1) (by omega) (by omega)
      have g5 := (h.J.mem _).mp g3
      have all : ∀ j : Int, w ≤ j → (((w + 1 : Nat) : Int) ≤ j → zz_h M 41 1 j ≠ -1) → zz_h M 41 1 j ≠ -1 := by
        intro j h1 h2
        by_cases q : j = w
        · rw [q]
          omega
        · exact h2 (by omega)
      refine ⟨v, e1, ?_⟩
      rcases e2 with ⟨q1, q2⟩ | ⟨q1, q2, q3, q4⟩
      · exact Or.inl ⟨q1, fun j h1 h2 => all j h1 (fun z => q2 j z h2)⟩
      · exact Or.inr ⟨by omega, q2, q3, fun j h1 h2 => all j h1 (fun z => q4 j z h2)⟩
/-- the free worker with the least number, -1 if all are at work -/
theorem yS.free {e : Nat} {b : Int} {aw : List Int} {dl : List yd} {X M : zz_S} (h : yS e b aw dl X M) : ∃ v, x_freeWorker X = some (v, X) ∧ ((v = -1 ∧ (aw.length : Int) = zz_h M 40 1 4) ∨ (0 ≤ v ∧ v < zz_h M 40 1 4 ∧ zz_h M 41 1 v = -1 ∧ (aw.length : Int) < zz_h M 40 1 4 ∧ ∀ j : Int, 0 ≤ j → j < v → zz_h M 41 1 j ≠ -1)) := by
  have wr := h.A.wr
  have fu := yy_fu
  obtain ⟨v, e1, e2⟩ := h.free_loop (zz_h M 40 1 4).toNat zz_fu 0 (by omega) (by omega)
  have pl := h.J.pe.length_eq
  have wl := yw_length M (zz_h M 40 1 4).toNat
  refine ⟨v, e1, ?_⟩
  rcases e2 with ⟨q1, q2⟩ | ⟨q1, q2, q3, q4⟩
  · left
    have := yw_all M (zz_h M 40 1 4).toNat (fun w a b => q2 w a (by omega))
    exact ⟨q1, by omega⟩
  · right
    refine ⟨q1, q2, q3, ?_, q4⟩
    have : ¬ (yw M (zz_h M 40 1 4).toNat).length = (zz_h M 40 1 4).toNat := fun z => yw_full M _ z v q1 (by omega) q3
    omega
theorem m_begins_skip {u d t v : Int} {M : zz_S} (v0 : 0 ≤ v) (v8 : v < 8) (hv : zz_h M 41 1 v = -1) (hb : ∀ j : Int, 0 ≤ j → j < v → zz_h M 41 1 j ≠ -1) : ∀ (k n w : Nat), (w : Int) + k = v → k < n → ∃ n', m_begins_90 n u d t w M = m_begins_90 (n' + 1) u d t v M := by
  intro k
  induction k with
  | zero =>
    intro n w a b
    obtain ⟨n, rfl⟩ : ∃ q, n = q + 1 := ⟨n - 1, by omega⟩
    exact ⟨n, by rw [show (w : Int) = v by omega]⟩
  | succ k ih =>
    intro n w a b
    obtain ⟨n, rfl⟩ : ∃ q, n = q + 1 := ⟨n - 1, by omega⟩
    obtain ⟨n', e⟩ := ih n (w + 1) (by omega) (by omega)
    have r : zz_r ((w : Int) + 1) = ((w + 1 : Nat) : Int) := by rw [yy_r (by omega) (by omega)]; omega
    refine ⟨n', ?_⟩
    rw [← e, m_begins_90, if_pos (show zz_b M 41 1 (w : Int) from ⟨by omega, by rw [ya_41]; omega⟩), if_neg (hb w (by omega) (by omega)), r]
/-- runs at work that began in a group -/
theorem yS.workIn_loop {e : Nat} {b : Int} {aw : List Int} {dl : List yd} {X M : zz_S} (h : yS e b aw dl X M) (g : Int) : ∀ (k n i : Nat), i + k = aw.length → k < n → x_workIn_4 n g (yct (fun r => zz_h M 83 1 r == g) (aw.take i)) i X = some (yct (fun r => zz_h M 83 1 r == g) aw, X) := by
  have ll := h.J.len h.A.wr
  intro k
  induction k with
  | zero =>
    intro n i a b
    obtain ⟨n, rfl⟩ : ∃ q, n = q + 1 := ⟨n - 1, by omega⟩
    rw [x_workIn_4, h.J.le, if_neg (by omega), List.take_of_length_le (by omega)]
  | succ k ih =>
    intro n i a b
    obtain ⟨n, rfl⟩ : ∃ q, n = q + 1 := ⟨n - 1, by omega⟩
    have hk : i < aw.length := by omega
    obtain ⟨r0, r1, -⟩ := (h.J.mem aw[i]).mp (List.getElem_mem hk)
    have I := h.I aw[i] r0 r1
    have e := ih n (i + 1) (by omega) (by omega)
    have r : zz_r ((i : Int) + 1) = ((i + 1 : Nat) : Int) := by rw [yy_r (by omega) (by omega)]; omega
    have cr := List.countP_le_length (p := fun r => zz_h M 83 1 r == g) (l := aw.take i)
    rw [List.length_take] at cr
    rw [← List.take_append_getElem hk] at e
    unfold yct at e ⊢
    rw [List.countP_append, List.countP_singleton] at e
    rw [x_workIn_4, h.J.le, if_pos (by omega), if_pos (show zz_b X 13 1 (i : Int) from ⟨by omega, by rw [ya_13]; omega⟩), h.J.at_ i hk, if_neg (by omega), if_neg (by omega), I.gr, r]
    by_cases c : zz_h M 83 1 aw[i] = g
    · rw [if_pos c, yy_r (by omega) (by omega)]
      rw [if_pos (by simpa using c)] at e
      exact e
    · rw [if_neg c]
      rw [if_neg (by simpa using c)] at e
      exact e
theorem yS.workIn {e : Nat} {b : Int} {aw : List Int} {dl : List yd} {X M : zz_S} (h : yS e b aw dl X M) (g : Int) : x_workIn g X = some (yct (fun r => zz_h M 83 1 r == g) aw, X) := by
  have fu := yy_fu
  have ll := h.J.len h.A.wr
  exact h.workIn_loop g aw.length zz_fu 0 (by omega) (by omega)
theorem yS.loadOf_loop {e : Nat} {b : Int} {aw : List Int} {dl : List yd} {X M : zz_S} (h : yS e b aw dl X M) (g : Int) : ∀ (k n w : Nat), (w : Int) + k = zz_h M 40 1 4 → k < n → m_loadOf_4 n g (yct (fun r => zz_h M 83 1 r == g) (yw M w)) w M = some (yct (fun r => zz_h M 83 1 r == g) (yw M (w + k)), M) := by
  have wr := h.A.wr
  have rr := h.A.rr
  intro k
  induction k with
  | zero =>
    intro n w a b
    obtain ⟨n, rfl⟩ : ∃ q, n = q + 1 := ⟨n - 1, by omega⟩
    rw [m_loadOf_4, if_neg (by omega)]
    rfl
  | succ k ih =>
    intro n w a b
    obtain ⟨n, rfl⟩ : ∃ q, n = q + 1 := ⟨n - 1, by omega⟩
    have e := ih n (w + 1) (by omega) (by omega)
    have r : zz_r ((w : Int) + 1) = ((w + 1 : Nat) : Int) := by rw [yy_r (by omega) (by omega)]; omega
    have b41 : zz_b M 41 1 (w : Int) := ⟨by omega, by rw [ya_41]; omega⟩
    have cr := List.countP_le_length (p := fun r => zz_h M 83 1 r == g) (l := yw M w)
    have cl := yw_length M w
    rw [show w + 1 + k = w + (k + 1) by omega, yw] at e
    rw [m_loadOf_4, if_pos (by omega), if_pos b41, r]
    by_cases c : zz_h M 41 1 (w : Int) = -1
    · rw [if_pos c]
      rw [if_pos c] at e
      exact e
    · obtain ⟨-, w1, w2, -⟩ := h.J.worker rr.2 (by omega) (by omega) c
      rw [if_neg c, if_pos b41, if_pos (show zz_b M 83 1 _ from ⟨w1, by rw [ya_83]; exact w2⟩)]
      rw [if_neg c] at e
      unfold yct at e ⊢
      rw [List.countP_cons] at e
      by_cases d : zz_h M 83 1 (zz_h M 41 1 (w : Int)) = g
      · rw [if_pos d, yy_r (by omega) (by omega)]
        rw [if_pos (by simpa using d)] at e
        exact e
      · rw [if_neg d]
        rw [if_neg (by simpa using d)] at e
        exact e
theorem yS.loadOf {e : Nat} {b : Int} {aw : List Int} {dl : List yd} {X M : zz_S} (h : yS e b aw dl X M) (g : Int) : m_loadOf g M = some (yct (fun r => zz_h M 83 1 r == g) aw, M) := by
  have fu := yy_fu
  have wr := h.A.wr
  have e := h.loadOf_loop g (zz_h M 40 1 4).toNat zz_fu 0 (by omega) (by omega)
  rw [Nat.zero_add] at e
  unfold m_loadOf
  have p : yct (fun r => zz_h M 83 1 r == g) (yw M (zz_h M 40 1 4).toNat) = yct (fun r => zz_h M 83 1 r == g) aw := by
    unfold yct
    rw [h.J.pe.countP_eq]
  rw [p] at e
  exact e
def yCB (aw : List Int) (X M : zz_S) (t : Int) : Prop := (zz_h M 49 1 t = -1 ∨ yct (fun r => zz_h M 83 1 r == zz_h M 49 1 t) aw < zz_h M 43 1 (zz_h M 49 1 t)) ∧ (zz_h M 50 1 t = 2 ∨ zz_h X 7 (t + 1) 15 ≤ 0)
theorem yS.mayBegin {e : Nat} {b : Int} {aw : List Int} {dl : List yd} {X M : zz_S} (h : yS e b aw dl X M) (t : Int) (h1 : 0 ≤ t) (h2 : t < zz_h M 40 1 9) : x_mayBegin (t + 1) X = some (yi (yCB aw X M t), X) ∧ m_canBegin t M = some (yi (yCB aw X M t), M) := by
  have nr := h.A.nr
  have gr := h.A.gr
  have B := h.B t h1 h2
  have r2 := B.r2
  have a1 : ¬ t + 1 = 0 := by omega
  have b282 : zz_b X 28 (t + 1) 2 := ⟨by omega, by rw [ya_28]; omega⟩
  have b283 : zz_b X 28 (t + 1) 3 := ⟨by omega, by rw [ya_28]; omega⟩
  have b49 : zz_b M 49 1 t := ⟨h1, by rw [ya_49]; omega⟩
  have b50 : zz_b M 50 1 t := ⟨h1, by rw [ya_50]; omega⟩
  have run := h.running t h1 h2
  have x23 : x_mayBegin_23 (t + 1) X = some (yi (zz_h M 49 1 t = -1 ∨ yct (fun r => zz_h M 83 1 r == zz_h M 49 1 t) aw < zz_h M 43 1 (zz_h M 49 1 t)), X) := by
    unfold x_mayBegin_23
    simp only [a1, if_false, if_pos b282, B.t2, h.A.g]
    rw [yy_r (by omega) (by omega), x_isWithin_ok, Option.bind_some]
    dsimp only
    by_cases c : zz_h M 49 1 t = -1
    · rw [if_neg (show ¬ (0 ≤ zz_h M 49 1 t ∧ zz_h M 49 1 t ≤ zz_h M 40 1 7 - 1) by omega), if_pos rfl, yi_pos (Or.inl c)]
    · rw [if_pos (show (0 ≤ zz_h M 49 1 t ∧ zz_h M 49 1 t ≤ zz_h M 40 1 7 - 1) by omega), if_neg (by decide), h.workIn, Option.bind_some, if_pos (show zz_b X 14 1 _ from ⟨by omega, by rw [ya_14]; omega⟩)]
      dsimp only
      rw [h.G.g _ (by omega) (by omega)]
      by_cases d : yct (fun r => zz_h M 83 1 r == zz_h M 49 1 t) aw < zz_h M 43 1 (zz_h M 49 1 t)
      · rw [if_pos d, yi_pos (Or.inr d)]
      · rw [if_neg d, yi_neg (fun z => z.elim c d)]
  have m36 : m_canBegin_36 t M = some (yi (zz_h M 50 1 t = 2 ∨ zz_h X 7 (t + 1) 15 ≤ 0), M) := by
    unfold m_canBegin_36
    rw [if_pos b50]
    by_cases c : zz_h M 50 1 t = 2
    · rw [if_pos c, yi_pos (Or.inl c)]
    · rw [if_neg c, run, Option.bind_some]
      dsimp only
      by_cases d : zz_h X 7 (t + 1) 15 ≤ 0
      · rw [if_pos d, if_pos rfl, yi_pos (Or.inr d)]
      · rw [if_neg d, if_neg (by decide), yi_neg (fun z => z.elim c d)]
  constructor
  · unfold x_mayBegin
    simp only [a1, if_false, if_pos b283, B.t3]
    by_cases c : zz_h M 50 1 t = 2
    · rw [if_pos c, x23, yi_cg (show _ ↔ yCB aw X M t from ⟨fun z => ⟨z, Or.inl c⟩, fun z => z.1⟩)]
    · rw [if_neg c]
      by_cases d : zz_h X 7 (t + 1) 15 ≤ 0
      · rw [if_pos d, x23, yi_cg (show _ ↔ yCB aw X M t from ⟨fun z => ⟨z, Or.inr d⟩, fun z => z.1⟩)]
      · rw [if_neg d, yi_neg (fun z => z.2.elim c d)]
  · unfold m_canBegin
    rw [if_pos b49, if_pos b49]
    by_cases c : zz_h M 49 1 t = -1
    · rw [if_pos c, m36, yi_cg (show _ ↔ yCB aw X M t from ⟨fun z => ⟨Or.inl c, z⟩, fun z => z.2⟩)]
    · rw [if_neg c, h.loadOf, Option.bind_some]
      dsimp only
      rw [if_pos b49, if_pos (show zz_b M 43 1 _ from ⟨by omega, by rw [ya_43]; omega⟩)]
      by_cases d : yct (fun r => zz_h M 83 1 r == zz_h M 49 1 t) aw < zz_h M 43 1 (zz_h M 49 1 t)
      · rw [if_pos d, m36, yi_cg (show _ ↔ yCB aw X M t from ⟨fun z => ⟨Or.inr d, z⟩, fun z => z.2⟩)]
      · rw [if_neg d, yi_neg (fun z => z.1.elim c d)]
theorem yS.isAhead {e : Nat} {b : Int} {aw : List Int} {dl : List yd} {X M : zz_S} (h : yS e b aw dl X M) (i k : Nat) (hi : i < dl.length) (hk : k < dl.length) : ∃ v, xD_isAhead i k X = some (v, X) ∧ m_isAhead i k M = some (v, M) := by
  have nr := h.A.nr
  have Ll := h.L.le
  obtain ⟨t1, t2, t3, t4⟩ := h.L.t dl[i] (List.getElem_mem hi)
  obtain ⟨s1, s2, s3, s4⟩ := h.L.t dl[k] (List.getElem_mem hk)
  obtain ⟨x1, x2, x3⟩ := h.L.x.a i hi
  obtain ⟨m1, m2, m3⟩ := h.L.m.a i hi
  obtain ⟨y1, y2, y3⟩ := h.L.x.a k hk
  obtain ⟨n1, n2, n3⟩ := h.L.m.a k hk
  have B := h.B dl[i].1 t1 t2
  have D := h.B dl[k].1 s1 s2
  have a1 : ¬ dl[i].1 + 1 = 0 := by omega
  have a2 : ¬ dl[k].1 + 1 = 0 := by omega
  have b1 : zz_b X 19 1 (i : Int) := ⟨by omega, by rw [ya_19]; omega⟩
  have b2 : zz_b X 19 1 (k : Int) := ⟨by omega, by rw [ya_19]; omega⟩
  have b3 : zz_b X 20 1 (i : Int) := ⟨by omega, by rw [ya_20]; omega⟩
  have b4 : zz_b X 20 1 (k : Int) := ⟨by omega, by rw [ya_20]; omega⟩
  have b5 : zz_b X 28 (dl[i].1 + 1) 1 := ⟨by omega, by rw [ya_28]; omega⟩
  have b6 : zz_b X 28 (dl[k].1 + 1) 1 := ⟨by omega, by rw [ya_28]; omega⟩
  have b7 : zz_b M 85 1 (i : Int) := ⟨by omega, by rw [ya_85]; omega⟩
  have b8 : zz_b M 85 1 (k : Int) := ⟨by omega, by rw [ya_85]; omega⟩
  have b9 : zz_b M 86 1 (i : Int) := ⟨by omega, by rw [ya_86]; omega⟩
  have b10 : zz_b M 86 1 (k : Int) := ⟨by omega, by rw [ya_86]; omega⟩
  have b11 : zz_b M 48 1 dl[i].1 := ⟨by omega, by rw [ya_48]; omega⟩
  have b12 : zz_b M 48 1 dl[k].1 := ⟨by omega, by rw [ya_48]; omega⟩
  unfold xD_isAhead m_isAhead
  simp only [x1, x2, y1, y2, m1, m2, n1, n2, a1, a2, if_false, if_pos b1, if_pos b2, if_pos b3, if_pos b4, if_pos b5, if_pos b6, if_pos b7, if_pos b8, if_pos b9, if_pos b10, if_pos b11, if_pos b12, B.t1, D.t1, B.nu, D.nu]
  by_cases c1 : zz_h M 48 1 dl[i].1 = zz_h M 48 1 dl[k].1
  · simp only [if_pos c1]
    by_cases c2 : dl[i].2.1 = dl[k].2.1
    · simp only [if_pos c2]
      by_cases c3 : dl[i].1 < dl[k].1
      · simp only [if_pos c3]
        exact ⟨_, rfl, rfl⟩
      · simp only [if_neg c3]
        exact ⟨_, rfl, rfl⟩
    · simp only [if_neg c2]
      by_cases c3 : dl[i].2.1 < dl[k].2.1
      · simp only [if_pos c3]
        exact ⟨_, rfl, rfl⟩
      · simp only [if_neg c3]
        exact ⟨_, rfl, rfl⟩
  · simp only [if_neg c1]
    by_cases c3 : zz_h M 48 1 dl[i].1 ≤ zz_h M 48 1 dl[k].1
    · simp only [if_pos c3]
      exact ⟨_, rfl, rfl⟩
    · simp only [if_neg c3]
      exact ⟨_, rfl, rfl⟩
theorem yS.first_loop {e : Nat} {b : Int} {aw : List Int} {dl : List yd} {X M : zz_S} (h : yS e b aw dl X M) (u : Int) : ∀ (k n m i : Nat) (f : Int), i + k = dl.length → k < n → k < m → (f = -1 ∨ ∃ q : Nat, f = q ∧ q < dl.length) → ∃ f' : Int, (f' = -1 ∨ ∃ q : Nat, f' = q ∧ q < dl.length) ∧ x_firstToBegin_4 n f i X = some (f', X) ∧ m_begins_27 m u f i M = (if f' = -1 then (some (0, M)) else (if zz_b M 85 1 f' then (m_begins_90 zz_fu u f' (zz_h M 85 1 f') 0 M) else none)) := by
  have Ll := h.L.le
  intro k
  induction k with
  | zero =>
    intro n m i f a b c hf
    obtain ⟨n, rfl⟩ : ∃ q, n = q + 1 := ⟨n - 1, by omega⟩
    obtain ⟨m, rfl⟩ : ∃ q, m = q + 1 := ⟨m - 1, by omega⟩
    refine ⟨f, hf, ?_, ?_⟩
    · rw [x_firstToBegin_4, h.L.x.le, if_neg (by omega)]
    · rw [m_begins_27, h.L.m.le, if_neg (show ¬ (i : Int) < dl.length by omega)]
  | succ k ih =>
    intro n m i f a b c hf
    obtain ⟨n, rfl⟩ : ∃ q, n = q + 1 := ⟨n - 1, by omega⟩
    obtain ⟨m, rfl⟩ : ∃ q, m = q + 1 := ⟨m - 1, by omega⟩
    have hk : i < dl.length := by omega
    obtain ⟨t1, t2, t3, t4⟩ := h.L.t dl[i] (List.getElem_mem hk)
    obtain ⟨x1, x2, x3⟩ := h.L.x.a i hk
    obtain ⟨m1, m2, m3⟩ := h.L.m.a i hk
    obtain ⟨c1, c2⟩ := h.mayBegin dl[i].1 t1 t2
    have r : zz_r ((i : Int) + 1) = ((i + 1 : Nat) : Int) := by rw [yy_r (by omega) (by omega)]; omega
    have old := ih n m (i + 1) f (by omega) (by omega) (by omega) hf
    have new := ih n m (i + 1) i (by omega) (by omega) (by omega) (Or.inr ⟨i, rfl, hk⟩)
    rw [x_firstToBegin_4, m_begins_27, h.L.x.le, h.L.m.le, if_pos (show (i : Int) < dl.length by omega), if_pos (show (i : Int) < dl.length by omega), if_pos (show zz_b X 19 1 (i : Int) from ⟨by omega, by rw [ya_19]; omega⟩), if_pos (show zz_b M 85 1 (i : Int) from ⟨by omega, by rw [ya_85]; omega⟩), x1, m1, c1, c2, Option.bind_some, Option.bind_some, r]
    dsimp only
    by_cases cb : yi (yCB aw X M dl[i].1) = 0
    · rw [if_pos cb, if_pos cb]
      exact old
    · rw [if_neg cb, if_neg cb]
      by_cases cf : f = -1
      · rw [if_pos cf, if_pos cf]
        exact new
      · rw [if_neg cf, if_neg cf]
        obtain ⟨q, q1, q2⟩ : ∃ q : Nat, f = q ∧ q < dl.length := hf.resolve_left cf
        obtain ⟨v, v1, v2⟩ := h.isAhead i q hk q2
        rw [← q1] at v1 v2
        rw [v1, v2, Option.bind_some, Option.bind_some]
        dsimp only
        by_cases cv : v = 0
        · rw [if_pos cv, if_pos cv]
          exact old
        · rw [if_neg cv, if_neg cv]
          exact new
