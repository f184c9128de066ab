/-! STAGE B: all ends of a minute -/
theorem yS.firstEnding_loop {e : Nat} {b : Int} {aw : List Int} {dl : List yd} {X M : zz_S} (h : yS e b aw dl X M) : ∀ (c n k : Nat), k + c = aw.length → c < n → x_firstEnding_2 n k X = some (match (aw.drop k).find? (fun r => zz_h M 78 1 r == zz_h M 40 1 0) with | some r => r + 1 | none => 0, X) := by
  have ll := h.J.len h.A.wr
  intro c
  induction c with
  | zero =>
    intro n k a b1
    obtain ⟨n, rfl⟩ : ∃ q, n = q + 1 := ⟨n - 1, by omega⟩
    rw [x_firstEnding_2, h.J.le, if_neg (by omega), List.drop_eq_nil_of_le (by omega)]
    rfl
  | succ c ih =>
    intro n k a b1
    obtain ⟨n, rfl⟩ : ∃ q, n = q + 1 := ⟨n - 1, by omega⟩
    have hk : k < aw.length := by omega
    obtain ⟨r0, r1, r2⟩ := (h.J.mem aw[k]).mp (List.getElem_mem hk)
    have I := h.I aw[k] r0 r1
    have rz : zz_r ((k : Int) + 1) = ((k + 1 : Nat) : Int) := by rw [yy_r (by omega) (by omega)]; omega
    rw [x_firstEnding_2, h.J.le, if_pos (by omega), if_pos (show zz_b X 13 1 (k : Int) from ⟨by omega, by rw [ya_13]; omega⟩), h.J.at_ k hk, if_neg (by omega), if_neg (by omega), I.to, h.A.t, rz, List.drop_eq_getElem_cons hk, List.find?_cons]
    by_cases c1 : zz_h M 78 1 aw[k] = zz_h M 40 1 0
    · rw [if_pos c1, show (zz_h M 78 1 aw[k] == zz_h M 40 1 0) = true by simpa using c1]
    · rw [if_neg c1, show (zz_h M 78 1 aw[k] == zz_h M 40 1 0) = false by simpa using c1]
      exact ih n (k + 1) (by omega) (by omega)
theorem yy_find (p : Int → Bool) (i : Int) : ∀ l : List Int, l.Pairwise (· < ·) → i ∈ l → p i = true → (∀ r ∈ l, r < i → p r = false) → l.find? p = some i
  | [], _, h, _, _ => absurd h (by simp)
  | a :: l, hp, h, hi, ha => by
    rw [List.find?_cons]
    rcases List.mem_cons.mp h with q | q
    · rw [← q, hi]
    · have lt := (List.pairwise_cons.mp hp).1 i q
      rw [ha a (by simp) lt]
      exact yy_find p i l (List.pairwise_cons.mp hp).2 q hi (fun r hr => ha r (by simp [hr]))
theorem yy_len_ne {l : List Int} {r : Int} (hp : l.Pairwise (· < ·)) (hr : r ∈ l) : (l.filter (fun q => q != r)).length + 1 = l.length := by
  have := yct_ne (fun _ => true) r l hp hr
  have e : ∀ m : List Int, yct (fun _ => true) m = m.length := fun m => by
    unfold yct
    rw [List.countP_eq_length.mpr (by simp)]
  rw [e, e, if_pos rfl] at this
  omega
theorem yS.endsAll : ∀ (k n m i v : Nat) (b : Int) (aw : List Int) (dl : List yd) (X M : zz_S), yS 1 b aw dl X M → b + 100 * aw.length < 1600000000 → (i : Int) + k = zz_h M 40 1 42 → k < m → aw.length + v ≤ 8 → aw.length + 1 < n → (∀ r ∈ aw, r < i → zz_h M 78 1 r ≠ zz_h M 40 1 0) → ∃ aw' dl' X' M', x_endRuns_2 n v X = some (0, X') ∧ m_treat_37 m (zz_h M 40 1 0) i M = m_treat_78 zz_fu (zz_h M 40 1 0) 0 M' ∧ yS 1 (b + 100 * aw.length) aw' dl' X' M' ∧ yK yn_ex X X' ∧ yK yn_em M M' := by
  intro k
  induction k with
  | zero =>
    intro n m i v b aw dl X M h hb hi hm hv hn ha
    obtain ⟨n, rfl⟩ : ∃ q, n = q + 1 := ⟨n - 1, by omega⟩
    obtain ⟨m, rfl⟩ : ∃ q, m = q + 1 := ⟨m - 1, by omega⟩
    have fu := yy_fu
    have ll := h.J.len h.A.wr
    refine ⟨aw, dl, X, M, ?_, ?_, h.up (by omega), yK.rf, yK.rf⟩
    · have e := h.firstEnding_loop aw.length zz_fu 0 (by omega) (by omega)
      rw [List.drop_zero, List.find?_eq_none.mpr] at e
      · rw [x_endRuns_2]
        split
        · unfold x_firstEnding
          rw [show ((0 : Nat) : Int) = 0 from rfl] at e
          rw [e, Option.bind_some]
          rfl
        · rfl
      · intro r hr
        have := (h.J.mem r).mp hr
        simpa using ha r hr (by omega)
    · rw [m_treat_37, if_neg (by omega)]
  | succ k ih =>
    intro n m i v b aw dl X M h hb hi hm hv hn ha
    obtain ⟨m, rfl⟩ : ∃ q, m = q + 1 := ⟨m - 1, by omega⟩
    have fu := yy_fu
    have ll := h.J.len h.A.wr
    have rr := h.A.rr
    have rz : zz_r ((i : Int) + 1) = ((i + 1 : Nat) : Int) := by rw [yy_r (by omega) (by omega)]; omega
    have b80 : zz_b M 80 1 (i : Int) := ⟨by omega, by rw [ya_80]; omega⟩
    have b78 : zz_b M 78 1 (i : Int) := ⟨by omega, by rw [ya_78]; omega⟩
    have skip : (zz_h M 80 1 (i : Int) = 0 → zz_h M 78 1 (i : Int) ≠ zz_h M 40 1 0) → ∃ aw' dl' X' M', x_endRuns_2 n v X = some (0, X') ∧ m_treat_37 m (zz_h M 40 1 0) ((i + 1 : Nat) : Int) M = m_treat_78 zz_fu (zz_h M 40 1 0) 0 M' ∧ yS 1 (b + 100 * aw.length) aw' dl' X' M' ∧ yK yn_ex X X' ∧ yK yn_em M M' := by
      intro hno
      refine ih n m (i + 1) v b aw dl X M h hb (by omega) (by omega) hv hn fun r hr hlt => ?_
      by_cases c : r = i
      · subst c
        exact hno ((h.J.mem _).mp hr).2.2
      · exact ha r hr (by omega)
    rw [m_treat_37, if_pos (by omega), if_pos b80]
    by_cases c1 : zz_h M 80 1 (i : Int) = 0
    · rw [if_pos c1, if_pos b78, rz]
      by_cases c2 : zz_h M 78 1 (i : Int) = zz_h M 40 1 0
      · rw [if_pos c2]
        have hr : (i : Int) ∈ aw := (h.J.mem _).mpr ⟨by omega, by omega, c1⟩
        have l1 := yy_len_ne h.J.so hr
        obtain ⟨n, rfl⟩ : ∃ q, n = q + 1 := ⟨n - 1, by omega⟩
        have e := h.firstEnding_loop aw.length zz_fu 0 (by omega) (by omega)
        rw [List.drop_zero, yy_find _ (i : Int) aw h.J.so hr (by simpa using c2) (fun r hr2 hlt => by simpa using ha r hr2 hlt)] at e
        obtain ⟨dl1, X1, M1, e1, e2, e3, e4, e5⟩ := h.ends (by omega) (i : Int) hr
        have n0 : zz_h M1 40 1 0 = zz_h M 40 1 0 := e5 40 1 0 rfl
        have n42 : zz_h M1 40 1 42 = zz_h M 40 1 42 := e5 40 1 42 rfl
        obtain ⟨aw', dl', X', M', f1, f2, f3, f4, f5⟩ := ih n m (i + 1) (v + 1) (b + 100) _ dl1 X1 M1 e3 (by omega) (by omega) (by omega) (by omega) (by omega) (fun r hr2 hlt => by
          obtain ⟨g1, g2⟩ := List.mem_filter.mp hr2
          have g2 : ¬ r = i := by simpa using g2
          rw [n0, e5 78 1 r rfl]
          exact ha r g1 (by omega))
        refine ⟨aw', dl', X', M', ?_, ?_, f3.up (by omega), e4.tr f4, e5.tr f5⟩
        · rw [x_endRuns_2, if_pos (by omega)]
          unfold x_firstEnding
          rw [show ((0 : Nat) : Int) = 0 from rfl] at e
          rw [e, Option.bind_some]
          dsimp only
          have rv : zz_r ((v : Int) + 1) = ((v + 1 : Nat) : Int) := by rw [yy_r (by omega) (by omega)]; omega
          rw [if_neg (show ¬ (i : Int) + 1 = 0 by omega), e1, Option.bind_some, rv]
          exact f1
        · rw [e2, Option.bind_some]
          dsimp only
          rw [n0] at f2
          exact f2
      · rw [if_neg c2]
        exact skip (fun _ => c2)
    · rw [if_neg c1, rz]
      exact skip (fun z => absurd z c1)
