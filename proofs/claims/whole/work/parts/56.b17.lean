/-! STAGE B: a run is taken from its worker -/
def yn_lx (k : Nat) (j : Int) : Bool := !(k == 13 || (k == 3 && j == 13) || k == 16 || (k == 7 && j == 15) || (k == 10 && (j == 8 || j == 9)))
def yn_lm (k : Nat) (_j : Int) : Bool := !(k == 41 || k == 80 || k == 79)
theorem yw_length (M : zz_S) : ∀ n, (yw M n).length ≤ n
  | 0 => Nat.le_refl _
  | n + 1 => by
    rw [yw]
    have := yw_length M n
    split
    · omega
    · rw [List.length_cons]
      omega
theorem yJ.len {aw : List Int} {X M : zz_S} (h : yJ aw X M) (hW : 1 ≤ zz_h M 40 1 4 ∧ zz_h M 40 1 4 ≤ 8) : aw.length ≤ 8 := by
  have := yw_length M (zz_h M 40 1 4).toNat
  rw [h.pe.length_eq] at this
  omega
theorem yy_notmem {a : Int} {l : List Int} (h : (a :: l).Pairwise (· < ·)) : ∀ x ∈ l, ¬ x = a := by
  intro x hx z
  have := (List.pairwise_cons.mp h).1 x hx
  omega
theorem yct_ne (p : Int → Bool) (r : Int) : ∀ l : List Int, l.Pairwise (· < ·) → r ∈ l → yct p (l.filter (fun q => q != r)) = yct p l - (if p r then 1 else 0)
  | [], _, h => absurd h (by simp)
  | a :: l, hp, h => by
    by_cases c : a = r
    · subst c
      rw [List.filter_cons_of_neg (by simp), List.filter_eq_self.mpr]
      · unfold yct
        rw [List.countP_cons]
        split <;> omega
      · intro x hx
        simpa using yy_notmem hp x hx
    · have hm : r ∈ l := by
        rcases List.mem_cons.mp h with q | q
        · exact absurd q.symm c
        · exact q
      have ih := yct_ne p r l (List.pairwise_cons.mp hp).2 hm
      rw [List.filter_cons_of_pos (by simpa using c)]
      unfold yct at ih ⊢
      rw [List.countP_cons, List.countP_cons]
      split <;> omega
theorem x_layDown_loop {r o : Int} {aw : List Int} (hr : 0 ≤ r) (hl : aw.length ≤ 8) (hp : ∀ q ∈ aw, 0 ≤ q) : ∀ (c n k : Nat) (L : List Int) (X : zz_S), k + c = aw.length → c < n → L = (aw.take k).filter (fun q => q != r) → zz_h X 3 1 13 = aw.length → (∀ i (_ : i < L.length), zz_h X 13 1 (i : Nat) = L[i] + 1) → (∀ i (_ : i < aw.length), k ≤ i → zz_h X 13 1 (i : Nat) = aw[i] + 1) → ∃ X1, x_layDown_5 n (r + 1) o L.length k X = x_layDown_5 1 (r + 1) o (aw.filter (fun q => q != r)).length aw.length X1 ∧ (∀ i (_ : i < (aw.filter (fun q => q != r)).length), zz_h X1 13 1 (i : Nat) = (aw.filter (fun q => q != r))[i] + 1) ∧ yK (fun k _ => !(k == 13)) X X1 ∧ yQ X X1 := by
  intro c
  induction c with
  | zero =>
    intro n k L X a b hL hc h1 h2
    obtain ⟨n, rfl⟩ : ∃ q, n = q + 1 := ⟨n - 1, by omega⟩
    rw [List.take_of_length_le (by omega)] at hL
    subst hL
    refine ⟨X, ?_, h1, yK.rf, yQ.rf⟩
    have : k = aw.length := by omega
    subst this
    simp only [x_layDown_5, hc, Int.lt_irrefl, if_false]
  | succ c ih =>
    intro n k L X a b hL hc h1 h2
    obtain ⟨n, rfl⟩ : ∃ q, n = q + 1 := ⟨n - 1, by omega⟩
    have hk : k < aw.length := by omega
    have lL : L.length ≤ k := by
      rw [hL]
      refine Nat.le_trans (List.length_filter_le _ _) ?_
      rw [List.length_take]
      omega
    have r1 : zz_r ((k : Int) + 1) = ((k + 1 : Nat) : Int) := by rw [yy_r (by omega) (by omega)]; omega
    have r2 : zz_r ((L.length : Int) + 1) = ((L.length + 1 : Nat) : Int) := by rw [yy_r (by omega) (by omega)]; omega
    have z1 : (0 : Int) ≤ (k : Int) := by omega
    have z2 : (k : Int) < 8 := by omega
    have z3 : (0 : Int) ≤ (L.length : Int) := by omega
    have z4 : (L.length : Int) < 8 := by omega
    have d0 := hp aw[k] (List.getElem_mem hk)
    have q1 := h2 k hk (by omega)
    rw [x_layDown_5]
    simp only [r1, r2]
    rw [hc, if_pos (by omega), if_pos (show zz_b X 13 1 (k : Int) from ⟨z1, by rw [ya_13]; exact z2⟩), q1]
    by_cases cc : aw[k] = r
    · rw [if_pos (by omega)]
      exact ih n (k + 1) L X (by omega) (by omega) (by
        rw [hL, ← List.take_append_getElem hk, List.filter_append, List.filter_cons_of_neg (by simp [cc]), List.filter_nil, List.append_nil]) hc h1 (fun i hi hi2 => h2 i hi (by omega))
    · rw [if_neg (by omega), if_pos (show zz_b X 13 1 (k : Int) from ⟨z1, by rw [ya_13]; exact z2⟩), if_pos (show zz_b X 13 1 (L.length : Int) from ⟨z3, by rw [ya_13]; exact z4⟩), if_neg (by omega)]
      have g1 : ∀ i (_ : i < (L ++ [aw[k]]).length), zz_h (zz_w X 13 1 (L.length : Int) (aw[k] + 1)) 13 1 (i : Nat) = (L ++ [aw[k]])[i] + 1 := by
        intro i hi
        by_cases q : i < L.length
        · rw [List.getElem_append_left q, ← h1 i q, yy_slot (by omega)]
        · have q' : i = L.length := by
            rw [List.length_append, List.length_singleton] at hi
            omega
          subst q'
          rw [List.getElem_append_right (by omega)]
          simp [zz_h_w]
      have g2 : ∀ i (_ : i < aw.length), k + 1 ≤ i → zz_h (zz_w X 13 1 (L.length : Int) (aw[k] + 1)) 13 1 (i : Nat) = aw[i] + 1 := by
        intro i hi hi2
        rw [yy_slot (by omega)]
        exact h2 i hi (by omega)
      have := ih n (k + 1) (L ++ [aw[k]]) (zz_w X 13 1 (L.length : Int) (aw[k] + 1)) (by omega) (by omega) (by
        rw [hL, ← List.take_append_getElem hk, List.filter_append, List.filter_cons_of_pos (by simp [cc]), List.filter_nil]) hc g1 g2
      rw [List.length_append, List.length_singleton] at this
      obtain ⟨X1, e1, e2, e3, e4⟩ := this
      exact ⟨X1, e1, e2, (show yK _ X _ from by (repeat (first | refine yK.w ?_ rfl | exact yK.rf))).tr e3, e4⟩
theorem yw_free {M M' : zz_S} {w0 r : Int} (h1 : ∀ w : Int, zz_h M' 41 1 w = if w = w0 then -1 else zz_h M 41 1 w) : ∀ n : Nat, (∀ w : Int, 0 ≤ w → w < n → (zz_h M 41 1 w = r ↔ w = w0)) → yw M' n = (yw M n).filter (fun q => q != r)
  | 0, _ => rfl
  | n + 1, h2 => by
    have ih := yw_free h1 n (fun w a b => h2 w a (by omega))
    have q := h2 n (by omega) (by omega)
    rw [yw, yw, ih, h1]
    by_cases c : (n : Int) = w0
    · rw [if_pos c, if_pos rfl]
      have q' := q.mpr c
      split
      · rfl
      · rw [List.filter_cons_of_neg (by simp [q'])]
    · rw [if_neg c]
      have q' : ¬ zz_h M 41 1 n = r := fun z => c (q.mp z)
      split
      · rfl
      · rw [List.filter_cons_of_pos (by simpa using q')]
theorem yS.lay {e : Nat} {b : Int} {aw : List Int} {dl : List yd} {X M : zz_S} (h : yS e b aw dl X M) (r o : Int) (hr : r ∈ aw) (ho : 1 ≤ o ∧ o ≤ 3) :
    ∃ X' M', x_layDown (r + 1) o X = some (0, X') ∧ m_frees r o (zz_h M 40 1 0) M = some (0, M') ∧ yS e b (aw.filter (fun q => q != r)) dl X' M' ∧ yK yn_lx X X' ∧ yK yn_lm M M' ∧ (∀ q, q ≠ r → zz_h M' 80 1 q = zz_h M 80 1 q) := by
  have fu := yy_fu
  have J := h.J
  have rr := h.A.rr
  have wr := h.A.wr
  have nr := h.A.nr
  have tA := h.A.t
  have ll := J.len wr
  obtain ⟨r0, r1, r2⟩ := (J.mem r).mp hr
  have I := h.I r r0 r1
  have tr := I.tr
  obtain ⟨w0, w1, w2⟩ := J.wk r hr
  have hp : ∀ q ∈ aw, 0 ≤ q := fun q hq => ((J.mem q).mp hq).1
  obtain ⟨X1, e1, e2, e3, e4⟩ := x_layDown_loop (o := o) r0 ll hp aw.length zz_fu 0 [] X (by omega) (by omega) (by simp) J.le (fun i hi => absurd hi (by simp)) (fun i hi _ => J.at_ i hi)
  have wo := J.wo (zz_h M 75 1 r) tr.1 tr.2
  have cp : 1 ≤ yct (fun q => zz_h M 75 1 q == zz_h M 75 1 r) aw := by
    have : 0 < yct (fun q => zz_h M 75 1 q == zz_h M 75 1 r) aw := yct_pos.mpr ⟨r, hr, by simp⟩
    omega
  have cl : yct (fun q => zz_h M 75 1 q == zz_h M 75 1 r) aw ≤ 8 := by
    unfold yct
    have := List.countP_le_length (p := fun q => zz_h M 75 1 q == zz_h M 75 1 r) (l := aw)
    omega
  have rz : zz_r (zz_h X 7 (zz_h M 75 1 r + 1) 15 - 1) = zz_h X 7 (zz_h M 75 1 r + 1) 15 - 1 := yy_r (by omega) (by omega)
  have j13 : zz_h X1 3 1 13 = aw.length := (e3 3 1 13 rfl).trans J.le
  have x106 : zz_h X1 10 (r + 1) 6 = zz_h M 82 1 r := (e3 10 (r + 1) 6 rfl).trans I.wo
  have x101 : zz_h X1 10 (r + 1) 1 = zz_h M 75 1 r + 1 := (e3 10 (r + 1) 1 rfl).trans I.ta
  have x715 : zz_h X1 7 (zz_h M 75 1 r + 1) 15 = zz_h X 7 (zz_h M 75 1 r + 1) 15 := e3 7 _ 15 rfl
  have x316 : zz_h X1 3 1 16 = zz_h M 40 1 0 := (e3 3 1 16 rfl).trans tA
  have ex : x_layDown (r + 1) o X = some (0, zz_w (zz_w (zz_w (zz_w (zz_w X1 3 1 13 (aw.filter (fun q => q != r)).length) 16 1 (zz_h M 82 1 r) 0) 7 (zz_h M 75 1 r + 1) 15 (zz_h X 7 (zz_h M 75 1 r + 1) 15 - 1)) 10 (r + 1) 8 (zz_h M 40 1 0)) 10 (r + 1) 9 o) := by
    unfold x_layDown
    refine e1.trans ?_
    have a1 : ¬ r + 1 = 0 := by omega
    have a2 : ¬ zz_h M 75 1 r + 1 = 0 := by omega
    have a3 : zz_h M 82 1 r < 8 := by omega
    rw [x_layDown_5, j13, if_neg (by omega)]
    simp [zz_h_w, a1, a2, a3, w0, zz_b, ya_16, x106, x101, x715, x316, rz]
  have em : m_frees r o (zz_h M 40 1 0) M = some (0, zz_w (zz_w (zz_w M 41 1 (zz_h M 82 1 r) (-1)) 80 1 r o) 79 1 r (zz_h M 40 1 0)) := by
    unfold m_frees
    have a3 : zz_h M 82 1 r < 8 := by omega
    have a4 : r < 2000 := by omega
    simp [zz_b, ya_11, ya_12, ya_13, ya_14, ya_15, ya_16, ya_17, ya_18, ya_19, ya_20, ya_21, ya_22, ya_23, ya_24, ya_25, ya_26, ya_27, ya_28, ya_29, ya_30, ya_41, ya_42, ya_43, ya_44, ya_45, ya_46, ya_47, ya_48, ya_49, ya_50, ya_51, ya_52, ya_53, ya_54, ya_55, ya_56, ya_57, ya_58, ya_59, ya_60, ya_61, ya_62, ya_63, ya_64, ya_65, ya_66, ya_67, ya_68, ya_69, ya_70, ya_71, ya_72, ya_73, ya_74, ya_75, ya_76, ya_77, ya_78, ya_79, ya_80, ya_81, ya_82, ya_83, ya_84, ya_85, ya_86, ya_87, ya_88, ya_89, ya_90, ya_91, r0, a4, w0, a3]
  have kx : yK yn_lx X (zz_w (zz_w (zz_w (zz_w (zz_w X1 3 1 13 (aw.filter (fun q => q != r)).length) 16 1 (zz_h M 82 1 r) 0) 7 (zz_h M 75 1 r + 1) 15 (zz_h X 7 (zz_h M 75 1 r + 1) 15 - 1)) 10 (r + 1) 8 (zz_h M 40 1 0)) 10 (r + 1) 9 o) := (((((e3.sub (by (intro k j e; first | rfl | (simp [yk_A, yk_B, yk_C, yk_D, yk_E, yk_F, yk_G, yk_M, yk_I, yk_J, yk_L, yk_Lx, yk_Lm, yk_N, yk_U, yn_cx, yn_cm, yn_Lx, yn_Lm, yn_lx] at e ⊢; omega)))).w rfl).w rfl).w rfl).w rfl).w rfl
  have km : yK yn_lm M (zz_w (zz_w (zz_w M 41 1 (zz_h M 82 1 r) (-1)) 80 1 r o) 79 1 r (zz_h M 40 1 0)) := by (repeat (first | refine yK.w ?_ rfl | exact yK.rf))
  have hq : yQ X (zz_w (zz_w (zz_w (zz_w (zz_w X1 3 1 13 (aw.filter (fun q => q != r)).length) 16 1 (zz_h M 82 1 r) 0) 7 (zz_h M 75 1 r + 1) 15 (zz_h X 7 (zz_h M 75 1 r + 1) 15 - 1)) 10 (r + 1) 8 (zz_h M 40 1 0)) 10 (r + 1) 9 o) := e4
  have m80 : ∀ q, zz_h (zz_w (zz_w (zz_w M 41 1 (zz_h M 82 1 r) (-1)) 80 1 r o) 79 1 r (zz_h M 40 1 0)) 80 1 q = if q = r then o else zz_h M 80 1 q := by
    intro q
    by_cases c : q = r
    · rw [if_pos c, c]
      simp [zz_h_w]
    · rw [if_neg c]
      simp [zz_h_w, c]
  have m41 : ∀ q, zz_h (zz_w (zz_w (zz_w M 41 1 (zz_h M 82 1 r) (-1)) 80 1 r o) 79 1 r (zz_h M 40 1 0)) 41 1 q = if q = zz_h M 82 1 r then -1 else zz_h M 41 1 q := by
    intro q
    by_cases c : q = zz_h M 82 1 r
    · rw [if_pos c, c]
      simp [zz_h_w]
    · rw [if_neg c]
      simp [zz_h_w, c]
  refine ⟨_, _, ex, em, ?_, kx, km, fun q hq => by rw [m80, if_neg hq]⟩
  have k75 : ∀ q, zz_h (zz_w (zz_w (zz_w M 41 1 (zz_h M 82 1 r) (-1)) 80 1 r o) 79 1 r (zz_h M 40 1 0)) 75 1 q = zz_h M 75 1 q := fun q => km 75 1 q rfl
  have k82 : ∀ q, zz_h (zz_w (zz_w (zz_w M 41 1 (zz_h M 82 1 r) (-1)) 80 1 r o) 79 1 r (zz_h M 40 1 0)) 82 1 q = zz_h M 82 1 q := fun q => km 82 1 q rfl
  have x15 : ∀ t, zz_h (zz_w (zz_w (zz_w (zz_w (zz_w X1 3 1 13 (aw.filter (fun q => q != r)).length) 16 1 (zz_h M 82 1 r) 0) 7 (zz_h M 75 1 r + 1) 15 (zz_h X 7 (zz_h M 75 1 r + 1) 15 - 1)) 10 (r + 1) 8 (zz_h M 40 1 0)) 10 (r + 1) 9 o) 7 (t + 1) 15 = if t = zz_h M 75 1 r then zz_h X 7 (zz_h M 75 1 r + 1) 15 - 1 else zz_h X 7 (t + 1) 15 := by
    intro t
    by_cases c : t = zz_h M 75 1 r
    · rw [if_pos c, c]
      simp [zz_h_w]
    · rw [if_neg c]
      simp [zz_h_w, c]
      exact e3 7 _ 15 rfl
  have x16 : ∀ w, zz_h (zz_w (zz_w (zz_w (zz_w (zz_w X1 3 1 13 (aw.filter (fun q => q != r)).length) 16 1 (zz_h M 82 1 r) 0) 7 (zz_h M 75 1 r + 1) 15 (zz_h X 7 (zz_h M 75 1 r + 1) 15 - 1)) 10 (r + 1) 8 (zz_h M 40 1 0)) 10 (r + 1) 9 o) 16 1 w = if w = zz_h M 82 1 r then 0 else zz_h X 16 1 w := by
    intro w
    by_cases c : w = zz_h M 82 1 r
    · rw [if_pos c, c]
      simp [zz_h_w]
    · rw [if_neg c]
      simp [zz_h_w, c]
      exact e3 16 _ _ rfl
  have x13 : ∀ i, zz_h (zz_w (zz_w (zz_w (zz_w (zz_w X1 3 1 13 (aw.filter (fun q => q != r)).length) 16 1 (zz_h M 82 1 r) 0) 7 (zz_h M 75 1 r + 1) 15 (zz_h X 7 (zz_h M 75 1 r + 1) 15 - 1)) 10 (r + 1) 8 (zz_h M 40 1 0)) 10 (r + 1) 9 o) 13 1 i = zz_h X1 13 1 i := fun i => rfl
  have x313 : zz_h (zz_w (zz_w (zz_w (zz_w (zz_w X1 3 1 13 (aw.filter (fun q => q != r)).length) 16 1 (zz_h M 82 1 r) 0) 7 (zz_h M 75 1 r + 1) 15 (zz_h X 7 (zz_h M 75 1 r + 1) 15 - 1)) 10 (r + 1) 8 (zz_h M 40 1 0)) 10 (r + 1) 9 o) 3 1 13 = (aw.filter (fun q => q != r)).length := rfl
  have xI : ∀ q, zz_h (zz_w (zz_w (zz_w (zz_w (zz_w X1 3 1 13 (aw.filter (fun q => q != r)).length) 16 1 (zz_h M 82 1 r) 0) 7 (zz_h M 75 1 r + 1) 15 (zz_h X 7 (zz_h M 75 1 r + 1) 15 - 1)) 10 (r + 1) 8 (zz_h M 40 1 0)) 10 (r + 1) 9 o) 10 (q + 1) 9 = if q = r then o else zz_h X 10 (q + 1) 9 := by
    intro q
    by_cases c : q = r
    · rw [if_pos c, c]
      simp [zz_h_w]
    · rw [if_neg c]
      simp [zz_h_w, c]
      exact e3 10 _ _ rfl
  have xE : ∀ q, zz_h (zz_w (zz_w (zz_w (zz_w (zz_w X1 3 1 13 (aw.filter (fun q => q != r)).length) 16 1 (zz_h M 82 1 r) 0) 7 (zz_h M 75 1 r + 1) 15 (zz_h X 7 (zz_h M 75 1 r + 1) 15 - 1)) 10 (r + 1) 8 (zz_h M 40 1 0)) 10 (r + 1) 9 o) 10 (q + 1) 8 = if q = r then zz_h M 40 1 0 else zz_h X 10 (q + 1) 8 := by
    intro q
    by_cases c : q = r
    · rw [if_pos c, c]
      simp [zz_h_w]
    · rw [if_neg c]
      simp [zz_h_w, c]
      exact e3 10 _ _ rfl
  have m79 : ∀ q, zz_h (zz_w (zz_w (zz_w M 41 1 (zz_h M 82 1 r) (-1)) 80 1 r o) 79 1 r (zz_h M 40 1 0)) 79 1 q = if q = r then zz_h M 40 1 0 else zz_h M 79 1 q := by
    intro q
    by_cases c : q = r
    · rw [if_pos c, c]
      simp [zz_h_w]
    · rw [if_neg c]
      simp [zz_h_w, c]
  generalize (zz_w (zz_w (zz_w (zz_w (zz_w X1 3 1 13 (aw.filter (fun q => q != r)).length) 16 1 (zz_h M 82 1 r) 0) 7 (zz_h M 75 1 r + 1) 15 (zz_h X 7 (zz_h M 75 1 r + 1) 15 - 1)) 10 (r + 1) 8 (zz_h M 40 1 0)) 10 (r + 1) 9 o) = X' at kx hq x15 x16 x13 x313 xI xE ⊢
  generalize (zz_w (zz_w (zz_w M 41 1 (zz_h M 82 1 r) (-1)) 80 1 r o) 79 1 r (zz_h M 40 1 0)) = M' at km m80 m41 k75 k82 m79 ⊢
  (refine yS.by_ h ?_ ?_ ?_ ?_ ?_ ?_ ?_ ?_ ?_ ?_ ?_ ?_ ?_ ?_ ?_ ?_ <;> try (first | (exact km 40 1 9 rfl)| (exact km 40 1 42 rfl)| (exact km 40 1 0 rfl)| (refine yA.cg (yS.A h) (yK.sub kx ?_) (yK.sub km ?_) <;> (intro k j e; first | rfl | (simp [yk_A, yk_B, yk_C, yk_D, yk_E, yk_F, yk_G, yk_M, yk_I, yk_J, yk_L, yk_Lx, yk_Lm, yk_N, yk_U, yn_cx, yn_cm, yn_Lx, yn_Lm, yn_lx, yn_lm] at e ⊢; omega)))| (intro t h1 h2; refine yB.cg (yS.B h t h1 h2) (yK.sub kx ?_) (yK.sub km ?_) <;> (intro k j e; first | rfl | (simp [yk_A, yk_B, yk_C, yk_D, yk_E, yk_F, yk_G, yk_M, yk_I, yk_J, yk_L, yk_Lx, yk_Lm, yk_N, yk_U, yn_cx, yn_cm, yn_Lx, yn_Lm, yn_lx, yn_lm] at e ⊢; omega)))| (intro t h1 h2; refine yC.cg (yC.up (yS.C h t h1 h2) (by omega)) (yK.sub kx ?_) (yK.sub km ?_) <;> (intro k j e; first | rfl | (simp [yk_A, yk_B, yk_C, yk_D, yk_E, yk_F, yk_G, yk_M, yk_I, yk_J, yk_L, yk_Lx, yk_Lm, yk_N, yk_U, yn_cx, yn_cm, yn_Lx, yn_Lm, yn_lx, yn_lm] at e ⊢; omega)))| (intro t h1 h2; refine yD.cg (yS.D h t h1 h2) (yK.sub kx ?_) (yK.sub km ?_) <;> (intro k j e; first | rfl | (simp [yk_A, yk_B, yk_C, yk_D, yk_E, yk_F, yk_G, yk_M, yk_I, yk_J, yk_L, yk_Lx, yk_Lm, yk_N, yk_U, yn_cx, yn_cm, yn_Lx, yn_Lm, yn_lx, yn_lm] at e ⊢; omega)))| (intro t h1 h2; refine yE.cg (yS.E h t h1 h2) (yK.sub kx ?_) (yK.sub km ?_) <;> (intro k j e; first | rfl | (simp [yk_A, yk_B, yk_C, yk_D, yk_E, yk_F, yk_G, yk_M, yk_I, yk_J, yk_L, yk_Lx, yk_Lm, yk_N, yk_U, yn_cx, yn_cm, yn_Lx, yn_Lm, yn_lx, yn_lm] at e ⊢; omega)))| (intro t h1 h2; refine yF.cg (yS.F h t h1 h2) (yK.sub kx ?_) (yK.sub km ?_) <;> (intro k j e; first | rfl | (simp [yk_A, yk_B, yk_C, yk_D, yk_E, yk_F, yk_G, yk_M, yk_I, yk_J, yk_L, yk_Lx, yk_Lm, yk_N, yk_U, yn_cx, yn_cm, yn_Lx, yn_Lm, yn_lx, yn_lm] at e ⊢; omega)))| (refine yG.cg (yS.G h) (yK.sub kx ?_) (yK.sub km ?_) <;> (intro k j e; first | rfl | (simp [yk_A, yk_B, yk_C, yk_D, yk_E, yk_F, yk_G, yk_M, yk_I, yk_J, yk_L, yk_Lx, yk_Lm, yk_N, yk_U, yn_cx, yn_cm, yn_Lx, yn_Lm, yn_lx, yn_lm] at e ⊢; omega)))| (intro t h1 h2; refine yI.cg (yS.I h t h1 h2) (yK.sub kx ?_) (yK.sub km ?_) <;> (intro k j e; first | rfl | (simp [yk_A, yk_B, yk_C, yk_D, yk_E, yk_F, yk_G, yk_M, yk_I, yk_J, yk_L, yk_Lx, yk_Lm, yk_N, yk_U, yn_cx, yn_cm, yn_Lx, yn_Lm, yn_lx, yn_lm] at e ⊢; omega)))| (refine yJ.cg (yS.J h) (yK.sub kx ?_) (yK.sub km ?_) <;> (intro k j e; first | rfl | (simp [yk_A, yk_B, yk_C, yk_D, yk_E, yk_F, yk_G, yk_M, yk_I, yk_J, yk_L, yk_Lx, yk_Lm, yk_N, yk_U, yn_cx, yn_cm, yn_Lx, yn_Lm, yn_lx, yn_lm] at e ⊢; omega)))| (refine yL.cg (yS.L h) (yK.sub kx ?_) (yK.sub km ?_) <;> (intro k j e; first | rfl | (simp [yk_A, yk_B, yk_C, yk_D, yk_E, yk_F, yk_G, yk_M, yk_I, yk_J, yk_L, yk_Lx, yk_Lm, yk_N, yk_U, yn_cx, yn_cm, yn_Lx, yn_Lm, yn_lx, yn_lm] at e ⊢; omega)))| (refine yM.cg (yM.up (yS.R h) (by omega)) (yK.sub kx ?_) (yK.sub km ?_) <;> (intro k j e; first | rfl | (simp [yk_A, yk_B, yk_C, yk_D, yk_E, yk_F, yk_G, yk_M, yk_I, yk_J, yk_L, yk_Lx, yk_Lm, yk_N, yk_U, yn_cx, yn_cm, yn_Lx, yn_Lm, yn_lx, yn_lm] at e ⊢; omega)))| (refine yN.cg (yS.N h) (yK.sub kx ?_) hq <;> (intro k j e; first | rfl | (simp [yk_A, yk_B, yk_C, yk_D, yk_E, yk_F, yk_G, yk_M, yk_I, yk_J, yk_L, yk_Lx, yk_Lm, yk_N, yk_U, yn_cx, yn_cm, yn_Lx, yn_Lm, yn_lx, yn_lm] at e ⊢; omega)))| (refine yU.cg (yS.U h) (yK.sub km ?_) <;> (intro k j e; first | rfl | (simp [yk_A, yk_B, yk_C, yk_D, yk_E, yk_F, yk_G, yk_M, yk_I, yk_J, yk_L, yk_Lx, yk_Lm, yk_N, yk_U, yn_cx, yn_cm, yn_Lx, yn_Lm, yn_lx, yn_lm] at e ⊢; omega)))))
  · intro q q1 q2
    have a := h.I q q1 q2
    unfold yI
    rw [kx 12 1 q rfl, kx 10 (q + 1) 0 rfl, kx 10 (q + 1) 1 rfl, kx 10 (q + 1) 2 rfl, kx 10 (q + 1) 3 rfl, kx 10 (q + 1) 4 rfl, kx 10 (q + 1) 5 rfl, kx 10 (q + 1) 6 rfl, kx 10 (q + 1) 7 rfl, kx 10 (q + 1) 10 rfl, xI, xE, km 75 1 q rfl, km 76 1 q rfl, km 77 1 q rfl, km 78 1 q rfl, km 81 1 q rfl, km 82 1 q rfl, km 83 1 q rfl, km 84 1 q rfl, km 40 1 9 rfl, m80, m79]
    refine ⟨a.re, a.nu, a.ta, a.tr, a.ti, a.du, a.fr, a.to, a.wo, a.gr, ?_, ?_, a.ki⟩
    · split
      · rfl
      · exact a.en
    · split
      · rfl
      · exact a.st
  · have k42 := km 40 1 42 rfl
    have k4 := km 40 1 4 rfl
    have k9 := km 40 1 9 rfl
    unfold yJ
    refine ⟨x313, fun k hk => (x13 _).trans (e2 k hk), ?_, J.so.filter _, ?_, ?_, ?_, ?_⟩
    · intro q
      rw [List.mem_filter, J.mem q, k42, m80]
      by_cases c : q = r
      · subst c
        simp
        omega
      · simp [c]
    · intro q hq
      obtain ⟨q1, q2⟩ := List.mem_filter.mp hq
      have q2 : ¬ q = r := by simpa using q2
      obtain ⟨a1, a2, a3⟩ := J.wk q q1
      rw [k82, k4, m41, if_neg]
      · exact ⟨a1, a2, a3⟩
      · intro z
        rw [z, w2] at a3
        exact q2 a3.symm
    · intro w b1 b2
      rw [x16, m41, k4, k82]
      by_cases c : w = zz_h M 82 1 r
      · rw [if_pos c, if_pos c]
        exact Or.inl ⟨rfl, rfl⟩
      · rw [if_neg c, if_neg c]
        rcases J.bu w b1 b2 with ⟨g1, g2⟩ | ⟨g1, g2, g3, g4⟩
        · exact Or.inl ⟨g1, g2⟩
        · refine Or.inr ⟨g1, g2, List.mem_filter.mpr ⟨g3, ?_⟩, g4⟩
          have : ¬ zz_h M 41 1 w = r := fun z => c (by rw [← g4, z])
          simpa using this
    · rw [k4, yw_free m41 (zz_h M 40 1 4).toNat]
      · exact J.pe.filter _
      · intro w b1 b2
        constructor
        · intro z
          rcases J.bu w b1 (by omega) with ⟨g1, g2⟩ | ⟨g1, g2, g3, g4⟩
          · omega
          · rw [← g4, z]
        · intro z
          rw [z]
          exact w2
    · intro t t1 t2
      rw [k9] at t2
      have a := J.wo t t1 t2
      simp only [k75]
      rw [yct_ne _ r aw J.so hr, x15]
      by_cases c : t = zz_h M 75 1 r
      · rw [if_pos c, if_pos (by simp [c]), ← c, a]
      · rw [if_neg c, if_neg (by simpa using fun z => c z.symm), a]
        omega
