/-! STAGE B: all dues of a task go -/
def yn_vx (k : Nat) (j : Int) : Bool := !(k == 19 || k == 20 || k == 21 || (k == 4 && j == 3) || (k == 7 && (j == 10 || j == 16)))
def yn_vm (k : Nat) (j : Int) : Bool := !(k == 85 || k == 86 || k == 87 || (k == 40 && j == 53) || k == 56)
theorem yy_filter_erase {α : Type} (p : α → Bool) : ∀ (l : List α) (i : Nat) (hi : i < l.length), p l[i] = false → (l.eraseIdx i).filter p = l.filter p
  | d :: l, 0, hi, h => by
    rw [List.eraseIdx_zero, List.tail_cons, List.filter_cons_of_neg]
    rw [List.getElem_cons_zero] at h
    simp [h]
  | d :: l, i + 1, hi, h => by
    rw [List.eraseIdx_cons_succ, List.filter_cons, List.filter_cons, yy_filter_erase p l i (by simpa using hi) (by simpa using h)]
theorem xD_removeAll_loop {t : Int} {dl : List yd} (t0 : 0 ≤ t) (hl : dl.length ≤ 100) (hd : ∀ d ∈ dl, 0 ≤ d.1 ∧ (d.2.2 = 0 ∨ d.2.2 = 1)) : ∀ (r n k : Nat) (L : List yd) (X : zz_S), k + r = dl.length → r < n → L = (dl.take k).filter (fun d => d.1 != t) → zz_h X 4 1 3 = dl.length → (∀ i (_ : i < L.length), yx1 X i L[i]) → (∀ i (_ : i < dl.length), k ≤ i → yx1 X i dl[i]) → ∃ X1 X', xD_removeAll_4 n (t + 1) L.length k X = some (0, X') ∧ yLx (dl.filter (fun d => d.1 != t)) X1 ∧ X' = zz_w X1 7 (t + 1) 16 0 ∧ yK yn_Lx X X1 ∧ yQ X X1 := by
  intro r
  induction r with
  | zero =>
    intro n k L X a b hL hc h1 h2
    obtain ⟨n, rfl⟩ : ∃ q, n = q + 1 := ⟨n - 1, by omega⟩
    rw [xD_removeAll_4, hc, if_neg (by omega), if_neg (by omega)]
    refine ⟨_, _, rfl, ?_, rfl, by (repeat (first | refine yK.w ?_ rfl | exact yK.rf)), yQ.rf.w⟩
    rw [List.take_of_length_le (by omega)] at hL
    rw [← hL]
    unfold yLx
    refine ⟨by simp [zz_h_w], fun i hi => ?_⟩
    have := h1 i hi
    unfold yx1 at this
    simpa [zz_h_w] using this
  | succ r ih =>
    intro n k L X a b hL hc h1 h2
    obtain ⟨n, rfl⟩ : ∃ q, n = q + 1 := ⟨n - 1, by omega⟩
    have hk : k < dl.length := by omega
    have lL : L.length ≤ k := by
      rw [hL]
      refine Nat.le_trans (List.length_filter_le _ _) ?_
      rw [List.length_take]
      omega
    have r1 : zz_r ((k : Int) + 1) = ((k + 1 : Nat) : Int) := by rw [yy_r (by omega) (by omega)]; omega
    have r2 : zz_r ((L.length : Int) + 1) = ((L.length + 1 : Nat) : Int) := by rw [yy_r (by omega) (by omega)]; omega
    have z1 : (0 : Int) ≤ (k : Int) := by omega
    have z2 : (k : Int) < 100 := by omega
    have z3 : (0 : Int) ≤ (L.length : Int) := by omega
    have z4 : (L.length : Int) < 100 := by omega
    obtain ⟨d0, d1⟩ := hd dl[k] (List.getElem_mem hk)
    obtain ⟨q1, q2, q3⟩ := h2 k hk (by omega)
    rw [xD_removeAll_4]
    simp only [r1, r2]
    rw [hc, if_pos (by omega), if_pos (show zz_b X 19 1 (k : Int) from ⟨z1, by rw [ya_19]; exact z2⟩), q1]
    by_cases c : dl[k].1 = t
    · rw [if_pos (by omega)]
      exact ih n (k + 1) L X (by omega) (by omega) (by
        rw [hL, ← List.take_append_getElem hk, List.filter_append, List.filter_cons_of_neg (by simp [c]), List.filter_nil, List.append_nil]) hc h1 (fun i hi hi2 => h2 i hi (by omega))
    · rw [if_neg (by omega), if_pos (show zz_b X 19 1 (k : Int) from ⟨z1, by rw [ya_19]; exact z2⟩), if_pos (show zz_b X 19 1 (L.length : Int) from ⟨z3, by rw [ya_19]; exact z4⟩), if_neg (by omega)]
      rw [if_pos (show zz_b _ 20 1 (k : Int) from ⟨z1, by rw [ya_20]; exact z2⟩), if_pos (show zz_b _ 20 1 (L.length : Int) from ⟨z3, by rw [ya_20]; exact z4⟩)]
      rw [if_pos (show zz_b _ 21 1 (k : Int) from ⟨z1, by rw [ya_21]; exact z2⟩), if_pos (show zz_b _ 21 1 (L.length : Int) from ⟨z3, by rw [ya_21]; exact z4⟩)]
      have w2 : zz_h (zz_w X 19 1 (L.length : Int) (dl[k].1 + 1)) 20 1 (k : Int) = dl[k].2.1 := q2
      rw [w2]
      have w3 : zz_h (zz_w (zz_w X 19 1 (L.length : Int) (dl[k].1 + 1)) 20 1 (L.length : Int) dl[k].2.1) 21 1 (k : Int) = dl[k].2.2 := q3
      rw [w3, if_pos d1]
      have g1 : ∀ i (_ : i < (L ++ [dl[k]]).length), yx1 (zz_w (zz_w (zz_w X 19 1 (L.length : Int) (dl[k].1 + 1)) 20 1 (L.length : Int) dl[k].2.1) 21 1 (L.length : Int) dl[k].2.2) i (L ++ [dl[k]])[i] := by
        intro i hi
        by_cases q : i < L.length
        · rw [List.getElem_append_left q]
          have := h1 i q
          have q' : ¬ (i : Int) = (L.length : Int) := by omega
          unfold yx1 at this ⊢
          simpa [zz_h_w, q', show ¬ i = L.length by omega] using this
        · have q' : i = L.length := by
            rw [List.length_append, List.length_singleton] at hi
            omega
          subst q'
          rw [List.getElem_append_right (by omega)]
          simp [yx1, zz_h_w]
      have g2 : ∀ i (_ : i < dl.length), k + 1 ≤ i → yx1 (zz_w (zz_w (zz_w X 19 1 (L.length : Int) (dl[k].1 + 1)) 20 1 (L.length : Int) dl[k].2.1) 21 1 (L.length : Int) dl[k].2.2) i dl[i] := by
        intro i hi hi2
        have := h2 i hi (by omega)
        have q' : ¬ (i : Int) = (L.length : Int) := by omega
        unfold yx1 at this ⊢
        simpa [zz_h_w, q', show ¬ i = L.length by omega] using this
      have := ih n (k + 1) (L ++ [dl[k]]) (zz_w (zz_w (zz_w X 19 1 (L.length : Int) (dl[k].1 + 1)) 20 1 (L.length : Int) dl[k].2.1) 21 1 (L.length : Int) dl[k].2.2) (by omega) (by omega) (by
        rw [hL, ← List.take_append_getElem hk, List.filter_append, List.filter_cons_of_pos (by simp [c]), List.filter_nil]) hc g1 g2
      rw [List.length_append, List.length_singleton] at this
      obtain ⟨X1, X', e1, e2, e3, e4, e5⟩ := this
      exact ⟨X1, X', e1, e2, e3, (show yK yn_Lx X _ from by (repeat (first | refine yK.w ?_ rfl | exact yK.rf))).tr e4, e5⟩
theorem m_dropDues_loop {t : Int} : ∀ (i n : Nat) (l : List yd) (M : zz_S), yLm l M → l.length ≤ 100 → (∀ d ∈ l, 0 ≤ d.1 ∧ (d.2.2 = 0 ∨ d.2.2 = 1)) → i ≤ l.length → i < n → (∀ j (_ : j < l.length), i ≤ j → l[j].1 ≠ t) → ∃ M', m_dropDues_7 n t ((i : Int) - 1) M = some (0, M') ∧ yLm (l.filter (fun d => d.1 != t)) M' ∧ yK yn_Lm M M' := by
  intro i
  induction i with
  | zero =>
    intro n l M h hl hd hi hn ha
    obtain ⟨n, rfl⟩ : ∃ q, n = q + 1 := ⟨n - 1, by omega⟩
    rw [m_dropDues_7, if_pos (by omega)]
    refine ⟨_, rfl, ?_, yK.rf⟩
    rw [List.filter_eq_self.mpr]
    · exact h
    · intro d hd'
      obtain ⟨j, hj, rfl⟩ := List.mem_iff_getElem.mp hd'
      simpa using ha j hj (by omega)
  | succ i ih =>
    intro n l M h hl hd hi hn ha
    obtain ⟨n, rfl⟩ : ∃ q, n = q + 1 := ⟨n - 1, by omega⟩
    have hk : i < l.length := by omega
    have e0 : ((i + 1 : Nat) : Int) - 1 = (i : Int) := by omega
    have r1 : zz_r ((i : Int) + (-1)) = (i : Int) - 1 := by rw [yy_r (by omega) (by omega)]; omega
    rw [m_dropDues_7, e0, if_neg (by omega), if_pos (show zz_b M 85 1 (i : Int) from ⟨by omega, by rw [ya_85]; omega⟩), (h.a i hk).1, r1]
    by_cases c : l[i].1 = t
    · rw [if_pos c]
      obtain ⟨M1, e1, e2, e3⟩ := m_takeDue_ok h hk hl hd
      rw [e1, Option.bind_some]
      have ll := List.length_eraseIdx_of_lt hk
      obtain ⟨M', f1, f2, f3⟩ := ih n (l.eraseIdx i) M1 e2 (by omega) (fun d q => hd d (List.mem_of_mem_eraseIdx q)) (by omega) (by omega) (fun j hj hj2 => by
        rw [List.getElem_eraseIdx, dif_neg (by omega)]
        exact ha (j + 1) (by omega) (by omega))
      rw [yy_filter_erase _ _ _ hk (by simp [c])] at f2
      exact ⟨M', f1, f2, e3.tr f3⟩
    · rw [if_neg c]
      exact ih n l M h hl hd (by omega) (by omega) (fun j hj hj2 => by
        by_cases q : j = i
        · subst q
          exact c
        · exact ha j hj (by omega))
theorem ydc_filter (s t : Int) (l : List yd) : ydc (fun d => d.1 == s) (l.filter (fun d => d.1 != t)) = if s = t then 0 else ydc (fun d => d.1 == s) l := by
  unfold ydc
  rw [List.countP_filter]
  split
  · rename_i c
    subst c
    rw [List.countP_eq_zero.mpr]
    · rfl
    · intro d hd
      simp
  · rename_i c
    rw [List.countP_congr]
    intro d hd
    simp
    intro z
    omega
theorem yS.leave {e : Nat} {b : Int} {aw : List Int} {dl : List yd} {X M : zz_S} (h : yS e b aw dl X M) (t s : Int) (h1 : 0 ≤ t) (h2 : t < zz_h M 40 1 9) (hs : s = 3 ∨ s = 4) :
    ∃ X' M', x_leave (t + 1) s X = some (0, X') ∧ m_dropDues t (zz_w M 56 1 t s) = some (0, M') ∧ yS e b aw (dl.filter (fun d => d.1 != t)) X' M' ∧ yK yn_vx X X' ∧ yK yn_vm M M' ∧ zz_h M' 56 1 t = s ∧ ∀ q, q ≠ t → zz_h M' 56 1 q = zz_h M 56 1 q := by
  have fu := yy_fu
  have nr := h.A.nr
  have Ll := h.L.le
  have hd : ∀ d ∈ dl, 0 ≤ d.1 ∧ (d.2.2 = 0 ∨ d.2.2 = 1) := fun d q => ⟨(h.L.t d q).1, (h.L.t d q).2.2.2⟩
  have sx : yLx dl (zz_w X 7 (t + 1) 10 s) := h.L.x.cg (by (repeat (first | refine yK.w ?_ rfl | exact yK.rf)))
  have sm : yLm dl (zz_w M 56 1 t s) := h.L.m.cg (by (repeat (first | refine yK.w ?_ rfl | exact yK.rf)))
  obtain ⟨X1, X', x1, x2, x3, x4, x5⟩ := xD_removeAll_loop h1 Ll hd dl.length zz_fu 0 [] (zz_w X 7 (t + 1) 10 s) (by omega) (by omega) (by simp) sx.le (fun i hi => absurd hi (by simp)) (fun i hi _ => sx.a i hi)
  obtain ⟨M', m1, m2, m3⟩ := m_dropDues_loop (t := t) dl.length zz_fu dl (zz_w M 56 1 t s) sm Ll hd (by omega) (by omega) (fun j hj hj2 => by omega)
  have t0 : ¬ t + 1 = 0 := by omega
  have kx : yK yn_vx X X' := by
    rw [x3]
    exact ((show yK yn_vx X (zz_w X 7 (t + 1) 10 s) from by (repeat (first | refine yK.w ?_ rfl | exact yK.rf))).tr (x4.sub (by (intro k j e; first | rfl | (simp [yk_A, yk_B, yk_C, yk_D, yk_E, yk_F, yk_G, yk_M, yk_I, yk_J, yk_L, yk_Lx, yk_Lm, yk_N, yk_U, yn_cx, yn_cm, yn_Lx, yn_Lm, yn_vx] at e ⊢; omega))))).w rfl
  have km : yK yn_vm M M' := (show yK yn_vm M (zz_w M 56 1 t s) from by (repeat (first | refine yK.w ?_ rfl | exact yK.rf))).tr (m3.sub (by (intro k j e; first | rfl | (simp [yk_A, yk_B, yk_C, yk_D, yk_E, yk_F, yk_G, yk_M, yk_I, yk_J, yk_L, yk_Lx, yk_Lm, yk_N, yk_U, yn_cx, yn_cm, yn_Lx, yn_Lm, yn_vm] at e ⊢; omega))))
  have m56 : ∀ q, zz_h M' 56 1 q = if q = t then s else zz_h M 56 1 q := by
    intro q
    rw [m3 56 1 q rfl, zz_h_w]
    by_cases c : q = t
    · rw [if_pos c, if_pos ⟨rfl, rfl, c⟩]
    · rw [if_neg c, if_neg (fun z => c z.2.2)]
  refine ⟨X', M', ?_, ?_, ?_, kx, km, by rw [m56, if_pos rfl], fun q hq => by rw [m56, if_neg hq]⟩
  · unfold x_leave xD_removeAll
    rw [if_neg t0]
    dsimp only
    rw [show xD_removeAll_4 zz_fu (t + 1) 0 0 (zz_w X 7 (t + 1) 10 s) = some (0, X') from x1]
    rfl
  · unfold m_dropDues
    rw [sm.le, yy_r (by omega) (by omega)]
    exact m1
  · have hq : yQ X X' := by
      rw [x3]
      exact x5
    (refine yS.by_ h ?_ ?_ ?_ ?_ ?_ ?_ ?_ ?_ ?_ ?_ ?_ ?_ ?_ ?_ ?_ ?_ <;> try (first | (exact km 40 1 9 rfl)| (exact km 40 1 42 rfl)| (exact km 40 1 0 rfl)| (refine yA.cg (yS.A h) (yK.sub kx ?_) (yK.sub km ?_) <;> (intro k j e; first | rfl | (simp [yk_A, yk_B, yk_C, yk_D, yk_E, yk_F, yk_G, yk_M, yk_I, yk_J, yk_L, yk_Lx, yk_Lm, yk_N, yk_U, yn_cx, yn_cm, yn_Lx, yn_Lm, yn_vx, yn_vm] at e ⊢; omega)))| (intro t h1 h2; refine yB.cg (yS.B h t h1 h2) (yK.sub kx ?_) (yK.sub km ?_) <;> (intro k j e; first | rfl | (simp [yk_A, yk_B, yk_C, yk_D, yk_E, yk_F, yk_G, yk_M, yk_I, yk_J, yk_L, yk_Lx, yk_Lm, yk_N, yk_U, yn_cx, yn_cm, yn_Lx, yn_Lm, yn_vx, yn_vm] at e ⊢; omega)))| (intro t h1 h2; refine yC.cg (yC.up (yS.C h t h1 h2) (by omega)) (yK.sub kx ?_) (yK.sub km ?_) <;> (intro k j e; first | rfl | (simp [yk_A, yk_B, yk_C, yk_D, yk_E, yk_F, yk_G, yk_M, yk_I, yk_J, yk_L, yk_Lx, yk_Lm, yk_N, yk_U, yn_cx, yn_cm, yn_Lx, yn_Lm, yn_vx, yn_vm] at e ⊢; omega)))| (intro t h1 h2; refine yD.cg (yS.D h t h1 h2) (yK.sub kx ?_) (yK.sub km ?_) <;> (intro k j e; first | rfl | (simp [yk_A, yk_B, yk_C, yk_D, yk_E, yk_F, yk_G, yk_M, yk_I, yk_J, yk_L, yk_Lx, yk_Lm, yk_N, yk_U, yn_cx, yn_cm, yn_Lx, yn_Lm, yn_vx, yn_vm] at e ⊢; omega)))| (intro t h1 h2; refine yE.cg (yS.E h t h1 h2) (yK.sub kx ?_) (yK.sub km ?_) <;> (intro k j e; first | rfl | (simp [yk_A, yk_B, yk_C, yk_D, yk_E, yk_F, yk_G, yk_M, yk_I, yk_J, yk_L, yk_Lx, yk_Lm, yk_N, yk_U, yn_cx, yn_cm, yn_Lx, yn_Lm, yn_vx, yn_vm] at e ⊢; omega)))| (intro t h1 h2; refine yF.cg (yS.F h t h1 h2) (yK.sub kx ?_) (yK.sub km ?_) <;> (intro k j e; first | rfl | (simp [yk_A, yk_B, yk_C, yk_D, yk_E, yk_F, yk_G, yk_M, yk_I, yk_J, yk_L, yk_Lx, yk_Lm, yk_N, yk_U, yn_cx, yn_cm, yn_Lx, yn_Lm, yn_vx, yn_vm] at e ⊢; omega)))| (refine yG.cg (yS.G h) (yK.sub kx ?_) (yK.sub km ?_) <;> (intro k j e; first | rfl | (simp [yk_A, yk_B, yk_C, yk_D, yk_E, yk_F, yk_G, yk_M, yk_I, yk_J, yk_L, yk_Lx, yk_Lm, yk_N, yk_U, yn_cx, yn_cm, yn_Lx, yn_Lm, yn_vx, yn_vm] at e ⊢; omega)))| (intro t h1 h2; refine yI.cg (yS.I h t h1 h2) (yK.sub kx ?_) (yK.sub km ?_) <;> (intro k j e; first | rfl | (simp [yk_A, yk_B, yk_C, yk_D, yk_E, yk_F, yk_G, yk_M, yk_I, yk_J, yk_L, yk_Lx, yk_Lm, yk_N, yk_U, yn_cx, yn_cm, yn_Lx, yn_Lm, yn_vx, yn_vm] at e ⊢; omega)))| (refine yJ.cg (yS.J h) (yK.sub kx ?_) (yK.sub km ?_) <;> (intro k j e; first | rfl | (simp [yk_A, yk_B, yk_C, yk_D, yk_E, yk_F, yk_G, yk_M, yk_I, yk_J, yk_L, yk_Lx, yk_Lm, yk_N, yk_U, yn_cx, yn_cm, yn_Lx, yn_Lm, yn_vx, yn_vm] at e ⊢; omega)))| (refine yL.cg (yS.L h) (yK.sub kx ?_) (yK.sub km ?_) <;> (intro k j e; first | rfl | (simp [yk_A, yk_B, yk_C, yk_D, yk_E, yk_F, yk_G, yk_M, yk_I, yk_J, yk_L, yk_Lx, yk_Lm, yk_N, yk_U, yn_cx, yn_cm, yn_Lx, yn_Lm, yn_vx, yn_vm] at e ⊢; omega)))| (refine yM.cg (yM.up (yS.R h) (by omega)) (yK.sub kx ?_) (yK.sub km ?_) <;> (intro k j e; first | rfl | (simp [yk_A, yk_B, yk_C, yk_D, yk_E, yk_F, yk_G, yk_M, yk_I, yk_J, yk_L, yk_Lx, yk_Lm, yk_N, yk_U, yn_cx, yn_cm, yn_Lx, yn_Lm, yn_vx, yn_vm] at e ⊢; omega)))| (refine yN.cg (yS.N h) (yK.sub kx ?_) hq <;> (intro k j e; first | rfl | (simp [yk_A, yk_B, yk_C, yk_D, yk_E, yk_F, yk_G, yk_M, yk_I, yk_J, yk_L, yk_Lx, yk_Lm, yk_N, yk_U, yn_cx, yn_cm, yn_Lx, yn_Lm, yn_vx, yn_vm] at e ⊢; omega)))| (refine yU.cg (yS.U h) (yK.sub km ?_) <;> (intro k j e; first | rfl | (simp [yk_A, yk_B, yk_C, yk_D, yk_E, yk_F, yk_G, yk_M, yk_I, yk_J, yk_L, yk_Lx, yk_Lm, yk_N, yk_U, yn_cx, yn_cm, yn_Lx, yn_Lm, yn_vx, yn_vm] at e ⊢; omega)))))
    · intro q q1 q2
      have a := h.C q q1 q2
      have c1 : zz_h X' 7 (q + 1) 10 = if q = t then s else zz_h X 7 (q + 1) 10 := by
        rw [x3, yy_slot (by decide), x4 7 (q + 1) 10 rfl, zz_h_w]
        by_cases c : q = t
        · rw [if_pos c, if_pos ⟨rfl, by omega, rfl⟩]
        · rw [if_neg c, if_neg (fun z => c (by omega))]
      unfold yC
      rw [c1, m56, kx 7 (q + 1) 11 rfl, kx 7 (q + 1) 12 rfl, kx 7 (q + 1) 13 rfl, kx 7 (q + 1) 14 rfl, kx 7 (q + 1) 17 rfl, km 57 1 q rfl, km 58 1 q rfl, km 59 1 q rfl, km 60 1 q rfl, km 61 1 q rfl]
      refine ⟨?_, ?_, a.nx, a.rs, a.fa, a.fr, a.be, a.sk⟩
      · split
        · rfl
        · exact a.st
      · split
        · omega
        · exact a.sr
    · have k9 := km 40 1 9 rfl
      unfold yL
      refine ⟨?_, m2, ?_, ?_, ?_⟩
      · rw [x3]
        exact x2.cg (by (repeat (first | refine yK.w ?_ rfl | exact yK.rf)))
      · exact Nat.le_trans (List.length_filter_le _ _) Ll
      · intro d hd'
        obtain ⟨g1, g2⟩ := List.mem_filter.mp hd'
        obtain ⟨u1, u2, u3, u4⟩ := h.L.t d g1
        rw [k9, m56, if_neg (by simpa using g2)]
        exact ⟨u1, u2, u3, u4⟩
      · intro q q1 q2
        rw [k9] at q2
        rw [ydc_filter, x3, zz_h_w]
        by_cases c : q = t
        · rw [if_pos c, if_pos ⟨rfl, by omega, rfl⟩]
        · rw [if_neg c, if_neg (fun z => c (by omega)), x4 7 (q + 1) 16 rfl, yy_slot (by decide)]
          exact h.L.wa q q1 q2
    · intro q q1 q2
      have k9 := km 40 1 9 rfl
      rw [k9] at q1
      refine (h.U q q1 q2).cg fun k e => ?_
      by_cases c : k = 56
      · subst c
        rw [m56, if_neg (by omega)]
      · exact km k 1 q (by
          simp [yk_U, yn_vm] at e ⊢
          omega)
