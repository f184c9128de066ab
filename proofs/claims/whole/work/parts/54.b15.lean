/-- a due is taken out, on both sides -/
theorem ydc_cons (p : yd → Bool) (d : yd) (l : List yd) : ydc p (d :: l) = ydc p l + (if p d then 1 else 0) := by
  unfold ydc
  rw [List.countP_cons]
  split <;> omega
theorem ydc_erase (p : yd → Bool) : ∀ (l : List yd) (i : Nat) (hi : i < l.length), ydc p (l.eraseIdx i) = ydc p l - (if p l[i] then 1 else 0)
  | d :: l, 0, hi => by
    rw [List.eraseIdx_zero, List.tail_cons, ydc_cons, List.getElem_cons_zero]
    omega
  | d :: l, i + 1, hi => by
    rw [List.eraseIdx_cons_succ, ydc_cons, ydc_cons, ydc_erase p l i (by simpa using hi), List.getElem_cons_succ]
    omega
theorem yS.remove {e : Nat} {b : Int} {aw : List Int} {dl : List yd} {X M : zz_S} (h : yS e b aw dl X M) (i : Nat) (hi : i < dl.length) :
    ∃ X' M', xD_remove i X = some (0, X') ∧ m_takeDue i M = some (0, M') ∧ yS e b aw (dl.eraseIdx i) X' M' ∧ yK (fun k j => !(k == 19 || k == 20 || k == 21 || (k == 4 && j == 3) || (k == 7 && j == 16))) X X' ∧ yK yn_Lm M M' := by
  have fu := yy_fu
  have Ll := h.L.le
  have hd : ∀ d ∈ dl, 0 ≤ d.1 ∧ (d.2.2 = 0 ∨ d.2.2 = 1) := fun d q => ⟨(h.L.t d q).1, (h.L.t d q).2.2.2⟩
  obtain ⟨t1, t2, t3, t4⟩ := h.L.t dl[i] (List.getElem_mem hi)
  obtain ⟨M', m1, m2, m3⟩ := m_takeDue_ok h.L.m hi Ll hd
  obtain ⟨a1, a2, a3⟩ := h.L.x.a i hi
  have wa := h.L.wa dl[i].1 t1 t2
  have wr := ydc_rng (fun d => d.1 == dl[i].1) dl
  have r1 : zz_r (zz_h X 7 (dl[i].1 + 1) 16 - 1) = zz_h X 7 (dl[i].1 + 1) 16 - 1 := yy_r (by omega) (by omega)
  have le := h.L.x.le
  have s0 : yLx dl (zz_w X 7 (dl[i].1 + 1) 16 (zz_h X 7 (dl[i].1 + 1) 16 - 1)) := h.L.x.cg (by (repeat (first | refine yK.w ?_ rfl | exact yK.rf)))
  obtain ⟨X', x1, x2, x3, x4⟩ := xD_remove_loop hi Ll hd (dl.length - 1 - i) zz_fu (i + 1) (zz_w X 7 (dl[i].1 + 1) 16 (zz_h X 7 (dl[i].1 + 1) 16 - 1)) (by omega) (by omega) (by omega) s0.le (fun j hj hj2 => by
    rw [if_pos (show j < i by omega)]
    exact s0.a j hj) (fun j hj hj2 => s0.a j hj)
  refine ⟨X', M', ?_, m1, ?_, (show yK _ X _ from by (repeat (first | refine yK.w ?_ rfl | exact yK.rf))).tr (x3.sub (by intro k j e; simp [yn_Lx] at e ⊢; omega)), m3⟩
  · unfold xD_remove
    rw [le, yy_r (by omega) (by omega), x_isWithin_ok, Option.bind_some]
    dsimp only
    rw [if_pos (show (0 : Int) ≤ i ∧ (i : Int) ≤ dl.length - 1 by omega), if_neg (by decide), if_pos (show zz_b X 19 1 (i : Int) from ⟨by omega, by rw [ya_19]; omega⟩), a1, if_neg (by omega), if_neg (by omega), if_neg (by omega), r1, yy_r (by omega) (by omega)]
    exact x1
  · have k9 := m3 40 1 9 rfl
    have k56 : ∀ q, zz_h M' 56 1 q = zz_h M 56 1 q := fun q => m3 56 1 q rfl
    have hx : yK (fun k j => !(k == 19 || k == 20 || k == 21 || (k == 4 && j == 3) || (k == 7 && j == 16))) X X' := (show yK _ X _ from by (repeat (first | refine yK.w ?_ rfl | exact yK.rf))).tr (x3.sub (by intro k j e; simp [yn_Lx] at e ⊢; omega))
    refine yS.by_ h (h.A.cg (hx.sub ?_) (m3.sub ?_)) k9 (m3 40 1 42 rfl) (m3 40 1 0 rfl) (fun t p q => (h.B t p q).cg (hx.sub ?_) (m3.sub ?_)) (fun t p q => (h.C t p q).cg (hx.sub ?_) (m3.sub ?_)) (fun t p q => (h.D t p q).cg (hx.sub ?_) (m3.sub ?_)) (fun t p q => (h.E t p q).cg (hx.sub ?_) (m3.sub ?_)) (fun t p q => (h.F t p q).cg (hx.sub ?_) (m3.sub ?_)) (h.G.cg (hx.sub ?_) (m3.sub ?_)) (fun t p q => (h.I t p q).cg (hx.sub ?_) (m3.sub ?_)) (h.J.cg (hx.sub ?_) (m3.sub ?_)) ?_ (h.R.cg (hx.sub ?_) (m3.sub ?_)) (h.N.cg (hx.sub ?_) (yQ.rf.w.tr x4)) (h.U.cg (m3.sub ?_))
    all_goals try (intro k j e; simp [yk_A, yk_B, yk_C, yk_D, yk_E, yk_F, yk_G, yk_M, yk_I, yk_J, yk_N, yk_U, yn_Lm] at e ⊢; omega)
    unfold yL
    refine ⟨x2, m2, by rw [List.length_eraseIdx_of_lt hi]; omega, fun d hd => ?_, fun t p q => ?_⟩
    · rw [k9, k56]
      exact h.L.t d (List.mem_of_mem_eraseIdx hd)
    · rw [k9] at q
      have w := h.L.wa t p q
      rw [ydc_erase _ _ _ hi, x3 7 (t + 1) 16 rfl, zz_h_w]
      by_cases c : t = dl[i].1
      · subst c
        simp
        omega
      · rw [if_neg (by omega), w]
        have : ¬ dl[i].1 = t := fun z => c z.symm
        simp [this]
