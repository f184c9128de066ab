/-! STAGE B: a run begins -/
theorem xD_remove_ok {dl : List yd} {X : zz_S} (hx : yLx dl X) (hl : dl.length ≤ 100) (hd : ∀ d ∈ dl, 0 ≤ d.1 ∧ (d.2.2 = 0 ∨ d.2.2 = 1)) (i : Nat) (hi : i < dl.length) (hw : 1 ≤ zz_h X 7 (dl[i].1 + 1) 16 ∧ zz_h X 7 (dl[i].1 + 1) 16 ≤ 100) :
    ∃ X', xD_remove i X = some (0, X') ∧ yLx (dl.eraseIdx i) X' ∧ yK (fun k j => !(k == 19 || k == 20 || k == 21 || (k == 4 && j == 3) || (k == 7 && j == 16))) X X' ∧ yQ X X' ∧ ∀ q, zz_h X' 7 q 16 = if q = dl[i].1 + 1 then zz_h X 7 q 16 - 1 else zz_h X 7 q 16 := by
  have fu := yy_fu
  have d0 := (hd dl[i] (List.getElem_mem hi)).1
  obtain ⟨a1, a2, a3⟩ := hx.a i hi
  have r1 : zz_r (zz_h X 7 (dl[i].1 + 1) 16 - 1) = zz_h X 7 (dl[i].1 + 1) 16 - 1 := yy_r (by omega) (by omega)
  have le := hx.le
  have s0 : yLx dl (zz_w X 7 (dl[i].1 + 1) 16 (zz_h X 7 (dl[i].1 + 1) 16 - 1)) := hx.cg (by (repeat (first | refine yK.w ?_ rfl | exact yK.rf)))
  obtain ⟨X', x1, x2, x3, x4⟩ := xD_remove_loop hi hl hd (dl.length - 1 - i) zz_fu (i + 1) (zz_w X 7 (dl[i].1 + 1) 16 (zz_h X 7 (dl[i].1 + 1) 16 - 1)) (by omega) (by omega) (by omega) s0.le (fun j hj hj2 => by
    rw [if_pos (show j < i by omega)]
    exact s0.a j hj) (fun j hj hj2 => s0.a j hj)
  refine ⟨X', ?_, x2, (show yK _ X _ from by (repeat (first | refine yK.w ?_ rfl | exact yK.rf))).tr (x3.sub (by intro k j e; simp [yn_Lx] at e ⊢; omega)), yQ.rf.w.tr x4, fun q => ?_⟩
  · unfold xD_remove
    rw [le, yy_r (by omega) (by omega), x_isWithin_ok, Option.bind_some]
    dsimp only
    rw [if_pos (show (0 : Int) ≤ i ∧ (i : Int) ≤ dl.length - 1 by omega), if_neg (by decide), if_pos (show zz_b X 19 1 (i : Int) from ⟨by omega, by rw [ya_19]; omega⟩), a1, if_neg (by omega), if_neg (by omega), if_neg (by omega), r1, yy_r (by omega) (by omega)]
    exact x1
  · rw [x3 7 q 16 rfl, zz_h_w]
    by_cases c : q = dl[i].1 + 1
    · rw [if_pos c, if_pos ⟨rfl, c, rfl⟩, c]
    · rw [if_neg c, if_neg (fun z => c z.2.1)]
/-- worker w gets run r -/
theorem yw_put {M M' : zz_S} {w0 r : Int} (hr : r ≠ -1) (w1 : 0 ≤ w0) (h0 : zz_h M 41 1 w0 = -1) (h1 : ∀ w : Int, zz_h M' 41 1 w = if w = w0 then r else zz_h M 41 1 w) : ∀ n : Nat, (yw M' n).Perm (if w0 < n then r :: yw M n else yw M n)
  | 0 => by
    rw [if_neg (by omega)]
    exact List.Perm.refl _
  | n + 1 => by
    have ih := yw_put hr w1 h0 h1 n
    rw [yw, yw, h1]
    by_cases c : (n : Int) = w0
    · rw [if_pos c, if_neg hr, if_pos (show w0 < ((n + 1 : Nat) : Int) by omega), c, h0, if_pos rfl]
      rw [if_neg (by omega)] at ih
      exact ih.cons r
    · rw [if_neg c]
      by_cases d : w0 < ((n + 1 : Nat) : Int)
      · rw [if_pos d]
        rw [if_pos (by omega)] at ih
        split
        · exact ih
        · exact (ih.cons _).trans (List.Perm.swap _ _ _)
      · rw [if_neg d]
        rw [if_neg (by omega)] at ih
        split
        · exact ih
        · exact ih.cons _
def yn_gx (k : Nat) (j : Int) : Bool := !(k == 10 || k == 12 || k == 13 || (k == 3 && (j == 12 || j == 13)) || k == 16 || (k == 7 && (j == 14 || j == 15 || j == 16)) || k == 19 || k == 20 || k == 21 || (k == 4 && j == 3))
def yn_gm (k : Nat) (j : Int) : Bool := !(k == 41 || k == 61 || (75 ≤ k && k ≤ 87) || (k == 40 && (j == 42 || j == 53)))
/-- the object of a new run -/
theorem xR_new_ok {t r du now w lg gp tm : Int} {s : zz_S} (t0 : 0 ≤ t) (hm : zz_m s 10 + 1 = r + 1) (h14 : zz_h s 7 (t + 1) 14 = tm) (h0 : zz_h s 28 (t + 1) 0 = lg) (h2 : zz_h s 28 (t + 1) 2 = gp) :
    ∃ s', xR_new (r + 1) r (t + 1) du now w s = some (0, s') ∧ (∀ k i j, (k ≠ 10 ∨ i ≠ r + 1) → zz_h s' k i j = zz_h s k i j) ∧ (∀ k, zz_c s' k = zz_c s k) ∧ (∀ k, zz_m s' k = if k = 10 then zz_m s 10 + 1 else zz_m s k) ∧ zz_h s' 10 (r + 1) 0 = r ∧ zz_h s' 10 (r + 1) 1 = t + 1 ∧ zz_h s' 10 (r + 1) 2 = tm ∧ zz_h s' 10 (r + 1) 3 = du ∧ zz_h s' 10 (r + 1) 4 = now ∧ zz_h s' 10 (r + 1) 5 = zz_r (now + lg) ∧ zz_h s' 10 (r + 1) 6 = w ∧ zz_h s' 10 (r + 1) 7 = gp ∧ zz_h s' 10 (r + 1) 8 = -1 ∧ zz_h s' 10 (r + 1) 9 = 0 ∧ zz_h s' 10 (r + 1) 10 = -1 := by
  have a1 : ¬ t + 1 = 0 := by omega
  unfold xR_new
  simp only [a1, if_false, zz_b, ya_11, ya_12, ya_13, ya_14, ya_15, ya_16, ya_17, ya_18, ya_19, ya_20, ya_21, ya_22, ya_23, ya_24, ya_25, ya_26, ya_27, ya_28, ya_29, ya_30, ya_41, ya_42, ya_43, ya_44, ya_45, ya_46, ya_47, ya_48, ya_49, ya_50, ya_51, ya_52, ya_53, ya_54, ya_55, ya_56, ya_57, ya_58, ya_59, ya_60, ya_61, ya_62, ya_63, ya_64, ya_65, ya_66, ya_67, ya_68, ya_69, ya_70, ya_71, ya_72, ya_73, ya_74, ya_75, ya_76, ya_77, ya_78, ya_79, ya_80, ya_81, ya_82, ya_83, ya_84, ya_85, ya_86, ya_87, ya_88, ya_89, ya_90, ya_91, Int.reduceLE, Int.reduceLT, and_self, if_true]
  have e1 : ∀ s1 : zz_S, zz_ow s1 10 (r + 1) (zz_own 10) = true := fun _ => rfl
  simp only [e1, true_and, zz_m_w, hm, if_true]
  refine ⟨_, rfl, ?_, ?_, ?_, ?_⟩
  · intro k i j h
    simp only [zz_h_f, zz_h_w]
    have : ∀ x : Int, ¬ (k = 10 ∧ i = r + 1 ∧ j = x) := fun x z => by omega
    simp only [this, if_false]
  · intro k
    rfl
  · intro k
    simp only [zz_m_f, zz_m_w, hm]
  · simp [zz_h_f, zz_h_w, h14, h0, h2]
theorem yS.begin1 {e : Nat} {b : Int} {aw : List Int} {dl : List yd} {X M : zz_S} (h : yS e b aw dl X M) (d : Nat) (hd : d < dl.length) (w : Int) (w0 : 0 ≤ w) (w1 : w < zz_h M 40 1 4) (w2 : zz_h M 41 1 w = -1) (hl : (aw.length : Int) < zz_h M 40 1 4) (hr : zz_h M 40 1 42 < 2000) (n : Nat) :
    ∃ X' M', x_beginRun d w X = some (0, X') ∧ m_begins_90 (n + 1) (zz_h M 40 1 0) d dl[d].1 w M = some (1, M') ∧ yS e b (aw ++ [zz_h M 40 1 42]) (dl.eraseIdx d) X' M' ∧ yK yn_gx X X' ∧ yK yn_gm M M' ∧ zz_h M' 40 1 42 = zz_h M 40 1 42 + 1 := by
  have nr := h.A.nr
  have wr := h.A.wr
  have rr := h.A.rr
  have Ll := h.L.le
  have J := h.J
  have N := h.N
  have hdd : ∀ q ∈ dl, 0 ≤ q.1 ∧ (q.2.2 = 0 ∨ q.2.2 = 1) := fun q z => ⟨(h.L.t q z).1, (h.L.t q z).2.2.2⟩
  obtain ⟨t1, t2, t3, t4⟩ := h.L.t dl[d] (List.getElem_mem hd)
  obtain ⟨x1, x2, x3⟩ := h.L.x.a d hd
  obtain ⟨m1, m2, m3⟩ := h.L.m.a d hd
  have B := h.B dl[d].1 t1 t2
  have C := h.C dl[d].1 t1 t2
  have wa := h.L.wa dl[d].1 t1 t2
  have wo := J.wo dl[d].1 t1 t2
  have wc : 1 ≤ ydc (fun q => q.1 == dl[d].1) dl := by
    have : 0 < dl.countP (fun q => q.1 == dl[d].1) := List.countP_pos_iff.mpr ⟨dl[d], List.getElem_mem hd, by simp⟩
    unfold ydc
    omega
  have wc2 := (ydc_rng (fun q => q.1 == dl[d].1) dl).2
  have yc : 0 ≤ yct (fun q => zz_h M 75 1 q == dl[d].1) aw ∧ yct (fun q => zz_h M 75 1 q == dl[d].1) aw ≤ aw.length := by
    unfold yct
    have := List.countP_le_length (p := fun q => zz_h M 75 1 q == dl[d].1) (l := aw)
    omega
  generalize ht : dl[d].1 = t at *
  generalize hdu : dl[d].2.1 = du at *
  generalize hrr : zz_h M 40 1 42 = r at *
  have a1 : ¬ t + 1 = 0 := by omega
  have a2 : ¬ r + 1 = 0 := by omega
  have t60 : t < 60 := by omega
  have l8 : (aw.length : Int) < 8 := by omega
  have z15 : zz_r (zz_h X 7 (t + 1) 15 + 1) = zz_h X 7 (t + 1) 15 + 1 := yy_r (by omega) (by omega)
  have hAr : zz_h X 3 1 12 = r := h.A.r.trans hrr
  have hc : zz_c X 10 = r := N.c10.1.trans hAr
  have hm : zz_m X 10 = r := N.c10.2.trans hAr
  obtain ⟨s3, hs3⟩ : ∃ s3, s3 = zz_n (zz_w (zz_w X 7 (t + 1) 14 (zz_r (zz_h M 61 1 t + 1))) 7 (t + 1) 15 (zz_h X 7 (t + 1) 15 + 1)) 10 0 11 := ⟨_, rfl⟩
  have k3 : ∀ k i j, (k ≠ 10 ∨ i ≠ r + 1) → ¬ (k = 7 ∧ i = t + 1 ∧ (j = 14 ∨ j = 15)) → zz_h s3 k i j = zz_h X k i j := by
    intro k i j c1 c2
    rw [hs3, zz_h_n, zz_h_w, zz_h_w]
    have : zz_c (zz_w (zz_w X 7 (t + 1) 14 (zz_r (zz_h M 61 1 t + 1))) 7 (t + 1) 15 (zz_h X 7 (t + 1) 15 + 1)) 10 = r := hc
    rw [this, if_neg (by omega), if_neg (by omega), if_neg (by omega)]
  have k314 : zz_h s3 7 (t + 1) 14 = zz_r (zz_h M 61 1 t + 1) := by
    rw [hs3]
    simp [zz_h_n, zz_h_w]
  have k315 : zz_h s3 7 (t + 1) 15 = zz_h X 7 (t + 1) 15 + 1 := by
    rw [hs3]
    simp [zz_h_n, zz_h_w]
  have m3 : ∀ k, zz_m s3 k = zz_m X k := by
    intro k
    rw [hs3, zz_m_n]
    by_cases c : k = 10
    · rw [if_pos c, c, Int.add_zero]
      rfl
    · rw [if_neg c]
      rfl
  have c3 : ∀ k, zz_c s3 k = if k = 10 then r + 1 else zz_c X k := by
    intro k
    rw [hs3, zz_c_n]
    by_cases c : k = 10
    · rw [if_pos c, if_pos c, ← hc]
      rfl
    · rw [if_neg c, if_neg c]
      rfl
  obtain ⟨s4, e4, k4, c4, m4, f0, f1, f2, f3, f4, f5, f6, f7, f8, f9, f10⟩ := xR_new_ok (du := du) (now := zz_h M 40 1 0) (w := w) (r := r) (s := s3) t1 (by rw [m3, hm]) k314 ((k3 28 _ 0 (by omega) (by omega)).trans B.t0) ((k3 28 _ 2 (by omega) (by omega)).trans B.t2)
  have k34 : ∀ k i j, (k ≠ 10 ∨ i ≠ r + 1) → ¬ (k = 7 ∧ i = t + 1 ∧ (j = 14 ∨ j = 15)) → zz_h s4 k i j = zz_h X k i j := fun k i j p q => (k4 k i j p).trans (k3 k i j p q)
  have hx4 : yLx dl s4 := by
    unfold yLx
    refine ⟨(k34 4 1 3 (by omega) (by omega)).trans h.L.x.le, fun k hk => ?_⟩
    rw [k34 19 1 _ (by omega) (by omega), k34 20 1 _ (by omega) (by omega), k34 21 1 _ (by omega) (by omega)]
    exact h.L.x.a k hk
  have k416 : ∀ q, zz_h s4 7 q 16 = zz_h X 7 q 16 := fun q => k34 7 q 16 (by omega) (by omega)
  obtain ⟨s5, e5, L5, k5, q5, w5⟩ := xD_remove_ok hx4 Ll hdd d hd (by rw [ht, k416, wa]; omega)
  rw [ht] at w5
  have g312 : zz_h s5 3 1 12 = r := (k5 3 1 12 rfl).trans ((k34 3 1 12 (by omega) (by omega)).trans hAr)
  have g313 : zz_h s5 3 1 13 = aw.length := (k5 3 1 13 rfl).trans ((k34 3 1 13 (by omega) (by omega)).trans J.le)
  obtain ⟨X', hX'⟩ : ∃ X', X' = zz_w (zz_w (zz_w (zz_w (zz_w s5 12 1 r (r + 1)) 3 1 12 (r + 1)) 13 1 aw.length (r + 1)) 3 1 13 (aw.length + 1)) 16 1 w 1 := ⟨_, rfl⟩
  have EX : x_beginRun d w X = some (0, X') := by
    unfold x_beginRun
    rw [if_pos (show zz_b X 19 1 (d : Int) from ⟨by omega, by rw [ya_19]; omega⟩), x1]
    simp only [a1, if_false]
    rw [J.le, if_pos l8, hAr, if_pos hr, C.be, show zz_h (zz_w X 7 (t + 1) 14 (zz_r (zz_h M 61 1 t + 1))) 7 (t + 1) 15 = zz_h X 7 (t + 1) 15 from yy_slot (by decide), z15, ← hs3, show zz_c (zz_w (zz_w X 7 (t + 1) 14 (zz_r (zz_h M 61 1 t + 1))) 7 (t + 1) 15 (zz_h X 7 (t + 1) 15 + 1)) 10 = r from hc, if_pos (show zz_b s3 20 1 (d : Int) from ⟨by omega, by rw [ya_20]; omega⟩), (k3 3 1 12 (by omega) (by omega)).trans hAr, (k3 20 1 (d : Int) (by omega) (by omega)).trans x2, (k3 3 1 16 (by omega) (by omega)).trans h.A.t, e4, Option.bind_some]
    dsimp only
    rw [c4, c3, if_pos rfl, m4, if_pos rfl, m3, hm, if_pos rfl, e5, Option.bind_some]
    dsimp only
    rw [g312, if_pos (show zz_b s5 12 1 r from ⟨by omega, by rw [ya_12]; omega⟩), if_neg a2, show zz_h (zz_w s5 12 1 r (r + 1)) 3 1 12 = r from g312, yy_r (z := r + 1) (by omega) (by omega), show zz_h (zz_w (zz_w s5 12 1 r (r + 1)) 3 1 12 (r + 1)) 3 1 13 = aw.length from (yy_slot (by decide)).trans g313, if_pos (show zz_b (zz_w (zz_w s5 12 1 r (r + 1)) 3 1 12 (r + 1)) 13 1 (aw.length : Int) from ⟨by omega, by rw [ya_13]; omega⟩), if_neg a2, show zz_h (zz_w (zz_w (zz_w s5 12 1 r (r + 1)) 3 1 12 (r + 1)) 13 1 aw.length (r + 1)) 3 1 13 = aw.length from (yy_kind (by decide)).trans ((yy_slot (by decide)).trans g313), yy_r (z := (aw.length : Int) + 1) (by omega) (by omega), if_pos (show zz_b _ 16 1 w from ⟨w0, by rw [ya_16]; omega⟩), hX']
  obtain ⟨s13, hs13⟩ : ∃ s13, s13 = zz_w (zz_w (zz_w (zz_w (zz_w (zz_w (zz_w (zz_w (zz_w (zz_w (zz_w (zz_w (zz_w M 40 1 42 (r + 1)) 61 1 t (zz_r (zz_h M 61 1 t + 1))) 75 1 r t) 76 1 r du) 77 1 r (zz_h M 40 1 0)) 78 1 r (zz_r (zz_h M 40 1 0 + zz_h M 47 1 t))) 79 1 r (-1)) 80 1 r 0) 81 1 r (-1)) 82 1 r w) 83 1 r (zz_h M 49 1 t)) 84 1 r (zz_r (zz_h M 61 1 t + 1))) 41 1 w r := ⟨_, rfl⟩
  have hm13 : yLm dl s13 := by
    rw [hs13]
    exact h.L.m.cg (by (repeat (first | refine yK.w ?_ rfl | exact yK.rf)))
  obtain ⟨M', e13, L13, k13⟩ := m_takeDue_ok hm13 hd Ll hdd
  have EM : m_begins_90 (n + 1) (zz_h M 40 1 0) d t w M = some (1, M') := by
    have r0 : 0 ≤ r := rr.1
    have w8 : w < 8 := by omega
    have d0 : (0 : Int) ≤ (d : Int) := by omega
    have d100 : (d : Int) < 100 := by omega
    have zr : zz_r (r + 1) = r + 1 := yy_r (by omega) (by omega)
    rw [m_begins_90]
    simp only [zz_b, ya_11, ya_12, ya_13, ya_14, ya_15, ya_16, ya_17, ya_18, ya_19, ya_20, ya_21, ya_22, ya_23, ya_24, ya_25, ya_26, ya_27, ya_28, ya_29, ya_30, ya_41, ya_42, ya_43, ya_44, ya_45, ya_46, ya_47, ya_48, ya_49, ya_50, ya_51, ya_52, ya_53, ya_54, ya_55, ya_56, ya_57, ya_58, ya_59, ya_60, ya_61, ya_62, ya_63, ya_64, ya_65, ya_66, ya_67, ya_68, ya_69, ya_70, ya_71, ya_72, ya_73, ya_74, ya_75, ya_76, ya_77, ya_78, ya_79, ya_80, ya_81, ya_82, ya_83, ya_84, ya_85, ya_86, ya_87, ya_88, ya_89, ya_90, ya_91, w0, w8, and_self, if_true, w2, hrr, t1, t60, r0, hr, d0, d100, zr]
    have u1 : zz_h (zz_w M 40 1 42 (r + 1)) 61 1 t = zz_h M 61 1 t := rfl
    rw [u1]
    have u2 : zz_h (zz_w (zz_w (zz_w M 40 1 42 (r + 1)) 61 1 t (zz_r (zz_h M 61 1 t + 1))) 75 1 r t) 86 1 (d : Int) = du := m2
    rw [u2]
    have u3 : zz_h (zz_w (zz_w (zz_w (zz_w (zz_w M 40 1 42 (r + 1)) 61 1 t (zz_r (zz_h M 61 1 t + 1))) 75 1 r t) 76 1 r du) 77 1 r (zz_h M 40 1 0)) 47 1 t = zz_h M 47 1 t := rfl
    rw [u3]
    have u4 : ∀ v, zz_h (zz_w (zz_w (zz_w (zz_w (zz_w (zz_w (zz_w (zz_w (zz_w (zz_w M 40 1 42 (r + 1)) 61 1 t (zz_r (zz_h M 61 1 t + 1))) 75 1 r t) 76 1 r du) 77 1 r (zz_h M 40 1 0)) 78 1 r v) 79 1 r (-1)) 80 1 r 0) 81 1 r (-1)) 82 1 r w) 49 1 t = zz_h M 49 1 t := fun v => rfl
    rw [u4]
    have u5 : ∀ v, zz_h (zz_w (zz_w (zz_w (zz_w (zz_w (zz_w (zz_w (zz_w (zz_w (zz_w (zz_w M 40 1 42 (r + 1)) 61 1 t (zz_r (zz_h M 61 1 t + 1))) 75 1 r t) 76 1 r du) 77 1 r (zz_h M 40 1 0)) 78 1 r v) 79 1 r (-1)) 80 1 r 0) 81 1 r (-1)) 82 1 r w) 83 1 r (zz_h M 49 1 t)) 61 1 t = zz_r (zz_h M 61 1 t + 1) := by
      intro v
      simp [zz_h_w]
    rw [u5, ← hs13, e13, Option.bind_some]
  have kx : yK yn_gx X X' := by
    refine yK.tr (t := s4) (fun k i j e => ?_) ((k5.sub (by (intro k j e; first | rfl | (simp [yk_A, yk_B, yk_C, yk_D, yk_E, yk_F, yk_G, yk_M, yk_I, yk_J, yk_L, yk_Lx, yk_Lm, yk_N, yk_U, yn_cx, yn_cm, yn_Lx, yn_Lm, yn_gx] at e ⊢; omega)))).tr (by rw [hX']; (repeat (first | refine yK.w ?_ rfl | exact yK.rf))))
    exact k34 k i j (by simp [yn_gx] at e; omega) (by simp [yn_gx] at e; omega)
  have km : yK yn_gm M M' := (show yK yn_gm M s13 from by rw [hs13]; (repeat (first | refine yK.w ?_ rfl | exact yK.rf))).tr (k13.sub (by (intro k j e; first | rfl | (simp [yk_A, yk_B, yk_C, yk_D, yk_E, yk_F, yk_G, yk_M, yk_I, yk_J, yk_L, yk_Lx, yk_Lm, yk_N, yk_U, yn_cx, yn_cm, yn_Lx, yn_Lm, yn_gm] at e ⊢; omega))))
  have n9 : zz_h M' 40 1 9 = zz_h M 40 1 9 := km 40 1 9 rfl
  have n0 : zz_h M' 40 1 0 = zz_h M 40 1 0 := km 40 1 0 rfl
  have n4 : zz_h M' 40 1 4 = zz_h M 40 1 4 := km 40 1 4 rfl
  have n42 : zz_h M' 40 1 42 = r + 1 := by
    rw [k13 40 1 42 rfl, hs13]
    simp [zz_h_w]
  have k5X : ∀ k i j, (k ≠ 10 ∨ i ≠ r + 1) → ¬ (k = 7 ∧ i = t + 1 ∧ (j = 14 ∨ j = 15)) → ¬ (k = 19 ∨ k = 20 ∨ k = 21 ∨ (k = 4 ∧ j = 3) ∨ (k = 7 ∧ j = 16)) → zz_h s5 k i j = zz_h X k i j := fun k i j p q z => (k5 k i j (by simp; omega)).trans (k34 k i j p q)
  have x10 : ∀ q j, q ≠ r → zz_h X' 10 (q + 1) j = zz_h X 10 (q + 1) j := by
    intro q j hq
    rw [hX', yy_kind (by decide), yy_kind (by decide), yy_kind (by decide), yy_kind (by decide), yy_kind (by decide)]
    exact k5X 10 (q + 1) j (by omega) (by omega) (by omega)
  have x10r : ∀ j, zz_h X' 10 (r + 1) j = zz_h s4 10 (r + 1) j := by
    intro j
    rw [hX', yy_kind (by decide), yy_kind (by decide), yy_kind (by decide), yy_kind (by decide), yy_kind (by decide)]
    exact k5 10 (r + 1) j rfl
  have x12 : ∀ q, zz_h X' 12 1 q = if q = r then r + 1 else zz_h X 12 1 q := by
    intro q
    rw [hX', yy_kind (by decide), yy_kind (by decide), yy_kind (by decide), yy_kind (by decide)]
    by_cases c : q = r
    · rw [if_pos c, c, yy_same]
    · rw [if_neg c, yy_slot c]
      exact k5X 12 1 q (by omega) (by omega) (by omega)
  have x13 : ∀ q, zz_h X' 13 1 q = if q = aw.length then r + 1 else zz_h X 13 1 q := by
    intro q
    rw [hX', yy_kind (by decide), yy_kind (by decide)]
    by_cases c : q = aw.length
    · rw [if_pos c, c, yy_same]
    · rw [if_neg c, yy_slot c, yy_kind (by decide), yy_kind (by decide)]
      exact k5X 13 1 q (by omega) (by omega) (by omega)
  have x16 : ∀ q, zz_h X' 16 1 q = if q = w then 1 else zz_h X 16 1 q := by
    intro q
    rw [hX']
    by_cases c : q = w
    · rw [if_pos c, c, yy_same]
    · rw [if_neg c, yy_slot c, yy_kind (by decide), yy_kind (by decide), yy_kind (by decide), yy_kind (by decide)]
      exact k5X 16 1 q (by omega) (by omega) (by omega)
  have x7 : ∀ q j, zz_h X' 7 q j = zz_h s5 7 q j := by
    intro q j
    rw [hX', yy_kind (by decide), yy_kind (by decide), yy_kind (by decide), yy_kind (by decide), yy_kind (by decide)]
  have x14 : ∀ q, zz_h X' 7 (q + 1) 14 = if q = t then zz_r (zz_h M 61 1 t + 1) else zz_h X 7 (q + 1) 14 := by
    intro q
    rw [x7]
    by_cases c : q = t
    · rw [if_pos c, c, k5 7 (t + 1) 14 rfl, k4 7 (t + 1) 14 (by omega), k314]
    · rw [if_neg c]
      exact k5X 7 (q + 1) 14 (by omega) (by omega) (by omega)
  have x15 : ∀ q, zz_h X' 7 (q + 1) 15 = if q = t then zz_h X 7 (t + 1) 15 + 1 else zz_h X 7 (q + 1) 15 := by
    intro q
    rw [x7]
    by_cases c : q = t
    · rw [if_pos c, c, k5 7 (t + 1) 15 rfl, k4 7 (t + 1) 15 (by omega), k315]
    · rw [if_neg c]
      exact k5X 7 (q + 1) 15 (by omega) (by omega) (by omega)
  have x716 : ∀ q, zz_h X' 7 (q + 1) 16 = if q = t then zz_h X 7 (q + 1) 16 - 1 else zz_h X 7 (q + 1) 16 := by
    intro q
    rw [x7, w5, k416]
    by_cases c : q = t
    · rw [if_pos c, if_pos (by omega)]
    · rw [if_neg c, if_neg (by omega)]
  have x312 : zz_h X' 3 1 12 = r + 1 := by
    rw [hX', yy_kind (by decide), yy_slot (by decide), yy_kind (by decide), yy_same]
  have x313 : zz_h X' 3 1 13 = aw.length + 1 := by
    rw [hX', yy_kind (by decide), yy_same]
  have xc : ∀ k, zz_c X' k = if k = 10 then r + 1 else zz_c X k := by
    intro k
    rw [hX', zz_c_w, zz_c_w, zz_c_w, zz_c_w, zz_c_w, (q5 k).1, c4, c3]
  have xm : ∀ k, zz_m X' k = if k = 10 then r + 1 else zz_m X k := by
    intro k
    rw [hX', zz_m_w, zz_m_w, zz_m_w, zz_m_w, zz_m_w, (q5 k).2, m4, m3, m3, hm]
  have m75 : ∀ q, zz_h M' 75 1 q = if q = r then t else zz_h M 75 1 q := by
    intro q
    rw [k13 75 1 q rfl, hs13]
    by_cases c : q = r <;> simp [zz_h_w, c]
  have m76 : ∀ q, zz_h M' 76 1 q = if q = r then du else zz_h M 76 1 q := by
    intro q
    rw [k13 76 1 q rfl, hs13]
    by_cases c : q = r <;> simp [zz_h_w, c]
  have m77 : ∀ q, zz_h M' 77 1 q = if q = r then zz_h M 40 1 0 else zz_h M 77 1 q := by
    intro q
    rw [k13 77 1 q rfl, hs13]
    by_cases c : q = r <;> simp [zz_h_w, c]
  have m78 : ∀ q, zz_h M' 78 1 q = if q = r then zz_r (zz_h M 40 1 0 + zz_h M 47 1 t) else zz_h M 78 1 q := by
    intro q
    rw [k13 78 1 q rfl, hs13]
    by_cases c : q = r <;> simp [zz_h_w, c]
  have m79 : ∀ q, zz_h M' 79 1 q = if q = r then -1 else zz_h M 79 1 q := by
    intro q
    rw [k13 79 1 q rfl, hs13]
    by_cases c : q = r <;> simp [zz_h_w, c]
  have m80 : ∀ q, zz_h M' 80 1 q = if q = r then 0 else zz_h M 80 1 q := by
    intro q
    rw [k13 80 1 q rfl, hs13]
    by_cases c : q = r <;> simp [zz_h_w, c]
  have m81 : ∀ q, zz_h M' 81 1 q = if q = r then -1 else zz_h M 81 1 q := by
    intro q
    rw [k13 81 1 q rfl, hs13]
    by_cases c : q = r <;> simp [zz_h_w, c]
  have m82 : ∀ q, zz_h M' 82 1 q = if q = r then w else zz_h M 82 1 q := by
    intro q
    rw [k13 82 1 q rfl, hs13]
    by_cases c : q = r <;> simp [zz_h_w, c]
  have m83 : ∀ q, zz_h M' 83 1 q = if q = r then zz_h M 49 1 t else zz_h M 83 1 q := by
    intro q
    rw [k13 83 1 q rfl, hs13]
    by_cases c : q = r <;> simp [zz_h_w, c]
  have m84 : ∀ q, zz_h M' 84 1 q = if q = r then zz_r (zz_h M 61 1 t + 1) else zz_h M 84 1 q := by
    intro q
    rw [k13 84 1 q rfl, hs13]
    by_cases c : q = r <;> simp [zz_h_w, c]
  have m41 : ∀ q, zz_h M' 41 1 q = if q = w then r else zz_h M 41 1 q := by
    intro q
    rw [k13 41 1 q rfl, hs13]
    by_cases c : q = w <;> simp [zz_h_w, c]
  have m61 : ∀ q, zz_h M' 61 1 q = if q = t then zz_r (zz_h M 61 1 t + 1) else zz_h M 61 1 q := by
    intro q
    rw [k13 61 1 q rfl, hs13]
    by_cases c : q = t <;> simp [zz_h_w, c]
  have LX : yLx (dl.eraseIdx d) X' := by
    rw [hX']
    exact L5.cg (by (repeat (first | refine yK.w ?_ rfl | exact yK.rf)))
  refine ⟨X', M', EX, EM, ?_, kx, km, n42⟩
  clear EX EM hX' hs13 e4 e5 e13 hs3
  unfold yS
  refine ⟨?_, ?_, ?_, ?_, ?_, ?_, ?_, ?_, ?_, ?_, ?_, ?_, ?_⟩
  · have a := h.A
    unfold yA
    rw [kx 3 1 11 rfl, x312, kx 3 1 14 rfl, kx 3 1 15 rfl, kx 3 1 16 rfl, kx 3 1 17 rfl, kx 3 1 18 rfl, kx 3 1 19 rfl, kx 6 1 3 rfl, n9, n42, km 40 1 7 rfl, n4, n0, km 40 1 1 rfl, km 40 1 2 rfl, km 40 1 3 rfl, km 40 1 37 rfl]
    exact ⟨a.n, a.nr, rfl, by omega, a.g, a.gr, a.w, a.wr, a.t, a.tr, a.o, a.or, a.to, a.h, a.hr, a.s, a.sr, a.p, a.pr⟩
  · intro q q1 q2
    rw [n9] at q2
    exact (h.B q q1 q2).cg (kx.sub (by (intro k j e; first | rfl | (simp [yk_A, yk_B, yk_C, yk_D, yk_E, yk_F, yk_G, yk_M, yk_I, yk_J, yk_L, yk_Lx, yk_Lm, yk_N, yk_U, yn_cx, yn_cm, yn_Lx, yn_Lm, yn_gx] at e ⊢; omega)))) (km.sub (by (intro k j e; first | rfl | (simp [yk_A, yk_B, yk_C, yk_D, yk_E, yk_F, yk_G, yk_M, yk_I, yk_J, yk_L, yk_Lx, yk_Lm, yk_N, yk_U, yn_cx, yn_cm, yn_Lx, yn_Lm, yn_gm] at e ⊢; omega))))
  · intro q q1 q2
    rw [n9] at q2
    have a := h.C q q1 q2
    unfold yC
    rw [kx 7 (q + 1) 10 rfl, kx 7 (q + 1) 11 rfl, kx 7 (q + 1) 12 rfl, kx 7 (q + 1) 13 rfl, x14, kx 7 (q + 1) 17 rfl, km 56 1 q rfl, km 57 1 q rfl, km 58 1 q rfl, km 59 1 q rfl, km 60 1 q rfl, m61]
    refine ⟨a.st, a.sr, a.nx, a.rs, a.fa, a.fr, ?_, a.sk⟩
    by_cases c : q = t
    · rw [if_pos c, if_pos c]
    · rw [if_neg c, if_neg c]
      exact a.be
  · intro q q1 q2
    rw [n9] at q2
    rw [n0]
    exact (h.D q q1 q2).cg (kx.sub (by (intro k j e; first | rfl | (simp [yk_A, yk_B, yk_C, yk_D, yk_E, yk_F, yk_G, yk_M, yk_I, yk_J, yk_L, yk_Lx, yk_Lm, yk_N, yk_U, yn_cx, yn_cm, yn_Lx, yn_Lm, yn_gx] at e ⊢; omega)))) (km.sub (by (intro k j e; first | rfl | (simp [yk_A, yk_B, yk_C, yk_D, yk_E, yk_F, yk_G, yk_M, yk_I, yk_J, yk_L, yk_Lx, yk_Lm, yk_N, yk_U, yn_cx, yn_cm, yn_Lx, yn_Lm, yn_gm] at e ⊢; omega))))
  · intro q q1 q2
    rw [n9] at q2
    exact (h.E q q1 q2).cg (kx.sub (by (intro k j e; first | rfl | (simp [yk_A, yk_B, yk_C, yk_D, yk_E, yk_F, yk_G, yk_M, yk_I, yk_J, yk_L, yk_Lx, yk_Lm, yk_N, yk_U, yn_cx, yn_cm, yn_Lx, yn_Lm, yn_gx] at e ⊢; omega)))) (km.sub (by (intro k j e; first | rfl | (simp [yk_A, yk_B, yk_C, yk_D, yk_E, yk_F, yk_G, yk_M, yk_I, yk_J, yk_L, yk_Lx, yk_Lm, yk_N, yk_U, yn_cx, yn_cm, yn_Lx, yn_Lm, yn_gm] at e ⊢; omega))))
  · intro q q1 q2
    rw [n9] at q2
    exact (h.F q q1 q2).cg (kx.sub (by (intro k j e; first | rfl | (simp [yk_A, yk_B, yk_C, yk_D, yk_E, yk_F, yk_G, yk_M, yk_I, yk_J, yk_L, yk_Lx, yk_Lm, yk_N, yk_U, yn_cx, yn_cm, yn_Lx, yn_Lm, yn_gx] at e ⊢; omega)))) (km.sub (by (intro k j e; first | rfl | (simp [yk_A, yk_B, yk_C, yk_D, yk_E, yk_F, yk_G, yk_M, yk_I, yk_J, yk_L, yk_Lx, yk_Lm, yk_N, yk_U, yn_cx, yn_cm, yn_Lx, yn_Lm, yn_gm] at e ⊢; omega))))
  · exact h.G.cg (kx.sub (by (intro k j e; first | rfl | (simp [yk_A, yk_B, yk_C, yk_D, yk_E, yk_F, yk_G, yk_M, yk_I, yk_J, yk_L, yk_Lx, yk_Lm, yk_N, yk_U, yn_cx, yn_cm, yn_Lx, yn_Lm, yn_gx] at e ⊢; omega)))) (km.sub (by (intro k j e; first | rfl | (simp [yk_A, yk_B, yk_C, yk_D, yk_E, yk_F, yk_G, yk_M, yk_I, yk_J, yk_L, yk_Lx, yk_Lm, yk_N, yk_U, yn_cx, yn_cm, yn_Lx, yn_Lm, yn_gm] at e ⊢; omega))))
  · intro q q1 q2
    rw [n42] at q2
    unfold yI
    rw [m75, m76, m77, m78, m79, m80, m81, m82, m83, m84, n9, x12]
    by_cases c : q = r
    · subst c
      rw [if_pos rfl, if_pos rfl, if_pos rfl, if_pos rfl, if_pos rfl, if_pos rfl, if_pos rfl, if_pos rfl, if_pos rfl, if_pos rfl, if_pos rfl]
      simp only [x10r]
      exact ⟨trivial, f0, f1, ⟨t1, t2⟩, f2, f3, f4, f5, f6, f7, f8, f9, f10⟩
    · have a := h.I q q1 (by omega)
      rw [if_neg c, if_neg c, if_neg c, if_neg c, if_neg c, if_neg c, if_neg c, if_neg c, if_neg c, if_neg c, if_neg c]
      simp only [x10 q _ c]
      exact a
  · unfold yJ
    refine ⟨?_, ?_, ?_, ?_, ?_, ?_, ?_, ?_⟩
    · rw [x313, List.length_append, List.length_singleton]
      omega
    · intro k hk
      rw [x13]
      by_cases c : k < aw.length
      · rw [if_neg (by omega), List.getElem_append_left c]
        exact J.at_ k c
      · have c' : k = aw.length := by
          rw [List.length_append, List.length_singleton] at hk
          omega
        subst c'
        rw [if_pos rfl, List.getElem_append_right (by omega)]
        simp
    · intro q
      rw [List.mem_append, List.mem_singleton, J.mem, n42, m80, hrr]
      by_cases c : q = r
      · rw [if_pos c]
        omega
      · rw [if_neg c]
        omega
    · refine List.pairwise_append.mpr ⟨J.so, List.pairwise_singleton _ _, fun a ha b hb => ?_⟩
      rw [List.mem_singleton] at hb
      have := (J.mem a).mp ha
      omega
    · intro q hq
      rw [m82, n4, m41]
      rcases List.mem_append.mp hq with g | g
      · have g1 := (J.mem q).mp g
        obtain ⟨u1, u2, u3⟩ := J.wk q g
        rw [if_neg (show ¬ q = r by omega), if_neg]
        · exact ⟨u1, u2, u3⟩
        · intro z
          rw [z, w2] at u3
          omega
      · rw [List.mem_singleton] at g
        rw [if_pos g, if_pos rfl]
        exact ⟨w0, w1, g.symm⟩
    · intro v v1 v2
      rw [x16, m41, n4]
      by_cases c : v = w
      · rw [if_pos c, if_pos c, m82, if_pos rfl]
        exact Or.inr ⟨rfl, by omega, by simp, c.symm⟩
      · rw [if_neg c, if_neg c]
        rcases J.bu v v1 v2 with ⟨g1, g2⟩ | ⟨g1, g2, g3, g4⟩
        · exact Or.inl ⟨g1, g2⟩
        · have g5 := (J.mem _).mp g3
          rw [m82, if_neg (by omega)]
          exact Or.inr ⟨g1, g2, List.mem_append.mpr (Or.inl g3), g4⟩
    · rw [n4]
      have p := yw_put (M := M) (M' := M') (w0 := w) (r := r) (by omega) w0 w2 m41 (zz_h M 40 1 4).toNat
      rw [if_pos (by omega)] at p
      exact p.trans ((J.pe.cons r).trans (List.perm_append_singleton r aw).symm)
    · intro q q1 q2
      rw [n9] at q2
      have a := J.wo q q1 q2
      have e1 : yct (fun z => zz_h M' 75 1 z == q) aw = yct (fun z => zz_h M 75 1 z == q) aw := by
        unfold yct
        rw [List.countP_congr]
        intro z hz
        have := (J.mem z).mp hz
        rw [m75, if_neg (by omega)]
      have e2 : yct (fun z => zz_h M' 75 1 z == q) (aw ++ [r]) = yct (fun z => zz_h M' 75 1 z == q) aw + (if zz_h M' 75 1 r == q then 1 else 0) := by
        unfold yct
        rw [List.countP_append, List.countP_singleton]
        split <;> omega
      rw [e2, e1, m75, if_pos rfl, x15]
      by_cases c : q = t
      · subst c
        rw [if_pos rfl, if_pos (by simp), a]
      · rw [if_neg c, if_neg (by simpa using fun z => c z.symm), a]
        omega
  · unfold yL
    refine ⟨?_, L13, ?_, ?_, ?_⟩
    · exact LX
    · rw [List.length_eraseIdx_of_lt hd]
      omega
    · intro q hq
      rw [n9, km 56 1 q.1 rfl]
      exact h.L.t q (List.mem_of_mem_eraseIdx hq)
    · intro q q1 q2
      rw [n9] at q2
      rw [ydc_erase _ _ _ hd, x716, h.L.wa q q1 q2, ht]
      by_cases c : q = t
      · rw [if_pos c, if_pos (by simpa using c.symm)]
      · rw [if_neg c, if_neg (by simpa using fun z => c z.symm)]
        omega
  · exact h.R.cg (kx.sub (by (intro k j e; first | rfl | (simp [yk_A, yk_B, yk_C, yk_D, yk_E, yk_F, yk_G, yk_M, yk_I, yk_J, yk_L, yk_Lx, yk_Lm, yk_N, yk_U, yn_cx, yn_cm, yn_Lx, yn_Lm, yn_gx] at e ⊢; omega)))) (km.sub (by (intro k j e; first | rfl | (simp [yk_A, yk_B, yk_C, yk_D, yk_E, yk_F, yk_G, yk_M, yk_I, yk_J, yk_L, yk_Lx, yk_Lm, yk_N, yk_U, yn_cx, yn_cm, yn_Lx, yn_Lm, yn_gm] at e ⊢; omega))))
  · unfold yN
    rw [xc, xc, xc, xc, xc, xc, xc, xm, xm, xm, xm, xm, xm, xm, x312, kx 3 1 11 rfl]
    simp only [kx 1 1 _ rfl, kx 2 1 _ rfl]
    exact ⟨N.c7, N.c8, N.c9, N.c28, N.c29, N.c30, by simp, N.z1, N.z2⟩
  · intro q q1 q2
    rw [n9] at q1
    refine (h.U q q1 q2).cg fun k e => ?_
    by_cases c : k = 61
    · subst c
      rw [m61, if_neg (by omega)]
    · exact km k 1 q (by
        simp [yk_U, yn_gm] at e ⊢
        omega)
