/-! STAGE B: a new task, on both sides -/
def yn_tx (k : Nat) (j : Int) : Bool := !(k == 7 || k == 8 || k == 9 || k == 11 || k == 28 || k == 29 || k == 30 || (k == 3 && j == 11))
def yn_tm (k : Nat) (j : Int) : Bool := !(k == 44 || k == 45 || k == 46 || k == 47 || k == 49 || k == 57 || k == 60 || (k == 40 && j == 9))
theorem yS.addTask {b n kd a g : Int} {aw : List Int} {dl : List yd} {X M X' M' : zz_S} (h : yS 0 b aw dl X M) (b0 : 0 ≤ b) (hn : zz_h M 40 1 9 = n) (n60 : n < 60) (hk : 0 ≤ kd ∧ kd ≤ 4) (ha : kd ≤ 2 → zz_h M 40 1 0 ≤ a ∧ a ≤ 400000) (hg : kd = 1 ∨ kd = 2 → 1 ≤ g ∧ g ≤ 100000)
    (kx : yK yn_tx X X') (xi : ∀ k i j, i ≠ n + 1 → k ≠ 3 → k ≠ 11 → zz_h X' k i j = zz_h X k i j) (x11 : ∀ i, zz_h X' 11 1 i = if i = n then n + 1 else zz_h X 11 1 i) (x3 : zz_h X' 3 1 11 = n + 1)
    (xc : ∀ k, zz_c X' k = if k = 7 ∨ k = 8 ∨ k = 9 ∨ k = 28 ∨ k = 29 ∨ k = 30 then n + 1 else zz_c X k) (xm : ∀ k, zz_m X' k = if k = 7 ∨ k = 8 ∨ k = 9 ∨ k = 28 ∨ k = 29 ∨ k = 30 then n + 1 else zz_m X k)
    (v7 : zz_h X' 7 (n + 1) 0 = n ∧ zz_h X' 7 (n + 1) 1 = kd ∧ zz_h X' 7 (n + 1) 2 = a ∧ zz_h X' 7 (n + 1) 3 = g ∧ zz_h X' 7 (n + 1) 7 = 0 ∧ zz_h X' 7 (n + 1) 8 = 0 ∧ zz_h X' 7 (n + 1) 9 = 0 ∧ zz_h X' 7 (n + 1) 10 = 0 ∧ zz_h X' 7 (n + 1) 11 = (if kd = 2 then a else -1) ∧ zz_h X' 7 (n + 1) 12 = 0 ∧ zz_h X' 7 (n + 1) 13 = 0 ∧ zz_h X' 7 (n + 1) 14 = 0 ∧ zz_h X' 7 (n + 1) 15 = 0 ∧ zz_h X' 7 (n + 1) 16 = 0 ∧ zz_h X' 7 (n + 1) 17 = 0 ∧ zz_h X' 7 (n + 1) 18 = -1 ∧ zz_h X' 7 (n + 1) 19 = -1)
    (v28 : zz_h X' 28 (n + 1) 0 = 1 ∧ zz_h X' 28 (n + 1) 1 = 0 ∧ zz_h X' 28 (n + 1) 2 = -1 ∧ zz_h X' 28 (n + 1) 3 = 0 ∧ zz_h X' 28 (n + 1) 4 = 0 ∧ zz_h X' 28 (n + 1) 5 = 0)
    (v8 : zz_h X' 8 (n + 1) 0 = 0 ∧ zz_h X' 8 (n + 1) 1 = -1 ∧ zz_h X' 8 (n + 1) 2 = -1 ∧ zz_h X' 8 (n + 1) 3 = -1 ∧ zz_h X' 8 (n + 1) 4 = -1 ∧ zz_h X' 8 (n + 1) 5 = -1 ∧ zz_h X' 8 (n + 1) 6 = -1 ∧ zz_h X' 8 (n + 1) 7 = 0) (v9 : zz_h X' 9 (n + 1) 2 = 0)
    (km : yK yn_tm M M') (mi : ∀ k j, j ≠ n → k ≠ 40 → zz_h M' k 1 j = zz_h M k 1 j) (m9 : zz_h M' 40 1 9 = n + 1)
    (w44 : zz_h M' 44 1 n = kd) (w45 : zz_h M' 45 1 n = a) (w46 : zz_h M' 46 1 n = g) (w47 : zz_h M' 47 1 n = 1) (w49 : zz_h M' 49 1 n = -1) (w57 : zz_h M' 57 1 n = (if kd = 2 then a else -1)) (w60 : zz_h M' 60 1 n = -1) : yS 0 b aw dl X' M' := by
  have nr := h.A.nr
  have tr := h.A.tr
  have gr := h.A.gr
  have U := h.U n (by omega) n60
  have n42 : zz_h M' 40 1 42 = zz_h M 40 1 42 := km 40 1 42 rfl
  have n0 : zz_h M' 40 1 0 = zz_h M 40 1 0 := km 40 1 0 rfl
  have n7 : zz_h M' 40 1 7 = zz_h M 40 1 7 := km 40 1 7 rfl
  have n4 : zz_h M' 40 1 4 = zz_h M 40 1 4 := km 40 1 4 rfl
  have nn0 : 0 ≤ n := by omega
  have lt : ∀ t : Int, t < n → t ≠ n ∧ t + 1 ≠ n + 1 ∧ t < zz_h M 40 1 9 := by
    intro t ht
    refine ⟨by omega, by omega, by omega⟩
  unfold yS
  rw [m9, n42, n0]
  refine ⟨?_, ?_, ?_, ?_, ?_, ?_, ?_, ?_, ?_, ?_, ?_, ?_, ?_⟩
  · have q := h.A
    unfold yA
    rw [x3, kx 3 1 12 rfl, kx 3 1 14 rfl, kx 3 1 15 rfl, kx 3 1 16 rfl, kx 3 1 17 rfl, kx 3 1 18 rfl, kx 3 1 19 rfl, kx 6 1 3 rfl, m9, n42, n7, n4, n0, km 40 1 1 rfl, km 40 1 2 rfl, km 40 1 3 rfl, km 40 1 37 rfl]
    exact ⟨rfl, by omega, q.r, q.rr, q.g, q.gr, q.w, q.wr, q.t, q.tr, q.o, q.or, q.to, q.h, q.hr, q.s, q.sr, q.p, q.pr⟩
  · intro t t0 t1
    by_cases c : t = n
    · subst c
      unfold yB
      rw [x11, if_pos rfl, v7.1, v7.2.1, v7.2.2.1, v7.2.2.2.1, v7.2.2.2.2.1, v7.2.2.2.2.2.1, v7.2.2.2.2.2.2.1, v28.1, v28.2.1, v28.2.2.1, v28.2.2.2.1, v28.2.2.2.2.1, v28.2.2.2.2.2, w44, w45, w46, w47, w49, km 48 1 t rfl, km 50 1 t rfl, km 51 1 t rfl, km 52 1 t rfl, km 53 1 t rfl, km 54 1 t rfl, km 55 1 t rfl, U.u48, U.u50, U.u51, U.u52, U.u53, U.u54, U.u55, n7]
      refine ⟨rfl, rfl, rfl, hk, rfl, fun z => ?_, rfl, hg, rfl, rfl, rfl, rfl, by omega, rfl, rfl, by omega, rfl, by omega, rfl, by omega, rfl, by omega⟩
      have := ha z
      omega
    · obtain ⟨l1, l2, l3⟩ := lt t (by omega)
      have q := h.B t t0 l3
      have hx : ∀ k j, k ≠ 3 → k ≠ 11 → zz_h X' k (t + 1) j = zz_h X k (t + 1) j := fun k j => xi k (t + 1) j l2
      have hm : ∀ k, k ≠ 40 → zz_h M' k 1 t = zz_h M k 1 t := fun k => mi k t l1
      unfold yB
      rw [x11, if_neg l1, hx 7 0 (by decide) (by decide), hx 7 1 (by decide) (by decide), hx 7 2 (by decide) (by decide), hx 7 3 (by decide) (by decide), hx 7 7 (by decide) (by decide), hx 7 8 (by decide) (by decide), hx 7 9 (by decide) (by decide), hx 28 0 (by decide) (by decide), hx 28 1 (by decide) (by decide), hx 28 2 (by decide) (by decide), hx 28 3 (by decide) (by decide), hx 28 4 (by decide) (by decide), hx 28 5 (by decide) (by decide), hm 44 (by decide), hm 45 (by decide), hm 46 (by decide), hm 47 (by decide), hm 48 (by decide), hm 49 (by decide), hm 50 (by decide), hm 51 (by decide), hm 52 (by decide), hm 53 (by decide), hm 54 (by decide), hm 55 (by decide), n7]
      exact q
  · intro t t0 t1
    by_cases c : t = n
    · subst c
      unfold yC
      rw [v7.2.2.2.2.2.2.2.1, v7.2.2.2.2.2.2.2.2.1, v7.2.2.2.2.2.2.2.2.2.1, v7.2.2.2.2.2.2.2.2.2.2.1, v7.2.2.2.2.2.2.2.2.2.2.2.1, v7.2.2.2.2.2.2.2.2.2.2.2.2.2.2.1, w57, w60, km 56 1 t rfl, km 58 1 t rfl, km 59 1 t rfl, km 61 1 t rfl, U.u56, U.u58, U.u59, U.u61]
      exact ⟨rfl, Or.inl rfl, rfl, Or.inr ⟨rfl, rfl⟩, rfl, ⟨Int.le_refl _, b0⟩, rfl, rfl⟩
    · obtain ⟨l1, l2, l3⟩ := lt t (by omega)
      have q := h.C t t0 l3
      have hx : ∀ k j, k ≠ 3 → k ≠ 11 → zz_h X' k (t + 1) j = zz_h X k (t + 1) j := fun k j => xi k (t + 1) j l2
      have hm : ∀ k, k ≠ 40 → zz_h M' k 1 t = zz_h M k 1 t := fun k => mi k t l1
      unfold yC
      rw [hx 7 10 (by decide) (by decide), hx 7 11 (by decide) (by decide), hx 7 12 (by decide) (by decide), hx 7 13 (by decide) (by decide), hx 7 14 (by decide) (by decide), hx 7 17 (by decide) (by decide), hm 56 (by decide), hm 57 (by decide), hm 58 (by decide), hm 59 (by decide), hm 60 (by decide), hm 61 (by decide)]
      exact q
  · intro t t0 t1
    by_cases c : t = n
    · subst c
      unfold yD
      rw [v7.2.2.2.2.2.2.2.2.2.2.2.2.2.2.2.1, v7.2.2.2.2.2.2.2.2.2.2.2.2.2.2.2.2, km 63 1 t rfl, U.u63]
      refine ⟨fun z => absurd z (by decide), Or.inl ⟨rfl, fun z => ?_⟩, by omega, Or.inr ⟨rfl, rfl⟩⟩
      rcases z with z | z <;> omega
    · obtain ⟨l1, l2, l3⟩ := lt t (by omega)
      have q := h.D t t0 l3
      have hx : ∀ k j, k ≠ 3 → k ≠ 11 → zz_h X' k (t + 1) j = zz_h X k (t + 1) j := fun k j => xi k (t + 1) j l2
      have hm : ∀ k, k ≠ 40 → zz_h M' k 1 t = zz_h M k 1 t := fun k => mi k t l1
      unfold yD
      rw [hx 7 18 (by decide) (by decide), hx 7 19 (by decide) (by decide), hm 62 (by decide), hm 63 (by decide)]
      exact q
  · intro t t0 t1
    by_cases c : t = n
    · subst c
      have f0 : zz_h M' 64 1 t = 0 := (km 64 1 t rfl).trans U.u64
      have va : ∀ q v, yfa q t M' v := by
        intro q v i i0 i1
        omega
      unfold yE
      rw [v8.1, v8.2.1, v8.2.2.1, v8.2.2.2.1, v8.2.2.2.2.1, v8.2.2.2.2.2.1, v8.2.2.2.2.2.2.1, v8.2.2.2.2.2.2.2, f0]
      refine ⟨rfl, by omega, va _ _, fun v hv => ?_, fun v hv => ?_, fun v hv => ?_, fun v hv => ?_, fun v hv => ?_, fun v hv => ?_, Or.inl ⟨rfl, va _ _⟩⟩
      · exact ⟨fun _ => va _ _, fun _ => yl_neg v (by omega)⟩
      · exact ⟨fun _ => va _ _, fun _ => yb_neg v (by omega)⟩
      · exact ⟨fun _ => va _ _, fun _ => yb_neg v (by omega)⟩
      · exact ⟨fun _ => va _ _, fun _ => yb_neg v (by omega)⟩
      · exact ⟨fun _ => va _ _, fun _ => yb_neg v (by omega)⟩
      · exact ⟨fun _ => va _ _, fun _ => yb_neg v (by omega)⟩
    · obtain ⟨l1, l2, l3⟩ := lt t (by omega)
      refine (h.E t t0 l3).cg2 (fun j => xi 8 (t + 1) j l2 (by decide) (by decide)) (km 64 1 t rfl) (fun i _ _ => ⟨km 65 1 _ rfl, km 66 1 _ rfl, km 67 1 _ rfl⟩)
  · intro t t0 t1
    by_cases c : t = n
    · subst c
      have f0 : zz_h M' 68 1 t = 0 := (km 68 1 t rfl).trans U.u68
      unfold yF
      rw [v9, f0]
      exact ⟨rfl, by omega, fun i i0 i1 => by omega, fun i i0 i1 => by omega⟩
    · obtain ⟨l1, l2, l3⟩ := lt t (by omega)
      have q := h.F t t0 l3
      unfold yF
      rw [xi 9 (t + 1) 2 l2 (by decide) (by decide), km 68 1 t rfl, m9]
      refine ⟨q.n, q.nr, fun i i0 i1 => ?_, fun i i0 i1 => ?_⟩
      · rw [xi 29 (t + 1) i l2 (by decide) (by decide), km 69 1 _ rfl]
        have := q.o i i0 i1
        exact ⟨this.1, this.2.1, by omega⟩
      · rw [xi 30 (t + 1) i l2 (by decide) (by decide), km 70 1 _ rfl]
        exact q.w i i0 i1
  · exact h.G.cg (kx.sub (by (intro k j e; first | rfl | (simp [yk_A, yk_B, yk_C, yk_D, yk_E, yk_F, yk_G, yk_M, yk_I, yk_J, yk_L, yk_Lx, yk_Lm, yk_N, yk_U, yn_cx, yn_cm, yn_Lx, yn_Lm, yn_tx] at e ⊢; omega)))) (km.sub (by (intro k j e; first | rfl | (simp [yk_A, yk_B, yk_C, yk_D, yk_E, yk_F, yk_G, yk_M, yk_I, yk_J, yk_L, yk_Lx, yk_Lm, yk_N, yk_U, yn_cx, yn_cm, yn_Lx, yn_Lm, yn_tm] at e ⊢; omega))))
  · intro r r0 r1
    have q := h.I r r0 r1
    have qt := q.tr
    unfold yI
    rw [kx 12 1 r rfl, kx 10 (r + 1) 0 rfl, kx 10 (r + 1) 1 rfl, kx 10 (r + 1) 2 rfl, kx 10 (r + 1) 3 rfl, kx 10 (r + 1) 4 rfl, kx 10 (r + 1) 5 rfl, kx 10 (r + 1) 6 rfl, kx 10 (r + 1) 7 rfl, kx 10 (r + 1) 8 rfl, kx 10 (r + 1) 9 rfl, kx 10 (r + 1) 10 rfl, km 75 1 r rfl, km 76 1 r rfl, km 77 1 r rfl, km 78 1 r rfl, km 79 1 r rfl, km 80 1 r rfl, km 81 1 r rfl, km 82 1 r rfl, km 83 1 r rfl, km 84 1 r rfl, m9]
    exact ⟨q.re, q.nu, q.ta, ⟨qt.1, by omega⟩, q.ti, q.du, q.fr, q.to, q.wo, q.gr, q.en, q.st, q.ki⟩
  · have J := h.J
    have k75 : ∀ r, zz_h M' 75 1 r = zz_h M 75 1 r := fun r => km 75 1 r rfl
    have k80 : ∀ r, zz_h M' 80 1 r = zz_h M 80 1 r := fun r => km 80 1 r rfl
    have k82 : ∀ r, zz_h M' 82 1 r = zz_h M 82 1 r := fun r => km 82 1 r rfl
    have k41 : ∀ r, zz_h M' 41 1 r = zz_h M 41 1 r := fun r => km 41 1 r rfl
    have k13 : ∀ r, zz_h X' 13 1 r = zz_h X 13 1 r := fun r => kx 13 1 r rfl
    have k16 : ∀ r, zz_h X' 16 1 r = zz_h X 16 1 r := fun r => kx 16 1 r rfl
    unfold yJ
    simp only [kx 3 1 13 rfl, k13, k16, k75, k80, k82, k41, n42, n4, yw.cg k41]
    refine ⟨J.le, J.at_, J.mem, J.so, J.wk, J.bu, J.pe, fun t t0 t1 => ?_⟩
    rw [m9] at t1
    by_cases c : t = n
    · subst c
      rw [v7.2.2.2.2.2.2.2.2.2.2.2.2.1]
      unfold yct
      rw [List.countP_eq_zero.mpr]
      · rfl
      · intro r hr
        have := (J.mem r).mp hr
        have q := (h.I r this.1 this.2.1).tr
        have : ¬ zz_h M 75 1 r = t := by omega
        simpa using this
    · obtain ⟨l1, l2, l3⟩ := lt t (by omega)
      rw [xi 7 (t + 1) 15 l2 (by decide) (by decide)]
      exact J.wo t t0 l3
  · have L := h.L
    unfold yL
    refine ⟨L.x.cg (kx.sub (by (intro k j e; first | rfl | (simp [yk_A, yk_B, yk_C, yk_D, yk_E, yk_F, yk_G, yk_M, yk_I, yk_J, yk_L, yk_Lx, yk_Lm, yk_N, yk_U, yn_cx, yn_cm, yn_Lx, yn_Lm, yn_tx] at e ⊢; omega)))), L.m.cg (km.sub (by (intro k j e; first | rfl | (simp [yk_A, yk_B, yk_C, yk_D, yk_E, yk_F, yk_G, yk_M, yk_I, yk_J, yk_L, yk_Lx, yk_Lm, yk_N, yk_U, yn_cx, yn_cm, yn_Lx, yn_Lm, yn_tm] at e ⊢; omega)))), L.le, fun d hd => ?_, fun t t0 t1 => ?_⟩
    · have := L.t d hd
      rw [m9, km 56 1 d.1 rfl]
      exact ⟨this.1, by omega, this.2.2.1, this.2.2.2⟩
    · rw [m9] at t1
      by_cases c : t = n
      · subst c
        rw [v7.2.2.2.2.2.2.2.2.2.2.2.2.2.1]
        unfold ydc
        rw [List.countP_eq_zero.mpr]
        · rfl
        · intro d hd
          have := L.t d hd
          have : ¬ d.1 = t := by omega
          simpa using this
      · obtain ⟨l1, l2, l3⟩ := lt t (by omega)
        rw [xi 7 (t + 1) 16 l2 (by decide) (by decide)]
        exact L.wa t t0 l3
  · exact h.R.cg (kx.sub (by (intro k j e; first | rfl | (simp [yk_A, yk_B, yk_C, yk_D, yk_E, yk_F, yk_G, yk_M, yk_I, yk_J, yk_L, yk_Lx, yk_Lm, yk_N, yk_U, yn_cx, yn_cm, yn_Lx, yn_Lm, yn_tx] at e ⊢; omega)))) (km.sub (by (intro k j e; first | rfl | (simp [yk_A, yk_B, yk_C, yk_D, yk_E, yk_F, yk_G, yk_M, yk_I, yk_J, yk_L, yk_Lx, yk_Lm, yk_N, yk_U, yn_cx, yn_cm, yn_Lx, yn_Lm, yn_tm] at e ⊢; omega))))
  · have N := h.N
    unfold yN
    rw [x3, kx 3 1 12 rfl]
    simp only [xc, xm, kx 1 1 _ rfl, kx 2 1 _ rfl]
    refine ⟨by simp, by simp, by simp, by simp, by simp, by simp, ?_, N.z1, N.z2⟩
    simpa using N.c10
  · intro t t0 t1
    rw [m9] at t0
    refine (h.U t (by omega) t1).cg fun k e => mi k t (by omega) ?_
    intro z
    rw [z] at e
    exact absurd e (by decide)
theorem yW.task {c : Int} {X M : zz_S} (hW : yW c X M) (c0 : 0 ≤ c) (kd a g : Int) : yR c (x_task kd a g) (m_task kd a g) X M := by
  obtain ⟨aw, dl, h⟩ := hW
  have nr := h.A.nr
  have tr := h.A.tr
  have N := h.N
  have hA := h.A.n
  have hW : yW c X M := ⟨aw, dl, h⟩
  have last : 0 ≤ kd ∧ kd ≤ 4 → (kd ≤ 2 → zz_h M 40 1 0 ≤ a ∧ a ≤ 400000) → (kd = 1 ∨ kd = 2 → 1 ≤ g ∧ g ≤ 100000) → yR c (x_task_56 kd a g) (m_task_51 kd a g) X M := by
    intro hk ha hg
    unfold yR x_task_56 m_task_51
    rw [hA]
    by_cases c60 : zz_h M 40 1 9 = 60
    · rw [if_neg (by omega), if_pos c60]
      exact ⟨_, _, _, rfl, rfl, hW.up (by omega)⟩
    · rw [if_pos (by omega), if_neg c60]
      generalize hn : zz_h M 40 1 9 = n at *
      have h7 : zz_c X 7 = n := N.c7.1.trans hA
      obtain ⟨s1, hs1⟩ : ∃ s1, s1 = zz_n X 7 0 20 := ⟨_, rfl⟩
      have k1 : ∀ k i j, (k ≠ 7 ∨ i ≠ n + 1) → zz_h s1 k i j = zz_h X k i j := by
        intro k i j q
        rw [hs1, zz_h_n, h7, if_neg]
        exact fun z => q.elim (fun w => w z.1) (fun w => w z.2)
      have c1 : ∀ k, zz_c s1 k = if k = 7 then n + 1 else zz_c X k := by
        intro k
        rw [hs1, zz_c_n, h7]
      have m1 : ∀ k, zz_m s1 k = zz_m X k := by
        intro k
        rw [hs1, zz_m_n]
        by_cases z : k = 7
        · rw [if_pos z, z, Int.add_zero]
        · rw [if_neg z]
      obtain ⟨s2, e2, k2, c2, m2, v7, v28, v8, v9⟩ := xT_new_ok (n := n) (kd := kd) (a := a) (b := g) (s := s1) (by omega) ((c1 28).trans (N.c28.1.trans hA)) ((c1 8).trans (N.c8.1.trans hA)) ((c1 9).trans (N.c9.1.trans hA)) ((c1 29).trans (N.c29.1.trans hA)) ((c1 30).trans (N.c30.1.trans hA)) ((m1 28).trans (N.c28.2.trans hA)) ((m1 8).trans (N.c8.2.trans hA)) ((m1 9).trans (N.c9.2.trans hA)) ((m1 29).trans (N.c29.2.trans hA)) ((m1 30).trans (N.c30.2.trans hA)) ((m1 7).trans (N.c7.2.trans hA))
      obtain ⟨X', hX'⟩ : ∃ X', X' = zz_w (zz_w s2 11 1 n (n + 1)) 3 1 11 (n + 1) := ⟨_, rfl⟩
      obtain ⟨M', hM'⟩ : ∃ M', M' = zz_w (zz_w (zz_w (zz_w (zz_w (zz_w (zz_w (zz_w M 40 1 9 (n + 1)) 44 1 n kd) 45 1 n a) 46 1 n g) 47 1 n 1) 49 1 n (-1)) 57 1 n (if kd = 2 then a else -1)) 60 1 n (-1) := ⟨_, rfl⟩
      have n60 : n < 60 := by omega
      have n00 : 0 ≤ n := nr.1
      have ex : ((xT_new (zz_c X 7 + 1) (zz_h (zz_n X 7 0 20) 3 1 11) kd a g (zz_n X 7 0 20)).bind fun q2 => (if zz_c q2.2 7 = zz_m q2.2 7 then (if zz_b q2.2 11 1 n then (if (zz_c X 7 + 1) = 0 then none else (let s3 := zz_w q2.2 11 1 n (zz_c X 7 + 1); (let s4 := zz_w s3 3 1 11 (zz_r ((zz_h s3 3 1 11) + 1)); (some ((zz_r ((zz_h s4 3 1 11) - 1)), s4))))) else none) else none)) = some (n, X') := by
        have g3 : zz_h s2 3 1 11 = n := (k2 3 1 11 (Or.inl (by decide))).trans ((k1 3 1 11 (Or.inl (by decide))).trans hA)
        have q71 : zz_c s2 7 = n + 1 := by rw [c2, if_neg (by decide), c1, if_pos rfl]
        have q72 : zz_m s2 7 = n + 1 := by rw [m2, if_pos (by decide)]
        rw [← hs1, h7, (k1 3 1 11 (Or.inl (by decide))).trans hA, e2, Option.bind_some]
        dsimp only
        rw [q71, q72, if_pos rfl, if_pos (show zz_b s2 11 1 n from ⟨n00, by rw [ya_11]; omega⟩), if_neg (by omega), show zz_h (zz_w s2 11 1 n (n + 1)) 3 1 11 = n from g3, yy_r (z := n + 1) (by omega) (by omega), yy_same, yy_r (by omega) (by omega), ← hX']
        congr 2
        omega
      have em : (let s1 := zz_w M 40 1 9 (zz_r (n + 1)); (if zz_b s1 44 1 n then (let s2 := zz_w s1 44 1 n kd; (if zz_b s2 45 1 n then (let s3 := zz_w s2 45 1 n a; (if zz_b s3 46 1 n then (let s4 := zz_w s3 46 1 n g; (if zz_b s4 47 1 n then (let s5 := zz_w s4 47 1 n 1; (if zz_b s5 49 1 n then (let s6 := zz_w s5 49 1 n (-1); (if kd = 2 then (if zz_b s6 57 1 n then (let s7 := zz_w s6 57 1 n a; (if zz_b s7 60 1 n then (let s8 := zz_w s7 60 1 n (-1); (some (n, s8))) else none)) else none) else (if zz_b s6 57 1 n then (let s9 := zz_w s6 57 1 n (-1); (if zz_b s9 60 1 n then (let s10 := zz_w s9 60 1 n (-1); (some (n, s10))) else none)) else none))) else none)) else none)) else none)) else none)) else none) : zz_R) = some (n, M') := by
        simp only [zz_b, ya_11, ya_12, ya_13, ya_14, ya_15, ya_16, ya_17, ya_18, ya_19, ya_20, ya_21, ya_22, ya_23, ya_24, ya_25, ya_26, ya_27, ya_28, ya_29, ya_30, ya_41, ya_42, ya_43, ya_44, ya_45, ya_46, ya_47, ya_48, ya_49, ya_50, ya_51, ya_52, ya_53, ya_54, ya_55, ya_56, ya_57, ya_58, ya_59, ya_60, ya_61, ya_62, ya_63, ya_64, ya_65, ya_66, ya_67, ya_68, ya_69, ya_70, ya_71, ya_72, ya_73, ya_74, ya_75, ya_76, ya_77, ya_78, ya_79, ya_80, ya_81, ya_82, ya_83, ya_84, ya_85, ya_86, ya_87, ya_88, ya_89, ya_90, ya_91, n00, n60, and_self, if_true]
        rw [yy_r (by omega) (by omega), hM']
        split <;> rfl
      rw [ex]
      refine ⟨n, X', M', rfl, em, aw, dl, ?_⟩
      have kx : yK yn_tx X X' := by
        intro k i j e
        have e' : k ≠ 7 ∧ k ≠ 8 ∧ k ≠ 9 ∧ k ≠ 11 ∧ k ≠ 28 ∧ k ≠ 29 ∧ k ≠ 30 ∧ ¬ (k = 3 ∧ j = 11) := by
          simp [yn_tx] at e
          omega
        rw [hX', zz_h_w, if_neg (fun z => e'.2.2.2.2.2.2.2 ⟨z.1, z.2.2⟩), zz_h_w, if_neg (fun z => e'.2.2.2.1 z.1), k2 k i j (Or.inl (by omega)), k1 k i j (Or.inl e'.1)]
      have n0 : zz_h M' 40 1 0 = zz_h M 40 1 0 := by
        rw [hM']
        rfl
      have r : yS 0 (50000 * c + 1100 * zz_h M 40 1 0) aw dl X' M' := by
        refine yS.addTask (n := n) (kd := kd) (a := a) (g := g) h (by omega) hn n60 hk ha hg kx ?_ ?_ ?_ ?_ ?_ ?_ ?_ ?_ ?_ ?_ ?_ ?_ ?_ ?_ ?_ ?_ ?_ ?_ ?_
        · intro k i j q1 q2 q3
          rw [hX', zz_h_w, if_neg (fun z => q2 z.1), zz_h_w, if_neg (fun z => q3 z.1), k2 k i j (Or.inr q1), k1 k i j (Or.inr q1)]
        · intro i
          rw [hX', zz_h_w, if_neg (fun z => absurd z.1 (by decide)), zz_h_w]
          by_cases q : i = n
          · rw [if_pos q, if_pos ⟨rfl, rfl, q⟩]
          · rw [if_neg q, if_neg (fun z => q z.2.2), k2 11 1 i (Or.inl (by decide)), k1 11 1 i (Or.inl (by decide))]
        · rw [hX', yy_same]
        · intro k
          rw [hX', zz_c_w, zz_c_w, c2, c1]
          repeat' split
          all_goals first | rfl | omega
        · intro k
          rw [hX', zz_m_w, zz_m_w, m2, m1]
        · have q : ∀ j, zz_h X' 7 (n + 1) j = zz_h s2 7 (n + 1) j := fun j => by rw [hX', yy_kind (by decide), yy_kind (by decide)]
          simp only [q]
          exact v7
        · have q : ∀ j, zz_h X' 28 (n + 1) j = zz_h s2 28 (n + 1) j := fun j => by rw [hX', yy_kind (by decide), yy_kind (by decide)]
          simp only [q]
          exact v28
        · have q : ∀ j, zz_h X' 8 (n + 1) j = zz_h s2 8 (n + 1) j := fun j => by rw [hX', yy_kind (by decide), yy_kind (by decide)]
          simp only [q]
          exact v8
        · rw [hX', yy_kind (by decide), yy_kind (by decide)]
          exact v9
        · rw [hM']
          (repeat (first | refine yK.w ?_ rfl | exact yK.rf))
        · intro k j q1 q2
          rw [hM']
          simp only [zz_h_w, q1, q2, and_false, if_false, false_and]
        · rw [hM']
          simp [zz_h_w]
        · rw [hM']
          simp [zz_h_w]
        · rw [hM']
          simp [zz_h_w]
        · rw [hM']
          simp [zz_h_w]
        · rw [hM']
          simp [zz_h_w]
        · rw [hM']
          simp [zz_h_w]
        · rw [hM']
          simp [zz_h_w]
        · rw [hM']
          simp [zz_h_w]
      exact r.up (by rw [n0]; omega)
  have bad : ∀ (f gg : zz_S → zz_R), f X = some (-2, X) → gg M = some (-2, M) → yR c f gg X M := fun f gg e1 e2 => hW.q ⟨-2, e1, e2⟩
  have mid : 0 ≤ kd ∧ kd ≤ 4 → (kd ≤ 2 → zz_h M 40 1 0 ≤ a ∧ a ≤ 400000) → yR c (x_task_33 kd a g) (m_task_27 kd a g) X M := by
    intro hk ha
    unfold x_task_33 m_task_27
    by_cases k1 : kd = 1
    · by_cases q : 1 ≤ g ∧ g ≤ 100000
      · have := last hk ha (fun _ => q)
        unfold yR at this ⊢
        try dsimp only
        rw [if_pos k1, if_pos k1, x_isWithin_ok, m_in_ok, Option.bind_some, Option.bind_some]
        dsimp only
        rw [if_pos q, if_neg yy_10, if_neg yy_10]
        exact this
      · refine bad _ _ ?_ ?_
        · try dsimp only
          rw [if_pos k1, x_isWithin_ok, Option.bind_some, if_neg q, if_pos rfl]
        · try dsimp only
          rw [if_pos k1, m_in_ok, Option.bind_some, if_neg q, if_pos rfl]
    · by_cases k2 : kd = 2
      · by_cases q : 1 ≤ g ∧ g ≤ 100000
        · have := last hk ha (fun _ => q)
          unfold yR at this ⊢
          try dsimp only
          rw [if_neg k1, if_neg k1, if_pos k2, if_pos k2, x_isWithin_ok, m_in_ok, Option.bind_some, Option.bind_some]
          dsimp only
          rw [if_pos q, if_neg yy_10, if_neg yy_10]
          exact this
        · refine bad _ _ ?_ ?_
          · try dsimp only
            rw [if_neg k1, if_pos k2, x_isWithin_ok, Option.bind_some, if_neg q, if_pos rfl]
          · try dsimp only
            rw [if_neg k1, if_pos k2, m_in_ok, Option.bind_some, if_neg q, if_pos rfl]
      · have := last hk ha (fun z => by omega)
        unfold yR at this ⊢
        try dsimp only
        rw [if_neg k1, if_neg k1, if_neg k2, if_neg k2]
        exact this
  unfold yR x_task m_task
  rw [x_isWithin_ok, m_in_ok, Option.bind_some, Option.bind_some]
  dsimp only
  by_cases hk : 0 ≤ kd ∧ kd ≤ 4
  · rw [if_pos hk, if_neg yy_10, if_neg yy_10]
    by_cases k2 : kd ≤ 2
    · rw [if_pos k2, if_pos k2, h.A.t, x_isWithin_ok, m_in_ok, Option.bind_some, Option.bind_some]
      dsimp only
      by_cases ha : zz_h M 40 1 0 ≤ a ∧ a ≤ 400000
      · rw [if_pos ha, if_neg yy_10, if_neg yy_10]
        exact mid hk (fun _ => ha)
      · rw [if_neg ha, if_pos rfl, if_pos rfl]
        exact ⟨_, _, _, rfl, rfl, hW.up (by omega)⟩
    · rw [if_neg k2, if_neg k2]
      exact mid hk (fun z => absurd z k2)
  · rw [if_neg hk, if_pos rfl, if_pos rfl]
    exact ⟨_, _, _, rfl, rfl, hW.up (by omega)⟩
