/-! STAGE B: single writes to a task's standing -/
/-- X's restsTill against M's -/
theorem yS.setNext {e : Nat} {b : Int} {aw : List Int} {dl : List yd} {X M : zz_S} (h : yS e b aw dl X M) (t v : Int) : yS e b aw dl (zz_w X 7 (t + 1) 11 v) (zz_w M 57 1 t v) := by
  ystep h
  intro s h1 h2
  have a := h.C s h1 h2
  by_cases q : s = t
  · subst q
    exact ⟨by simpa [zz_h_w] using a.st, by simpa [zz_h_w] using a.sr, by simp [zz_h_w], by simpa [zz_h_w] using a.rs, by simpa [zz_h_w] using a.fa, by simpa [zz_h_w] using a.fr, by simpa [zz_h_w] using a.be, by simpa [zz_h_w] using a.sk⟩
  · exact ⟨by simpa [zz_h_w] using a.st, by simpa [zz_h_w] using a.sr, by simpa [zz_h_w, q] using a.nx, by simpa [zz_h_w] using a.rs, by simpa [zz_h_w] using a.fa, by simpa [zz_h_w] using a.fr, by simpa [zz_h_w] using a.be, by simpa [zz_h_w] using a.sk⟩
theorem yS.setRest {e : Nat} {b : Int} {aw : List Int} {dl : List yd} {X M : zz_S} (h : yS e b aw dl X M) (t v : Int) : yS e b aw dl (zz_w X 7 (t + 1) 12 v) (zz_w M 60 1 t v) := by
  ystep h
  intro s h1 h2
  have a := h.C s h1 h2
  by_cases q : s = t
  · subst q
    exact ⟨by simpa [zz_h_w] using a.st, by simpa [zz_h_w] using a.sr, by simpa [zz_h_w] using a.nx, by simp [zz_h_w], by simpa [zz_h_w] using a.fa, by simpa [zz_h_w] using a.fr, by simpa [zz_h_w] using a.be, by simpa [zz_h_w] using a.sk⟩
  · exact ⟨by simpa [zz_h_w] using a.st, by simpa [zz_h_w] using a.sr, by simpa [zz_h_w] using a.nx, by simpa [zz_h_w, q] using a.rs, by simpa [zz_h_w] using a.fa, by simpa [zz_h_w] using a.fr, by simpa [zz_h_w] using a.be, by simpa [zz_h_w] using a.sk⟩
theorem yS.setFail {e : Nat} {b c : Int} {aw : List Int} {dl : List yd} {X M : zz_S} (h : yS e b aw dl X M) (t v : Int) (h0 : 0 ≤ v) (hv : v ≤ c) (hc : b ≤ c) : yS e c aw dl (zz_w X 7 (t + 1) 13 v) (zz_w M 59 1 t v) := by
  ystep h
  intro s h1 h2
  have a := (h.C s h1 h2).up hc
  by_cases q : s = t
  · subst q
    exact ⟨by simpa [zz_h_w] using a.st, by simpa [zz_h_w] using a.sr, by simpa [zz_h_w] using a.nx, by simpa [zz_h_w] using a.rs, by simp [zz_h_w], by simp [zz_h_w]; omega, by simpa [zz_h_w] using a.be, by simpa [zz_h_w] using a.sk⟩
  · exact ⟨by simpa [zz_h_w] using a.st, by simpa [zz_h_w] using a.sr, by simpa [zz_h_w] using a.nx, by simpa [zz_h_w] using a.rs, by simpa [zz_h_w, q] using a.fa, by simpa [zz_h_w, q] using a.fr, by simpa [zz_h_w] using a.be, by simpa [zz_h_w] using a.sk⟩
theorem yS.setSkip {e : Nat} {b : Int} {aw : List Int} {dl : List yd} {X M : zz_S} (h : yS e b aw dl X M) (t v : Int) : yS e b aw dl (zz_w X 7 (t + 1) 17 v) (zz_w M 58 1 t v) := by
  ystep h
  intro s h1 h2
  have a := h.C s h1 h2
  by_cases q : s = t
  · subst q
    exact ⟨by simpa [zz_h_w] using a.st, by simpa [zz_h_w] using a.sr, by simpa [zz_h_w] using a.nx, by simpa [zz_h_w] using a.rs, by simpa [zz_h_w] using a.fa, by simpa [zz_h_w] using a.fr, by simpa [zz_h_w] using a.be, by simp [zz_h_w]⟩
  · exact ⟨by simpa [zz_h_w] using a.st, by simpa [zz_h_w] using a.sr, by simpa [zz_h_w] using a.nx, by simpa [zz_h_w] using a.rs, by simpa [zz_h_w] using a.fa, by simpa [zz_h_w] using a.fr, by simpa [zz_h_w] using a.be, by simpa [zz_h_w, q] using a.sk⟩
theorem yS.setCell {e : Nat} {b : Int} {aw : List Int} {dl : List yd} {X M : zz_S} (h : yS e b aw dl X M) (c v : Int) : yS e b aw dl (zz_w X 17 1 c v) (zz_w M 74 1 c v) := by
  ystep h
  have a := h.G
  refine ⟨a.g, a.p1, a.p2, a.p3, fun i h1 h2 => ?_, a.d⟩
  by_cases q : i = c
  · simp [zz_h_w, q]
  · simpa [zz_h_w, q] using a.c i h1 h2
theorem yS.setIdle {e : Nat} {b : Int} {aw : List Int} {dl : List yd} {X M : zz_S} (h : yS e b aw dl X M) (c v : Int) : yS e b aw dl (zz_w X 15 1 c v) (zz_w M 42 1 c v) := by
  ystep h
  have a := h.G
  refine ⟨a.g, a.p1, a.p2, a.p3, a.c, fun i h1 h2 => ?_⟩
  by_cases q : i = c
  · simp [zz_h_w, q]
  · simpa [zz_h_w, q] using a.d i h1 h2
theorem yS.setHigh {e : Nat} {b : Int} {aw : List Int} {dl : List yd} {X M : zz_S} (h : yS e b aw dl X M) (v : Int) (hv : -1 ≤ v ∧ v ≤ 401440) : yS e b aw dl (zz_w X 3 1 18 v) (zz_w M 40 1 2 v) := by
  ystep h
  exact { h.A with h := rfl, hr := hv }
/-- a due that is lost: a PAUSE task that is ACTIVE is due anew -/
theorem yS.again {e : Nat} {b : Int} {aw : List Int} {dl : List yd} {X M : zz_S} (h : yS e b aw dl X M) (t : Int) (h1 : 0 ≤ t) (h2 : t < zz_h M 40 1 9) (ha : zz_h M 56 1 t = 0) :
    ∃ X' M', x_pauseAgain (t + 1) X = some (0, X') ∧ m_dueGone t (zz_h M 40 1 0) M = some (0, M') ∧ yS e b aw dl X' M' ∧ yK (fun k j => !(k == 7 && j == 11)) X X' ∧ yK (fun k _ => !(k == 57)) M M' := by
  have nr := h.A.nr
  have B := h.B t h1 h2
  have C := h.C t h1 h2
  have t0 : ¬ t + 1 = 0 := by omega
  have h60 : t < 60 := by omega
  unfold x_pauseAgain m_dueGone
  simp only [t0, if_false, zz_b, ya_11, ya_12, ya_13, ya_14, ya_15, ya_16, ya_17, ya_18, ya_19, ya_20, ya_21, ya_22, ya_23, ya_24, ya_25, ya_26, ya_27, ya_28, ya_29, ya_30, ya_41, ya_42, ya_43, ya_44, ya_45, ya_46, ya_47, ya_48, ya_49, ya_50, ya_51, ya_52, ya_53, ya_54, ya_55, ya_56, ya_57, ya_58, ya_59, ya_60, ya_61, ya_62, ya_63, ya_64, ya_65, ya_66, ya_67, ya_68, ya_69, ya_70, ya_71, ya_72, ya_73, ya_74, ya_75, ya_76, ya_77, ya_78, ya_79, ya_80, ya_81, ya_82, ya_83, ya_84, ya_85, ya_86, ya_87, ya_88, ya_89, ya_90, ya_91, h1, h60, and_self, if_true, B.ki, C.st, ha, B.ga, h.A.t]
  by_cases c : zz_h M 44 1 t = 2
  · simp only [c, if_true]
    refine ⟨_, _, rfl, rfl, h.setNext t _, by yk, by yk⟩
  · simp only [c, if_false]
    exact ⟨_, _, rfl, rfl, h, yK.rf, yK.rf⟩
