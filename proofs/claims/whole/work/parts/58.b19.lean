/-! STAGE B: an end -/
theorem zz_w_comm {σ : zz_S} {k k' : Nat} {i j v i' j' v' : Int} (h : ¬ k = k') : zz_w (zz_w σ k i j v) k' i' j' v' = zz_w (zz_w σ k' i' j' v') k i j v := by
  unfold zz_w
  congr 2
  funext a b c
  dsimp only
  by_cases c1 : a = k' ∧ b = i' ∧ c = j'
  · rw [if_pos c1, if_neg (fun z => h (z.1.symm.trans c1.1)), if_pos c1]
  · rw [if_neg c1]
    by_cases c2 : a = k ∧ b = i ∧ c = j
    · rw [if_pos c2, if_pos c2]
    · rw [if_neg c2, if_neg c2, if_neg c1]
def yn_ex (k : Nat) (j : Int) : Bool := !(k == 13 || (k == 3 && j == 13) || k == 16 || (k == 7 && ((10 ≤ j && j ≤ 13) || (15 ≤ j && j ≤ 19))) || (k == 10 && (j == 8 || j == 9 || j == 10)) || k == 17 || k == 19 || k == 20 || k == 21 || (k == 4 && j == 3) || k == 22 || k == 23 || k == 24 || (k == 5 && j == 3))
def yn_em (k : Nat) (j : Int) : Bool := !(k == 41 || k == 80 || k == 79 || k == 81 || k == 74 || k == 85 || k == 86 || k == 87 || (k == 40 && (j == 53 || j == 57)) || k == 56 || k == 57 || k == 58 || k == 59 || k == 60 || k == 63 || k == 88 || k == 89 || k == 90)
theorem yS.setKind {e : Nat} {b : Int} {aw : List Int} {dl : List yd} {X M : zz_S} (h : yS e b aw dl X M) (r v : Int) : yS e b aw dl (zz_w X 10 (r + 1) 10 v) (zz_w M 81 1 r v) := by
  (refine yS.by_ h ?_ rfl rfl rfl ?_ ?_ ?_ ?_ ?_ ?_ ?_ ?_ ?_ ?_ ?_ ?_ <;> try (first | (refine yA.cg (yS.A h) ?_ ?_ <;> ((repeat (first | refine yK.w ?_ rfl | exact yK.rf)); done))| (intro t h1 h2; refine yB.cg (yS.B h t h1 h2) ?_ ?_ <;> ((repeat (first | refine yK.w ?_ rfl | exact yK.rf)); done))| (intro t h1 h2; refine yC.cg (yC.up (yS.C h t h1 h2) (by omega)) ?_ ?_ <;> ((repeat (first | refine yK.w ?_ rfl | exact yK.rf)); done))| (intro t h1 h2; refine yD.cg (yS.D h t h1 h2) ?_ ?_ <;> ((repeat (first | refine yK.w ?_ rfl | exact yK.rf)); done))| (intro t h1 h2; refine yE.cg (yS.E h t h1 h2) ?_ ?_ <;> ((repeat (first | refine yK.w ?_ rfl | exact yK.rf)); done))| (intro t h1 h2; refine yF.cg (yS.F h t h1 h2) ?_ ?_ <;> ((repeat (first | refine yK.w ?_ rfl | exact yK.rf)); done))| (refine yG.cg (yS.G h) ?_ ?_ <;> ((repeat (first | refine yK.w ?_ rfl | exact yK.rf)); done))| (intro t h1 h2; refine yI.cg (yS.I h t h1 h2) ?_ ?_ <;> ((repeat (first | refine yK.w ?_ rfl | exact yK.rf)); done))| (refine yJ.cg (yS.J h) ?_ ?_ <;> ((repeat (first | refine yK.w ?_ rfl | exact yK.rf)); done))| (refine yL.cg (yS.L h) ?_ ?_ <;> ((repeat (first | refine yK.w ?_ rfl | exact yK.rf)); done))| (refine yM.cg (yM.up (yS.R h) (by omega)) ?_ ?_ <;> ((repeat (first | refine yK.w ?_ rfl | exact yK.rf)); done))| (refine yN.cg (yS.N h) ?_ (fun _ => ⟨rfl, rfl⟩) <;> ((repeat (first | refine yK.w ?_ rfl | exact yK.rf)); done))| (refine yU.cg (yS.U h) ?_ <;> ((repeat (first | refine yK.w ?_ rfl | exact yK.rf)); done))))
  intro s h1 h2
  have a := h.I s h1 h2
  by_cases q : s = r
  · subst q
    unfold yI
    exact ⟨a.re, by simpa [zz_h_w] using a.nu, by simpa [zz_h_w] using a.ta, a.tr, by simpa [zz_h_w] using a.ti, by simpa [zz_h_w] using a.du, by simpa [zz_h_w] using a.fr, by simpa [zz_h_w] using a.to, by simpa [zz_h_w] using a.wo, by simpa [zz_h_w] using a.gr, by simpa [zz_h_w] using a.en, by simpa [zz_h_w] using a.st, by simp [zz_h_w]⟩
  · unfold yI
    exact ⟨a.re, by simpa [zz_h_w] using a.nu, by simpa [zz_h_w] using a.ta, a.tr, by simpa [zz_h_w] using a.ti, by simpa [zz_h_w] using a.du, by simpa [zz_h_w] using a.fr, by simpa [zz_h_w] using a.to, by simpa [zz_h_w] using a.wo, by simpa [zz_h_w] using a.gr, by simpa [zz_h_w] using a.en, by simpa [zz_h_w] using a.st, by simpa [zz_h_w, q] using a.ki⟩
theorem x_restAfter_ok (v : Int) (X : zz_S) (h1 : 1 ≤ v) (h2 : v < 2000000000) : x_restAfter v X = some (if v ≤ 6 then zz_shl 1 (v - 1) else 64, X) := by
  unfold x_restAfter j_max
  rw [yy_r (by omega) (by omega)]
  by_cases c : v ≤ 6
  · rw [if_pos c, if_pos c, if_neg (by omega), Option.bind_some]
  · rw [if_neg c, if_neg c]
theorem yS.fails {e : Nat} {b : Int} {aw : List Int} {dl : List yd} {X M : zz_S} (h : yS e b aw dl X M) (hb : b < 1900000000) (t : Int) (h1 : 0 ≤ t) (h2 : t < zz_h M 40 1 9) (hf : 1 ≤ zz_h M 59 1 t) :
    ∃ dl' X' M', x_followEnd_21 (t + 1) 0 X = some (0, X') ∧ m_failed t (zz_h M 40 1 0) M = some (0, M') ∧ yS e b aw dl' X' M' ∧ yK yn_ex X X' ∧ yK yn_em M M' := by
  have nr := h.A.nr
  have B := h.B t h1 h2
  have C := h.C t h1 h2
  have t0 : ¬ t + 1 = 0 := by omega
  have t60 : t < 60 := by omega
  have fr := C.fr
  unfold x_followEnd_21 m_failed
  simp only [t0, if_false, zz_b, ya_11, ya_12, ya_13, ya_14, ya_15, ya_16, ya_17, ya_18, ya_19, ya_20, ya_21, ya_22, ya_23, ya_24, ya_25, ya_26, ya_27, ya_28, ya_29, ya_30, ya_41, ya_42, ya_43, ya_44, ya_45, ya_46, ya_47, ya_48, ya_49, ya_50, ya_51, ya_52, ya_53, ya_54, ya_55, ya_56, ya_57, ya_58, ya_59, ya_60, ya_61, ya_62, ya_63, ya_64, ya_65, ya_66, ya_67, ya_68, ya_69, ya_70, ya_71, ya_72, ya_73, ya_74, ya_75, ya_76, ya_77, ya_78, ya_79, ya_80, ya_81, ya_82, ya_83, ya_84, ya_85, ya_86, ya_87, ya_88, ya_89, ya_90, ya_91, h1, t60, and_self, if_true, B.t5, Int.reduceLE, Int.reduceLT]
  by_cases c0 : zz_h M 52 1 t = 0
  · rw [if_pos c0, if_pos c0]
    obtain ⟨X', M', e1, e2, e3, e4, e5, -⟩ := h.leave t 4 h1 h2 (Or.inr rfl)
    refine ⟨_, X', M', ?_, ?_, e3, e4.sub (by (intro k j e; first | rfl | (simp [yk_A, yk_B, yk_C, yk_D, yk_E, yk_F, yk_G, yk_M, yk_I, yk_J, yk_L, yk_Lx, yk_Lm, yk_N, yk_U, yn_cx, yn_cm, yn_Lx, yn_Lm, yn_vx, yn_ex] at e ⊢; omega))), e5.sub (by (intro k j e; first | rfl | (simp [yk_A, yk_B, yk_C, yk_D, yk_E, yk_F, yk_G, yk_M, yk_I, yk_J, yk_L, yk_Lx, yk_Lm, yk_N, yk_U, yn_cx, yn_cm, yn_Lx, yn_Lm, yn_vm, yn_em] at e ⊢; omega)))⟩
    · rw [e1, Option.bind_some]
      unfold x_followEnd_41
      have : zz_h X' 28 (t + 1) 5 = 0 := by rw [e4 28 (t + 1) 5 rfl, B.t5, c0]
      simp [t0, zz_b, ya_11, ya_12, ya_13, ya_14, ya_15, ya_16, ya_17, ya_18, ya_19, ya_20, ya_21, ya_22, ya_23, ya_24, ya_25, ya_26, ya_27, ya_28, ya_29, ya_30, ya_41, ya_42, ya_43, ya_44, ya_45, ya_46, ya_47, ya_48, ya_49, ya_50, ya_51, ya_52, ya_53, ya_54, ya_55, ya_56, ya_57, ya_58, ya_59, ya_60, ya_61, ya_62, ya_63, ya_64, ya_65, ya_66, ya_67, ya_68, ya_69, ya_70, ya_71, ya_72, ya_73, ya_74, ya_75, ya_76, ya_77, ya_78, ya_79, ya_80, ya_81, ya_82, ya_83, ya_84, ya_85, ya_86, ya_87, ya_88, ya_89, ya_90, ya_91, this]
    · rw [e2]
      rfl
  · rw [if_neg c0, if_neg c0]
    unfold x_followEnd_41
    simp only [t0, if_false, zz_b, ya_11, ya_12, ya_13, ya_14, ya_15, ya_16, ya_17, ya_18, ya_19, ya_20, ya_21, ya_22, ya_23, ya_24, ya_25, ya_26, ya_27, ya_28, ya_29, ya_30, ya_41, ya_42, ya_43, ya_44, ya_45, ya_46, ya_47, ya_48, ya_49, ya_50, ya_51, ya_52, ya_53, ya_54, ya_55, ya_56, ya_57, ya_58, ya_59, ya_60, ya_61, ya_62, ya_63, ya_64, ya_65, ya_66, ya_67, ya_68, ya_69, ya_70, ya_71, ya_72, ya_73, ya_74, ya_75, ya_76, ya_77, ya_78, ya_79, ya_80, ya_81, ya_82, ya_83, ya_84, ya_85, ya_86, ya_87, ya_88, ya_89, ya_90, ya_91, h1, t60, and_self, if_true, B.t5, Int.reduceLE, Int.reduceLT, C.fa]
    by_cases c2 : zz_h M 52 1 t = 2
    · rw [if_pos c2, if_pos c2, x_restAfter_ok _ _ hf (by omega), Option.bind_some, yy_r (z := zz_h M 59 1 t - 1) (by omega) (by omega)]
      dsimp only
      rw [B.ki, h.A.t, C.nx]
      by_cases c6 : zz_h M 59 1 t ≤ 6
      · simp only [c6, if_true]
        by_cases ck : zz_h M 44 1 t = 2
        · rw [if_pos ck, if_pos ck]
          exact ⟨_, _, _, rfl, rfl, h.setNext t _, by (repeat (first | refine yK.w ?_ rfl | exact yK.rf)), by (repeat (first | refine yK.w ?_ rfl | exact yK.rf))⟩
        · rw [if_neg ck, if_neg ck]
          exact ⟨_, _, _, rfl, rfl, h.setRest t _, by (repeat (first | refine yK.w ?_ rfl | exact yK.rf)), by (repeat (first | refine yK.w ?_ rfl | exact yK.rf))⟩
      · simp only [c6, if_false]
        by_cases ck : zz_h M 44 1 t = 2
        · rw [if_pos ck, if_pos ck]
          exact ⟨_, _, _, rfl, rfl, h.setNext t _, by (repeat (first | refine yK.w ?_ rfl | exact yK.rf)), by (repeat (first | refine yK.w ?_ rfl | exact yK.rf))⟩
        · rw [if_neg ck, if_neg ck]
          exact ⟨_, _, _, rfl, rfl, h.setRest t _, by (repeat (first | refine yK.w ?_ rfl | exact yK.rf)), by (repeat (first | refine yK.w ?_ rfl | exact yK.rf))⟩
    · rw [if_neg c2, if_neg c2]
      exact ⟨_, _, _, rfl, rfl, h, yK.rf, yK.rf⟩
/-- what comes of an end for the task itself, if it is ACTIVE, and then for others -/
theorem yS.endMid {e : Nat} {b : Int} {aw : List Int} {dl : List yd} {X M : zz_S} (h : yS e b aw dl X M) (hb : b < 1800000000) (t g : Int) (h1 : 0 ≤ t) (h2 : t < zz_h M 40 1 9) (hg : (g = 0 ∧ 1 ≤ zz_h M 59 1 t) ∨ g = 1) :
    ∃ dl' X' M', ((x_followEnd_21 (t + 1) g X).bind fun q3 => ((x_tellAfters (t + 1) g q3.2).bind fun q4 => (some ((0 : Int), q4.2)))) = some (0, X') ∧ (if g = 0 then ((m_failed t (zz_h M 40 1 0) M).bind fun q3 => ((m_notes t g (zz_h M 40 1 0) q3.2).bind fun q4 => (some ((0 : Int), q4.2)))) else ((m_notes t g (zz_h M 40 1 0) M).bind fun q4 => (some (0, q4.2)))) = some (0, M') ∧ yS e (b + 60) aw dl' X' M' ∧ yK yn_ex X X' ∧ yK yn_em M M' := by
  rcases hg with ⟨hg, hf⟩ | hg
  · subst hg
    obtain ⟨dl1, X1, M1, e1, e2, e3, e4, e5⟩ := h.fails (by omega) t h1 h2 hf
    have n1 : zz_h M1 40 1 9 = zz_h M 40 1 9 := e5 40 1 9 rfl
    have n2 : zz_h M1 40 1 0 = zz_h M 40 1 0 := e5 40 1 0 rfl
    obtain ⟨dl2, X2, M2, f1, f2, f3, f4, f5⟩ := e3.tell (by omega) t 0 h1 (by omega)
    rw [n2] at f2
    refine ⟨dl2, X2, M2, ?_, ?_, f3, e4.tr (f4.sub (by (intro k j e; first | rfl | (simp [yk_A, yk_B, yk_C, yk_D, yk_E, yk_F, yk_G, yk_M, yk_I, yk_J, yk_L, yk_Lx, yk_Lm, yk_N, yk_U, yn_cx, yn_cm, yn_Lx, yn_Lm, yn_ex] at e ⊢; omega)))), e5.tr (f5.sub (by (intro k j e; first | rfl | (simp [yk_A, yk_B, yk_C, yk_D, yk_E, yk_F, yk_G, yk_M, yk_I, yk_J, yk_L, yk_Lx, yk_Lm, yk_N, yk_U, yn_cx, yn_cm, yn_Lx, yn_Lm, yn_em] at e ⊢; omega))))⟩
    · rw [e1, Option.bind_some]
      dsimp only
      rw [f1]
      rfl
    · rw [if_pos rfl, e2, Option.bind_some]
      dsimp only
      rw [f2]
      rfl
  · subst hg
    obtain ⟨dl2, X2, M2, f1, f2, f3, f4, f5⟩ := h.tell (by omega) t 1 h1 h2
    refine ⟨dl2, X2, M2, ?_, ?_, f3, f4.sub (by (intro k j e; first | rfl | (simp [yk_A, yk_B, yk_C, yk_D, yk_E, yk_F, yk_G, yk_M, yk_I, yk_J, yk_L, yk_Lx, yk_Lm, yk_N, yk_U, yn_cx, yn_cm, yn_Lx, yn_Lm, yn_ex] at e ⊢; omega))), f5.sub (by (intro k j e; first | rfl | (simp [yk_A, yk_B, yk_C, yk_D, yk_E, yk_F, yk_G, yk_M, yk_I, yk_J, yk_L, yk_Lx, yk_Lm, yk_N, yk_U, yn_cx, yn_cm, yn_Lx, yn_Lm, yn_em] at e ⊢; omega)))⟩
    · unfold x_followEnd_21
      rw [if_neg (by decide), Option.bind_some]
      dsimp only
      rw [f1]
      rfl
    · rw [if_neg (by decide), f2]
      rfl
/-- the failures that a task has behind an end -/
def yff (M : zz_S) (t g : Int) : Int := if g = 0 then zz_h M 59 1 t + 1 else 0
theorem yS.endTail {e : Nat} {b : Int} {aw : List Int} {dl : List yd} {X M : zz_S} (h : yS e b aw dl X M) (hb : b < 1700000000) (t g : Int) (h1 : 0 ≤ t) (h2 : t < zz_h M 40 1 9) (hg : g = 0 ∨ g = 1) :
    ∃ dl' X' M', x_endRun_87 (t + 1) g (zz_w X 7 (t + 1) 13 (yff M t g)) = some (0, X') ∧ ((m_isActive t M).bind fun q3 => (if q3.1 = 0 then (m_ends_108 (zz_h M 40 1 0) t g q3.1 q3.2) else (if zz_b q3.2 44 1 t then (if (zz_h q3.2 44 1 t) = 2 then (if zz_b q3.2 46 1 t then (if zz_b q3.2 57 1 t then (let s4 := zz_w q3.2 57 1 t (zz_r ((zz_h M 40 1 0) + (zz_h q3.2 46 1 t))); (m_ends_108 (zz_h M 40 1 0) t g q3.1 s4)) else none) else none) else (m_ends_108 (zz_h M 40 1 0) t g q3.1 q3.2)) else none))) = some (0, M') ∧ yS e (b + 100) aw dl' X' M' ∧ yK yn_ex X X' ∧ yK yn_em M M' := by
  have nr := h.A.nr
  have B := h.B t h1 h2
  have C := h.C t h1 h2
  have t0 : ¬ t + 1 = 0 := by omega
  have t60 : t < 60 := by omega
  have fr := C.fr
  have r59 : zz_r (zz_h M 59 1 t + 1) = zz_h M 59 1 t + 1 := yy_r (by omega) (by omega)
  have hF : yS e (b + 1) aw dl (zz_w X 7 (t + 1) 13 (yff M t g)) (zz_w M 59 1 t (yff M t g)) := h.setFail t (yff M t g) h2 (by unfold yff; split <;> omega) (by unfold yff; split <;> omega) (by omega)
  -- the reference's order of the two writes
  have m108 : ∀ (a : Int) (M0 : zz_S), zz_h M0 59 1 t = zz_h M 59 1 t → m_ends_108 (zz_h M 40 1 0) t g a M0 = (if g = 0 then (if a = 0 then ((m_notes t g (zz_h M 40 1 0) (zz_w M0 59 1 t (yff M t g))).bind fun q2 => (some ((0 : Int), q2.2))) else ((m_failed t (zz_h M 40 1 0) (zz_w M0 59 1 t (yff M t g))).bind fun q3 => ((m_notes t g (zz_h M 40 1 0) q3.2).bind fun q4 => (some (0, q4.2))))) else ((m_notes t g (zz_h M 40 1 0) (zz_w M0 59 1 t (yff M t g))).bind fun q6 => (some (0, q6.2)))) := by
    intro a M0 h0
    unfold m_ends_108 yff
    simp only [zz_b, ya_11, ya_12, ya_13, ya_14, ya_15, ya_16, ya_17, ya_18, ya_19, ya_20, ya_21, ya_22, ya_23, ya_24, ya_25, ya_26, ya_27, ya_28, ya_29, ya_30, ya_41, ya_42, ya_43, ya_44, ya_45, ya_46, ya_47, ya_48, ya_49, ya_50, ya_51, ya_52, ya_53, ya_54, ya_55, ya_56, ya_57, ya_58, ya_59, ya_60, ya_61, ya_62, ya_63, ya_64, ya_65, ya_66, ya_67, ya_68, ya_69, ya_70, ya_71, ya_72, ya_73, ya_74, ya_75, ya_76, ya_77, ya_78, ya_79, ya_80, ya_81, ya_82, ya_83, ya_84, ya_85, ya_86, ya_87, ya_88, ya_89, ya_90, ya_91, h1, t60, and_self, if_true, h0, r59]
    by_cases c : g = 0
    · simp only [c, if_true]
    · simp only [c, if_false]
  have f59 : (g = 0 ∧ 1 ≤ yff M t g) ∨ g = 1 := by
    unfold yff
    rcases hg with q | q
    · left
      rw [if_pos q]
      omega
    · exact Or.inr q
  rw [m_isActive_ok _ _ ⟨h1, t60⟩, Option.bind_some]
  unfold x_endRun_87
  rw [if_neg t0, xT_isActive_ok hF h1 (by simpa [zz_h_w] using h2), Option.bind_some]
  have a56 : zz_h (zz_w M 59 1 t (yff M t g)) 56 1 t = zz_h M 56 1 t := rfl
  rw [a56]
  have sF : zz_h (zz_w M 59 1 t (yff M t g)) 59 1 t = yff M t g := yy_same
  have kx1 : yK yn_ex X (zz_w X 7 (t + 1) 13 (yff M t g)) := by (repeat (first | refine yK.w ?_ rfl | exact yK.rf))
  have km1 : yK yn_em M (zz_w M 59 1 t (yff M t g)) := by (repeat (first | refine yK.w ?_ rfl | exact yK.rf))
  by_cases ca : zz_h M 56 1 t = 0
  · simp only [ca, if_true, show ¬ (1 : Int) = 0 by decide, if_false, zz_b, ya_11, ya_12, ya_13, ya_14, ya_15, ya_16, ya_17, ya_18, ya_19, ya_20, ya_21, ya_22, ya_23, ya_24, ya_25, ya_26, ya_27, ya_28, ya_29, ya_30, ya_41, ya_42, ya_43, ya_44, ya_45, ya_46, ya_47, ya_48, ya_49, ya_50, ya_51, ya_52, ya_53, ya_54, ya_55, ya_56, ya_57, ya_58, ya_59, ya_60, ya_61, ya_62, ya_63, ya_64, ya_65, ya_66, ya_67, ya_68, ya_69, ya_70, ya_71, ya_72, ya_73, ya_74, ya_75, ya_76, ya_77, ya_78, ya_79, ya_80, ya_81, ya_82, ya_83, ya_84, ya_85, ya_86, ya_87, ya_88, ya_89, ya_90, ya_91, h1, t60, and_self]
    unfold x_followEnd
    rw [if_neg t0, show zz_h (zz_w X 7 (t + 1) 13 (yff M t g)) 7 (t + 1) 1 = zz_h M 44 1 t from (yy_slot (by decide)).trans B.ki]
    by_cases ck : zz_h M 44 1 t = 2
    · rw [if_pos ck, if_pos ck, if_neg t0, if_neg t0]
      dsimp only
      rw [show zz_h (zz_w X 7 (t + 1) 13 (yff M t g)) 7 (t + 1) 3 = zz_h M 46 1 t from (yy_slot (by decide)).trans B.ga, show zz_h (zz_w X 7 (t + 1) 13 (yff M t g)) 3 1 16 = zz_h M 40 1 0 from h.A.t]
      have hN := hF.setNext t (zz_r (zz_h M 40 1 0 + zz_h M 46 1 t))
      obtain ⟨dl', X', M', e1, e2, e3, e4, e5⟩ := hN.endMid (by omega) t g h1 h2 (by rw [yy_kind (by decide), sF]; exact f59)
      refine ⟨dl', X', M', e1, ?_, e3.up (by omega), (kx1.w rfl).tr e4, (km1.w rfl).tr e5⟩
      rw [m108 1 (zz_w M 57 1 t (zz_r (zz_h M 40 1 0 + zz_h M 46 1 t))) rfl, zz_w_comm (by decide), ← e2, if_neg (show ¬ (1 : Int) = 0 by decide)]
      rfl
    · rw [if_neg ck, if_neg ck]
      obtain ⟨dl', X', M', e1, e2, e3, e4, e5⟩ := hF.endMid (by omega) t g h1 h2 (by rw [sF]; exact f59)
      refine ⟨dl', X', M', e1, ?_, e3.up (by omega), kx1.tr e4, km1.tr e5⟩
      rw [m108 1 M rfl, ← e2, if_neg (show ¬ (1 : Int) = 0 by decide)]
      rfl
  · simp only [ca, if_true, if_false]
    obtain ⟨dl', X', M', e1, e2, e3, e4, e5⟩ := hF.tell (by omega) t g h1 h2
    refine ⟨dl', X', M', ?_, ?_, e3.up (by omega), kx1.tr (e4.sub (by (intro k j e; first | rfl | (simp [yk_A, yk_B, yk_C, yk_D, yk_E, yk_F, yk_G, yk_M, yk_I, yk_J, yk_L, yk_Lx, yk_Lm, yk_N, yk_U, yn_cx, yn_cm, yn_Lx, yn_Lm, yn_ex] at e ⊢; omega)))), km1.tr (e5.sub (by (intro k j e; first | rfl | (simp [yk_A, yk_B, yk_C, yk_D, yk_E, yk_F, yk_G, yk_M, yk_I, yk_J, yk_L, yk_Lx, yk_Lm, yk_N, yk_U, yn_cx, yn_cm, yn_Lx, yn_Lm, yn_em] at e ⊢; omega))))⟩
    · rw [e1]
      rfl
    · rw [m108 0 M rfl, show zz_h M 40 1 0 = zz_h (zz_w M 59 1 t (yff M t g)) 40 1 0 from rfl, e2]
      by_cases c : g = 0
      · rw [if_pos c, if_pos rfl]
        rfl
      · rw [if_neg c]
        rfl
theorem yS.ends {b : Int} {aw : List Int} {dl : List yd} {X M : zz_S} (h : yS 1 b aw dl X M) (hb : b < 1700000000) (r : Int) (hr : r ∈ aw) :
    ∃ dl' X' M', x_endRun (r + 1) X = some (0, X') ∧ m_ends r (zz_h M 40 1 0) M = some (0, M') ∧ yS 1 (b + 100) (aw.filter (fun q => q != r)) dl' X' M' ∧ yK yn_ex X X' ∧ yK yn_em M M' := by
  have nr := h.A.nr
  have rr := h.A.rr
  obtain ⟨r0, r1, r2⟩ := (h.J.mem r).mp hr
  have I := h.I r r0 r1
  have tr := I.tr
  have B := h.B _ tr.1 tr.2
  have a1 : ¬ r + 1 = 0 := by omega
  have a2 : ¬ zz_h M 75 1 r + 1 = 0 := by omega
  have r2k : r < 2000 := by omega
  -- behind what the body does
  have fin : ∀ (k : Int) (dl1 : List yd) (X1 M1 : zz_S), yS 1 b aw dl1 X1 M1 → yK yn_ex X X1 → yK yn_em M M1 → ∃ dl' X' M', x_endRun_32 (r + 1) (zz_h M 75 1 r + 1) k X1 = some (0, X') ∧ m_ends_35 r (zz_h M 40 1 0) (zz_h M 75 1 r) k M1 = some (0, M') ∧ yS 1 (b + 100) (aw.filter (fun q => q != r)) dl' X' M' ∧ yK yn_ex X X' ∧ yK yn_em M M' := by
    intro k dl1 X1 M1 g kx km
    have n9 : zz_h M1 40 1 9 = zz_h M 40 1 9 := km 40 1 9 rfl
    have n0 : zz_h M1 40 1 0 = zz_h M 40 1 0 := km 40 1 0 rfl
    have go : ∀ (o gg : Int), 1 ≤ o ∧ o ≤ 3 → (gg = 0 ∨ gg = 1) → ∃ dl' X' M', (∃ X2, x_layDown (r + 1) o X1 = some (0, X2) ∧ x_endRun_87 (zz_h M 75 1 r + 1) gg (zz_w (zz_w X2 10 (r + 1) 10 k) 7 (zz_h M 75 1 r + 1) 13 (if gg = 0 then zz_r (zz_h (zz_w X2 10 (r + 1) 10 k) 7 (zz_h M 75 1 r + 1) 13 + 1) else 0)) = some (0, X')) ∧ ((m_frees r o (zz_h M 40 1 0) M1).bind fun q1 => (if zz_b q1.2 81 1 r then (let s2 := zz_w q1.2 81 1 r k; ((m_isActive (zz_h M 75 1 r) s2).bind fun q3 => (if q3.1 = 0 then (m_ends_108 (zz_h M 40 1 0) (zz_h M 75 1 r) gg q3.1 q3.2) else (if zz_b q3.2 44 1 (zz_h M 75 1 r) then (if (zz_h q3.2 44 1 (zz_h M 75 1 r)) = 2 then (if zz_b q3.2 46 1 (zz_h M 75 1 r) then (if zz_b q3.2 57 1 (zz_h M 75 1 r) then (let s4 := zz_w q3.2 57 1 (zz_h M 75 1 r) (zz_r ((zz_h M 40 1 0) + (zz_h q3.2 46 1 (zz_h M 75 1 r)))); (m_ends_108 (zz_h M 40 1 0) (zz_h M 75 1 r) gg q3.1 s4)) else none) else none) else (m_ends_108 (zz_h M 40 1 0) (zz_h M 75 1 r) gg q3.1 q3.2)) else none)))) else none)) = some (0, M') ∧ yS 1 (b + 100) (aw.filter (fun q => q != r)) dl' X' M' ∧ yK yn_ex X X' ∧ yK yn_em M M' := by
      intro o gg ho hgg
      obtain ⟨X2, M2, e1, e2, e3, e4, e5, -⟩ := g.lay r o hr ho
      have e3' := e3.setKind r k
      have n92 : zz_h M2 40 1 9 = zz_h M 40 1 9 := (e5 40 1 9 rfl).trans n9
      have n02 : zz_h M2 40 1 0 = zz_h M 40 1 0 := (e5 40 1 0 rfl).trans n0
      obtain ⟨dl', X', M', f1, f2, f3, f4, f5⟩ := e3'.endTail hb (zz_h M 75 1 r) gg tr.1 (by rw [yy_kind (by decide), n92]; exact tr.2) hgg
      have C2 := e3'.C (zz_h M 75 1 r) tr.1 (by rw [yy_kind (by decide), n92]; exact tr.2)
      have fr := C2.fr
      refine ⟨dl', X', M', ⟨X2, e1, ?_⟩, ?_, f3, kx.tr ((e4.sub (by (intro k j e; first | rfl | (simp [yk_A, yk_B, yk_C, yk_D, yk_E, yk_F, yk_G, yk_M, yk_I, yk_J, yk_L, yk_Lx, yk_Lm, yk_N, yk_U, yn_cx, yn_cm, yn_Lx, yn_Lm, yn_lx, yn_ex] at e ⊢; omega)))).tr ((show yK yn_ex X2 (zz_w X2 10 (r + 1) 10 k) from by (repeat (first | refine yK.w ?_ rfl | exact yK.rf))).tr f4)), km.tr ((e5.sub (by (intro k j e; first | rfl | (simp [yk_A, yk_B, yk_C, yk_D, yk_E, yk_F, yk_G, yk_M, yk_I, yk_J, yk_L, yk_Lx, yk_Lm, yk_N, yk_U, yn_cx, yn_cm, yn_Lx, yn_Lm, yn_lm, yn_em] at e ⊢; omega)))).tr ((show yK yn_em M2 (zz_w M2 81 1 r k) from by (repeat (first | refine yK.w ?_ rfl | exact yK.rf))).tr f5))⟩
      · rw [← f1]
        unfold yff
        rw [C2.fa, yy_r (by omega) (by omega)]
      · rw [n0] at e2
        rw [e2, Option.bind_some]
        dsimp only
        rw [if_pos (show zz_b M2 81 1 r from ⟨r0, by rw [ya_81]; exact r2k⟩), ← n02]
        exact f2
    unfold x_endRun_32 m_ends_35
    by_cases ck : k = -1
    · obtain ⟨dl', X', M', ⟨X2, e1, e2⟩, e3, e4, e5, e6⟩ := go 1 1 (by omega) (Or.inr rfl)
      refine ⟨dl', X', M', ?_, ?_, e4, e5, e6⟩
      · rw [if_pos ck, e1, Option.bind_some, if_neg a1]
        dsimp only
        rw [if_neg a2]
        exact e2
      · rw [if_pos ck]
        exact e3
    · obtain ⟨dl', X', M', ⟨X2, e1, e2⟩, e3, e4, e5, e6⟩ := go 2 0 (by omega) (Or.inl rfl)
      refine ⟨dl', X', M', ?_, ?_, e4, e5, e6⟩
      · rw [if_neg ck, e1, Option.bind_some, if_neg a1]
        dsimp only
        rw [if_neg a2, if_neg a2]
        exact e2
      · rw [if_neg ck]
        exact e3
  obtain ⟨v, p1, p2⟩ := h.planned (zz_h M 75 1 r) (zz_h M 84 1 r)
  unfold x_endRun m_ends
  rw [if_neg a1, I.ta, if_neg a2, if_neg a1, B.nu, I.ti, p1, Option.bind_some, if_pos (show zz_b M 75 1 r from ⟨r0, by rw [ya_75]; exact r2k⟩), if_pos (show zz_b M 84 1 r from ⟨r0, by rw [ya_84]; exact r2k⟩), p2, Option.bind_some]
  dsimp only
  by_cases cv : v = -1
  · obtain ⟨w, dl1, X1, M1, e1, e2, e3, e4, e5⟩ := h.does r r0 r1
    rw [if_pos cv, if_pos cv, e1, e2, Option.bind_some, Option.bind_some]
    exact fin w dl1 X1 M1 e3 (e4.sub (by (intro k j e; first | rfl | (simp [yk_A, yk_B, yk_C, yk_D, yk_E, yk_F, yk_G, yk_M, yk_I, yk_J, yk_L, yk_Lx, yk_Lm, yk_N, yk_U, yn_cx, yn_cm, yn_Lx, yn_Lm, yn_ax, yn_ex] at e ⊢; omega)))) (e5.sub (by (intro k j e; first | rfl | (simp [yk_A, yk_B, yk_C, yk_D, yk_E, yk_F, yk_G, yk_M, yk_I, yk_J, yk_L, yk_Lx, yk_Lm, yk_N, yk_U, yn_cx, yn_cm, yn_Lx, yn_Lm, yn_am, yn_em] at e ⊢; omega))))
  · rw [if_neg cv, if_neg cv]
    exact fin v dl X M h yK.rf yK.rf
