/-! STAGE B: the dues -/
theorem ydc_rng (p : yd → Bool) (l : List yd) : 0 ≤ ydc p l ∧ ydc p l ≤ l.length := by
  unfold ydc
  have := List.countP_le_length (p := p) (l := l)
  omega
/-- a due is added, on both sides -/
theorem yS.addW {e : Nat} {b : Int} {aw : List Int} {dl : List yd} {X M : zz_S} (h : yS e b aw dl X M) (t u : Int) (h1 : 0 ≤ t) (h2 : t < zz_h M 40 1 9) (ha : zz_h M 56 1 t = 0) (hl : dl.length < 100) (w : Int) (hw : w = zz_h X 7 (t + 1) 16 + 1) :
    yS e b aw (dl ++ [(t, u, 0)]) (zz_w (zz_w (zz_w (zz_w (zz_w X 19 1 dl.length (t + 1)) 20 1 dl.length u) 21 1 dl.length 0) 4 1 3 (dl.length + 1)) 7 (t + 1) 16 w) (zz_w (zz_w (zz_w (zz_w M 85 1 dl.length t) 86 1 dl.length u) 87 1 dl.length 0) 40 1 53 (dl.length + 1)) := by
  (refine yS.by_ h ?_ rfl rfl rfl ?_ ?_ ?_ ?_ ?_ ?_ ?_ ?_ ?_ ?_ ?_ ?_ <;> try (first | (refine yA.cg (yS.A h) ?_ ?_ <;> ((repeat (first | refine yK.w ?_ rfl | exact yK.rf)); done))| (intro t h1 h2; refine yB.cg (yS.B h t h1 h2) ?_ ?_ <;> ((repeat (first | refine yK.w ?_ rfl | exact yK.rf)); done))| (intro t h1 h2; refine yC.cg (yC.up (yS.C h t h1 h2) (by omega)) ?_ ?_ <;> ((repeat (first | refine yK.w ?_ rfl | exact yK.rf)); done))| (intro t h1 h2; refine yD.cg (yS.D h t h1 h2) ?_ ?_ <;> ((repeat (first | refine yK.w ?_ rfl | exact yK.rf)); done))| (intro t h1 h2; refine yE.cg (yS.E h t h1 h2) ?_ ?_ <;> ((repeat (first | refine yK.w ?_ rfl | exact yK.rf)); done))| (intro t h1 h2; refine yF.cg (yS.F h t h1 h2) ?_ ?_ <;> ((repeat (first | refine yK.w ?_ rfl | exact yK.rf)); done))| (refine yG.cg (yS.G h) ?_ ?_ <;> ((repeat (first | refine yK.w ?_ rfl | exact yK.rf)); done))| (intro t h1 h2; refine yI.cg (yS.I h t h1 h2) ?_ ?_ <;> ((repeat (first | refine yK.w ?_ rfl | exact yK.rf)); done))| (refine yJ.cg (yS.J h) ?_ ?_ <;> ((repeat (first | refine yK.w ?_ rfl | exact yK.rf)); done))| (refine yL.cg (yS.L h) ?_ ?_ <;> ((repeat (first | refine yK.w ?_ rfl | exact yK.rf)); done))| (refine yM.cg (yM.up (yS.R h) (by omega)) ?_ ?_ <;> ((repeat (first | refine yK.w ?_ rfl | exact yK.rf)); done))| (refine yN.cg (yS.N h) ?_ (fun _ => ⟨rfl, rfl⟩) <;> ((repeat (first | refine yK.w ?_ rfl | exact yK.rf)); done))| (refine yU.cg (yS.U h) ?_ <;> ((repeat (first | refine yK.w ?_ rfl | exact yK.rf)); done))))
  have a := h.L
  unfold yL yLx yLm
  refine ⟨⟨?_, fun k hk => ?_⟩, ⟨?_, fun k hk => ?_⟩, ?_, ?_, ?_⟩
  · simp [zz_h_w]
  · rw [List.length_append, List.length_singleton] at hk
    by_cases q : k < dl.length
    · have := a.x.a k q
      rw [List.getElem_append_left q]
      have q' : ¬ ((k : Int) = dl.length) := by omega
      simpa [zz_h_w, q', show ¬ k = dl.length by omega] using this
    · have q' : k = dl.length := by omega
      subst q'
      simp [zz_h_w]
  · simp [zz_h_w]
  · rw [List.length_append, List.length_singleton] at hk
    by_cases q : k < dl.length
    · have := a.m.a k q
      rw [List.getElem_append_left q]
      have q' : ¬ ((k : Int) = dl.length) := by omega
      simpa [zz_h_w, q', show ¬ k = dl.length by omega] using this
    · have q' : k = dl.length := by omega
      subst q'
      simp [zz_h_w]
  · rw [List.length_append, List.length_singleton]
    omega
  · intro d hd
    rcases List.mem_append.mp hd with hd | hd
    · simpa [zz_h_w] using a.t d hd
    · rw [List.mem_singleton] at hd
      subst hd
      simp [zz_h_w]
      exact ⟨h1, h2, ha⟩
  · intro s s1 s2
    have := a.wa s s1 (by simpa [zz_h_w] using s2)
    unfold ydc at this ⊢
    rw [List.countP_append, List.countP_singleton]
    by_cases q : s = t
    · subst q
      simp [zz_h_w]
      omega
    · simp [zz_h_w, q, show ¬ t = s from fun z => q z.symm]
      exact this
theorem yS.addDue {e : Nat} {b : Int} {aw : List Int} {dl : List yd} {X M : zz_S} (h : yS e b aw dl X M) (t u : Int) (h1 : 0 ≤ t) (h2 : t < zz_h M 40 1 9) (ha : zz_h M 56 1 t = 0) (hl : dl.length < 100) :
    ∃ X' M', xD_add (t + 1) u X = some (0, X') ∧ (∀ v, m_comes_85 t v M = if zz_h M 40 1 53 = 100 then m_comes_85 t v M else if v = u then some (0, M') else m_comes_85 t v M) ∧ yS e b aw (dl ++ [(t, u, 0)]) X' M' ∧ yK (fun k j => !(k == 19 || k == 20 || k == 21 || (k == 4 && j == 3) || (k == 7 && j == 16))) X X' ∧ yK (fun k j => !(k == 85 || k == 86 || k == 87 || (k == 40 && j == 53))) M M' := by
  have hx := h.L.x.le
  have hm := h.L.m.le
  have wa := h.L.wa t h1 h2
  have wr := ydc_rng (fun d => d.1 == t) dl
  have H := h.addW t u h1 h2 ha hl _ rfl
  refine ⟨_, _, ?_, ?_, H, by (repeat (first | refine yK.w ?_ rfl | exact yK.rf)), by (repeat (first | refine yK.w ?_ rfl | exact yK.rf))⟩
  · unfold xD_add
    have t0 : ¬ t + 1 = 0 := by omega
    have r1 : zz_r ((dl.length : Int) + 1) = dl.length + 1 := yy_r (by omega) (by omega)
    have r2 : zz_r (zz_h X 7 (t + 1) 16 + 1) = zz_h X 7 (t + 1) 16 + 1 := yy_r (by omega) (by omega)
    have l0 : (0 : Int) ≤ dl.length := by omega
    have l1 : (dl.length : Int) < 100 := by omega
    simp [t0, zz_b, ya_11, ya_12, ya_13, ya_14, ya_15, ya_16, ya_17, ya_18, ya_19, ya_20, ya_21, ya_22, ya_23, ya_24, ya_25, ya_26, ya_27, ya_28, ya_29, ya_30, ya_41, ya_42, ya_43, ya_44, ya_45, ya_46, ya_47, ya_48, ya_49, ya_50, ya_51, ya_52, ya_53, ya_54, ya_55, ya_56, ya_57, ya_58, ya_59, ya_60, ya_61, ya_62, ya_63, ya_64, ya_65, ya_66, ya_67, ya_68, ya_69, ya_70, ya_71, ya_72, ya_73, ya_74, ya_75, ya_76, ya_77, ya_78, ya_79, ya_80, ya_81, ya_82, ya_83, ya_84, ya_85, ya_86, ya_87, ya_88, ya_89, ya_90, ya_91, hx, zz_h_w, l0, l1, r1, r2]
  · intro v
    split
    · rfl
    · split
      · rename_i c d
        subst d
        unfold m_comes_85
        have r1 : zz_r ((dl.length : Int) + 1) = dl.length + 1 := yy_r (by omega) (by omega)
        have l0 : (0 : Int) ≤ dl.length := by omega
        have l1 : (dl.length : Int) < 100 := by omega
        have c' : ¬ (dl.length : Int) = 100 := by omega
        simp [zz_b, ya_11, ya_12, ya_13, ya_14, ya_15, ya_16, ya_17, ya_18, ya_19, ya_20, ya_21, ya_22, ya_23, ya_24, ya_25, ya_26, ya_27, ya_28, ya_29, ya_30, ya_41, ya_42, ya_43, ya_44, ya_45, ya_46, ya_47, ya_48, ya_49, ya_50, ya_51, ya_52, ya_53, ya_54, ya_55, ya_56, ya_57, ya_58, ya_59, ya_60, ya_61, ya_62, ya_63, ya_64, ya_65, ya_66, ya_67, ya_68, ya_69, ya_70, ya_71, ya_72, ya_73, ya_74, ya_75, ya_76, ya_77, ya_78, ya_79, ya_80, ya_81, ya_82, ya_83, ya_84, ya_85, ya_86, ya_87, ya_88, ya_89, ya_90, ya_91, hm, zz_h_w, l0, l1, r1, c', show ¬ dl.length = 100 by omega]
      · rfl
