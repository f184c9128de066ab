/-! STAGE B: what comes after what -/
def yEd (M : zz_S) (u v : Int) : Prop := 0 ≤ u ∧ u < zz_h M 40 1 9 ∧ ∃ i, 0 ≤ i ∧ i < zz_h M 68 1 u ∧ zz_h M 69 1 (4 * u + i) = v
def yRe (M : zz_S) (a x : Int) : Prop := ∀ S : Int → Prop, S a → (∀ u v, S u → yEd M u v → S v) → S x
theorem yRe.rf {M : zz_S} {a : Int} : yRe M a a := fun _ h _ => h
theorem yRe.st {M : zz_S} {a u v : Int} (h : yRe M a u) (e : yEd M u v) : yRe M a v := fun S h1 h2 => h2 u v (h S h1 h2) e
theorem yy_pig : ∀ (n : Nat) (l : List Int), l.Nodup → (∀ y ∈ l, 0 ≤ y ∧ y < n) → l.length ≤ n
  | 0, l, _, h => by
    cases l with
    | nil => exact Nat.le_refl _
    | cons a l =>
      have := h a (by simp)
      omega
  | n + 1, l, hn, h => by
    have ih := yy_pig n (l.erase (n : Int)) (hn.erase _) (fun y hy => by
      have := (hn.mem_erase_iff).mp hy
      have := h y this.2
      omega)
    by_cases c : (n : Int) ∈ l
    · rw [List.length_erase_of_mem c] at ih
      omega
    · rw [List.erase_of_not_mem c] at ih
      omega
theorem yy_pig2 {n : Nat} {l : List Int} (hn : l.Nodup) (h : ∀ y ∈ l, 0 ≤ y ∧ y < n) (hl : n ≤ l.length) {x : Int} (h1 : 0 ≤ x) (h2 : x < n) : x ∈ l := by
  refine Classical.byContradiction fun c => ?_
  have := yy_pig n (x :: l) (List.nodup_cons.mpr ⟨c, hn⟩) (fun y hy => by
    rcases List.mem_cons.mp hy with q | q
    · rw [q]
      exact ⟨h1, h2⟩
    · exact h y q)
  rw [List.length_cons] at this
  omega
/-- the chain of the class -/
def yCh (M : zz_S) (a : Int) (L : List Int) (X : zz_S) : Prop := L.Nodup ∧ a ∈ L ∧ (∀ y ∈ L, 0 ≤ y ∧ y < zz_h M 40 1 9 ∧ yRe M a y) ∧ ∀ i (_ : i < L.length), zz_h X 18 1 (i : Nat) = L[i]
theorem x_link_loop {L : List Int} {v : Int} {X : zz_S} (hl : L.length < 60) (h : ∀ i (_ : i < L.length), zz_h X 18 1 (i : Nat) = L[i]) : ∀ (k n i : Nat), i + k = L.length → k < n → (∀ j (_ : j < L.length), j < i → L[j] ≠ v) → x_link_10 n v L.length i X = (if v ∈ L then some ((L.length : Int), X) else some ((L.length : Int) + 1, zz_w X 18 1 L.length v)) := by
  intro k
  induction k with
  | zero =>
    intro n i a b hn
    obtain ⟨n, rfl⟩ : ∃ q, n = q + 1 := ⟨n - 1, by omega⟩
    rw [x_link_10, if_neg (by omega), if_pos (show zz_b X 18 1 (L.length : Int) from ⟨by omega, by rw [ya_18]; omega⟩), yy_r (by omega) (by omega), if_neg]
    intro hm
    obtain ⟨j, hj, e⟩ := List.mem_iff_getElem.mp hm
    exact hn j hj (by omega) e
  | succ k ih =>
    intro n i a b hn
    obtain ⟨n, rfl⟩ : ∃ q, n = q + 1 := ⟨n - 1, by omega⟩
    have hi : i < L.length := by omega
    have r : zz_r ((i : Int) + 1) = ((i + 1 : Nat) : Int) := by rw [yy_r (by omega) (by omega)]; omega
    rw [x_link_10, if_pos (by omega), if_pos (show zz_b X 18 1 (i : Int) from ⟨by omega, by rw [ya_18]; omega⟩), h i hi, r]
    by_cases c : L[i] = v
    · rw [if_pos c, if_pos]
      rw [← c]
      exact List.getElem_mem hi
    · rw [if_neg c]
      refine ih n (i + 1) (by omega) (by omega) fun j hj hj2 => ?_
      by_cases q : j = i
      · subst q
        exact c
      · exact hn j hj (by omega)
theorem x_link_ok {M X : zz_S} {a v : Int} {L : List Int} (h : yCh M a L X) (hn : zz_h M 40 1 9 ≤ 60) (v0 : 0 ≤ v) (v1 : v < zz_h M 40 1 9) (vr : yRe M a v) : ∃ L' X', x_link v L.length X = some ((L'.length : Int), X') ∧ yCh M a L' X' ∧ yK (fun k _ => !(k == 18)) X X' ∧ yQ X X' ∧ v ∈ L' ∧ (∃ R, L' = L ++ R) := by
  obtain ⟨h1, h2, h3, h4⟩ := h
  have fu := yy_fu
  have len := yy_pig (zz_h M 40 1 9).toNat L h1 (fun y hy => by have := h3 y hy; omega)
  unfold x_link
  by_cases c : L.length < 60
  · have e := x_link_loop (v := v) c h4 L.length zz_fu 0 (by omega) (by omega) (fun j _ hj => by omega)
    rw [show ((0 : Nat) : Int) = 0 from rfl] at e
    rw [if_pos (by omega), e]
    by_cases m : v ∈ L
    · rw [if_pos m]
      exact ⟨L, X, rfl, ⟨h1, h2, h3, h4⟩, yK.rf, yQ.rf, m, [], by simp⟩
    · rw [if_neg m]
      refine ⟨L ++ [v], _, by rw [List.length_append, List.length_singleton]; rfl, ⟨?_, ?_, ?_, ?_⟩, by (repeat (first | refine yK.w ?_ rfl | exact yK.rf)), yQ.rf.w, by simp, [v], rfl⟩
      · rw [List.nodup_append]
        refine ⟨h1, by simp, fun x hx y hy z => ?_⟩
        rw [List.mem_singleton] at hy
        exact m (by rw [← hy, ← z]; exact hx)
      · exact List.mem_append.mpr (Or.inl h2)
      · intro y hy
        rcases List.mem_append.mp hy with q | q
        · exact h3 y q
        · rw [List.mem_singleton] at q
          rw [q]
          exact ⟨v0, v1, vr⟩
      · intro i hi
        by_cases q : i < L.length
        · rw [List.getElem_append_left q, yy_slot (by omega)]
          exact h4 i q
        · have q' : i = L.length := by
            rw [List.length_append, List.length_singleton] at hi
            omega
          subst q'
          rw [yy_same, List.getElem_append_right (by omega)]
          simp
  · rw [if_neg (by omega)]
    refine ⟨L, X, rfl, ⟨h1, h2, h3, h4⟩, yK.rf, yQ.rf, ?_, [], by simp⟩
    exact yy_pig2 (n := (zz_h M 40 1 9).toNat) h1 (fun y hy => by have := h3 y hy; omega) (by omega) v0 (by omega)
theorem x_after_notes {M : zz_S} {a u s asked : Int} (K : Int → Int → Int → zz_S → zz_R) (hn : zz_h M 40 1 9 ≤ 60) (u0 : 0 ≤ u) (u1 : u < zz_h M 40 1 9) (ur : yRe M a u) (hF : 0 ≤ zz_h M 68 1 u ∧ zz_h M 68 1 u ≤ 4) : ∀ (k n i : Nat) (L : List Int) (X : zz_S), (i : Int) + k = zz_h M 68 1 u → k < n → zz_h X 9 (u + 1) 2 = zz_h M 68 1 u → (∀ i : Int, 0 ≤ i → i < zz_h M 68 1 u → zz_h X 29 (u + 1) i = zz_h M 69 1 (4 * u + i) ∧ 0 ≤ zz_h M 69 1 (4 * u + i) ∧ zz_h M 69 1 (4 * u + i) < zz_h M 40 1 9) → yCh M a L X → ∃ L' X', x_comesAfter_51 K n s L.length asked (u + 1) i X = K s (L'.length : Int) (zz_r (asked + 1)) X' ∧ yCh M a L' X' ∧ yK (fun k _ => !(k == 18)) X X' ∧ yQ X X' ∧ (∀ j : Int, (i : Int) ≤ j → j < zz_h M 68 1 u → zz_h M 69 1 (4 * u + j) ∈ L') ∧ (∃ R, L' = L ++ R) := by
  have a1 : ¬ u + 1 = 0 := by omega
  intro k
  induction k with
  | zero =>
    intro n i L X a b h9 h29 hc
    obtain ⟨n, rfl⟩ : ∃ q, n = q + 1 := ⟨n - 1, by omega⟩
    refine ⟨L, X, ?_, hc, yK.rf, yQ.rf, fun j j1 j2 => by omega, [], by simp⟩
    rw [x_comesAfter_51]
    simp only [a1, if_false]
    rw [h9, if_neg (by omega)]
  | succ k ih =>
    intro n i L X aa b h9 h29 hc
    obtain ⟨n, rfl⟩ : ∃ q, n = q + 1 := ⟨n - 1, by omega⟩
    have r : zz_r ((i : Int) + 1) = ((i + 1 : Nat) : Int) := by rw [yy_r (by omega) (by omega)]; omega
    obtain ⟨e1, e2, e3⟩ := h29 i (by omega) (by omega)
    obtain ⟨L1, X1, l1, l2, l3, l4, l5, R1, l6⟩ := x_link_ok (v := zz_h M 69 1 (4 * u + i)) hc hn e2 e3 (ur.st ⟨u0, u1, i, by omega, by omega, rfl⟩)
    obtain ⟨L', X', z1, z2, z3, z4, z5, R2, z6⟩ := ih n (i + 1) L1 X1 (by omega) (by omega) ((l3 9 (u + 1) 2 rfl).trans h9) (fun j j1 j2 => by rw [l3 29 (u + 1) j rfl]; exact h29 j j1 j2) l2
    refine ⟨L', X', ?_, z2, l3.tr z3, l4.tr z4, fun j j1 j2 => ?_, R1 ++ R2, by rw [z6, l6, List.append_assoc]⟩
    · rw [x_comesAfter_51]
      simp only [a1, if_false]
      rw [h9, if_pos (by omega), if_pos (show zz_b X 29 (u + 1) (i : Int) from ⟨by omega, by rw [ya_29]; omega⟩), e1, l1, Option.bind_some, r]
      exact z1
    · by_cases q : j = i
      · rw [q, z6]
        exact List.mem_append.mpr (Or.inl l5)
      · exact z5 j (by omega) j2
theorem yS.comesAfter_loop {e : Nat} {b : Int} {aw : List Int} {dl : List yd} {M : zz_S} {a s : Int} : ∀ (k n i : Nat) (L : List Int) (X : zz_S), yS e b aw dl X M → i + k = 60 → k < n → i ≤ L.length → yCh M a L X → (∀ j (_ : j < L.length), j < i → L[j] ≠ s ∧ ∀ v, yEd M L[j] v → v ∈ L) → ∃ X', x_comesAfter_10 n s L.length i X = some (yi (yRe M a s), X') ∧ yK (fun k _ => !(k == 18)) X X' ∧ yQ X X' := by
  intro k
  induction k with
  | zero =>
    intro n i L X h a1 b1 hi hc hd
    obtain ⟨n, rfl⟩ : ∃ q, n = q + 1 := ⟨n - 1, by omega⟩
    have nr := h.A.nr
    have len := yy_pig (zz_h M 40 1 9).toNat L hc.1 (fun y hy => by have := hc.2.2.1 y hy; omega)
    refine ⟨X, ?_, yK.rf, yQ.rf⟩
    rw [x_comesAfter_10, if_neg (by omega), yi_neg]
    intro z
    have := z (fun x => x ∈ L) hc.2.1 (fun u v hu hv => by
      obtain ⟨j, hj, rfl⟩ := List.mem_iff_getElem.mp hu
      exact (hd j hj (by omega)).2 v hv)
    obtain ⟨j, hj, e⟩ := List.mem_iff_getElem.mp this
    exact (hd j hj (by omega)).1 e
  | succ k ih =>
    intro n i L X h a1 b1 hi hc hd
    obtain ⟨n, rfl⟩ : ∃ q, n = q + 1 := ⟨n - 1, by omega⟩
    have nr := h.A.nr
    have fu := yy_fu
    have len := yy_pig (zz_h M 40 1 9).toNat L hc.1 (fun y hy => by have := hc.2.2.1 y hy; omega)
    by_cases c : i < L.length
    · obtain ⟨q1, q2, q3⟩ := hc.2.2.1 L[i] (List.getElem_mem c)
      have B := h.B L[i] q1 q2
      have F := h.F L[i] q1 q2
      have r : zz_r ((i : Int) + 1) = ((i + 1 : Nat) : Int) := by rw [yy_r (by omega) (by omega)]; omega
      have a2 : ¬ L[i] + 1 = 0 := by omega
      rw [x_comesAfter_10, if_pos (by omega), if_pos (show zz_b X 18 1 (i : Int) from ⟨by omega, by rw [ya_18]; omega⟩), hc.2.2.2 i c, x_taskAt_in h q1 q2, Option.bind_some]
      dsimp only
      simp only [a2, if_false]
      rw [B.nu]
      by_cases cs : L[i] = s
      · rw [if_pos cs, yi_pos (by rw [← cs]; exact q3)]
        exact ⟨X, rfl, yK.rf, yQ.rf⟩
      · rw [if_neg cs]
        obtain ⟨L', X', z1, z2, z3, z4, z5, R, z6⟩ := x_after_notes (s := s) (asked := (i : Int)) (x_comesAfter_10 n) nr.2 q1 q2 q3 F.nr (zz_h M 68 1 L[i]).toNat zz_fu 0 L X (by have := F.nr; omega) (by have := F.nr; omega) F.n F.o hc
        rw [show ((0 : Nat) : Int) = 0 from rfl] at z1
        rw [z1, r]
        have h' : yS e b aw dl X' M := by
          have km : yK (fun _ _ => true) M M := yK.rf
          (refine yS.by_ h ?_ ?_ ?_ ?_ ?_ ?_ ?_ ?_ ?_ ?_ ?_ ?_ ?_ ?_ ?_ ?_ <;> try (first | (exact km 40 1 9 rfl)| (exact km 40 1 42 rfl)| (exact km 40 1 0 rfl)| (refine yA.cg (yS.A h) (yK.sub z3 ?_) (yK.sub km ?_) <;> (intro k j e; first | rfl | (simp [yk_A, yk_B, yk_C, yk_D, yk_E, yk_F, yk_G, yk_M, yk_I, yk_J, yk_L, yk_Lx, yk_Lm, yk_N, yk_U, yn_cx, yn_cm, yn_Lx, yn_Lm, yn_Lx] at e ⊢; omega)))| (intro t h1 h2; refine yB.cg (yS.B h t h1 h2) (yK.sub z3 ?_) (yK.sub km ?_) <;> (intro k j e; first | rfl | (simp [yk_A, yk_B, yk_C, yk_D, yk_E, yk_F, yk_G, yk_M, yk_I, yk_J, yk_L, yk_Lx, yk_Lm, yk_N, yk_U, yn_cx, yn_cm, yn_Lx, yn_Lm, yn_Lx] at e ⊢; omega)))| (intro t h1 h2; refine yC.cg (yC.up (yS.C h t h1 h2) (by omega)) (yK.sub z3 ?_) (yK.sub km ?_) <;> (intro k j e; first | rfl | (simp [yk_A, yk_B, yk_C, yk_D, yk_E, yk_F, yk_G, yk_M, yk_I, yk_J, yk_L, yk_Lx, yk_Lm, yk_N, yk_U, yn_cx, yn_cm, yn_Lx, yn_Lm, yn_Lx] at e ⊢; omega)))| (intro t h1 h2; refine yD.cg (yS.D h t h1 h2) (yK.sub z3 ?_) (yK.sub km ?_) <;> (intro k j e; first | rfl | (simp [yk_A, yk_B, yk_C, yk_D, yk_E, yk_F, yk_G, yk_M, yk_I, yk_J, yk_L, yk_Lx, yk_Lm, yk_N, yk_U, yn_cx, yn_cm, yn_Lx, yn_Lm, yn_Lx] at e ⊢; omega)))| (intro t h1 h2; refine yE.cg (yS.E h t h1 h2) (yK.sub z3 ?_) (yK.sub km ?_) <;> (intro k j e; first | rfl | (simp [yk_A, yk_B, yk_C, yk_D, yk_E, yk_F, yk_G, yk_M, yk_I, yk_J, yk_L, yk_Lx, yk_Lm, yk_N, yk_U, yn_cx, yn_cm, yn_Lx, yn_Lm, yn_Lx] at e ⊢; omega)))| (intro t h1 h2; refine yF.cg (yS.F h t h1 h2) (yK.sub z3 ?_) (yK.sub km ?_) <;> (intro k j e; first | rfl | (simp [yk_A, yk_B, yk_C, yk_D, yk_E, yk_F, yk_G, yk_M, yk_I, yk_J, yk_L, yk_Lx, yk_Lm, yk_N, yk_U, yn_cx, yn_cm, yn_Lx, yn_Lm, yn_Lx] at e ⊢; omega)))| (refine yG.cg (yS.G h) (yK.sub z3 ?_) (yK.sub km ?_) <;> (intro k j e; first | rfl | (simp [yk_A, yk_B, yk_C, yk_D, yk_E, yk_F, yk_G, yk_M, yk_I, yk_J, yk_L, yk_Lx, yk_Lm, yk_N, yk_U, yn_cx, yn_cm, yn_Lx, yn_Lm, yn_Lx] at e ⊢; omega)))| (intro t h1 h2; refine yI.cg (yS.I h t h1 h2) (yK.sub z3 ?_) (yK.sub km ?_) <;> (intro k j e; first | rfl | (simp [yk_A, yk_B, yk_C, yk_D, yk_E, yk_F, yk_G, yk_M, yk_I, yk_J, yk_L, yk_Lx, yk_Lm, yk_N, yk_U, yn_cx, yn_cm, yn_Lx, yn_Lm, yn_Lx] at e ⊢; omega)))| (refine yJ.cg (yS.J h) (yK.sub z3 ?_) (yK.sub km ?_) <;> (intro k j e; first | rfl | (simp [yk_A, yk_B, yk_C, yk_D, yk_E, yk_F, yk_G, yk_M, yk_I, yk_J, yk_L, yk_Lx, yk_Lm, yk_N, yk_U, yn_cx, yn_cm, yn_Lx, yn_Lm, yn_Lx] at e ⊢; omega)))| (refine yL.cg (yS.L h) (yK.sub z3 ?_) (yK.sub km ?_) <;> (intro k j e; first | rfl | (simp [yk_A, yk_B, yk_C, yk_D, yk_E, yk_F, yk_G, yk_M, yk_I, yk_J, yk_L, yk_Lx, yk_Lm, yk_N, yk_U, yn_cx, yn_cm, yn_Lx, yn_Lm, yn_Lx] at e ⊢; omega)))| (refine yM.cg (yM.up (yS.R h) (by omega)) (yK.sub z3 ?_) (yK.sub km ?_) <;> (intro k j e; first | rfl | (simp [yk_A, yk_B, yk_C, yk_D, yk_E, yk_F, yk_G, yk_M, yk_I, yk_J, yk_L, yk_Lx, yk_Lm, yk_N, yk_U, yn_cx, yn_cm, yn_Lx, yn_Lm, yn_Lx] at e ⊢; omega)))| (refine yN.cg (yS.N h) (yK.sub z3 ?_) z4 <;> (intro k j e; first | rfl | (simp [yk_A, yk_B, yk_C, yk_D, yk_E, yk_F, yk_G, yk_M, yk_I, yk_J, yk_L, yk_Lx, yk_Lm, yk_N, yk_U, yn_cx, yn_cm, yn_Lx, yn_Lm, yn_Lx] at e ⊢; omega)))| (refine yU.cg (yS.U h) (yK.sub km ?_) <;> (intro k j e; first | rfl | (simp [yk_A, yk_B, yk_C, yk_D, yk_E, yk_F, yk_G, yk_M, yk_I, yk_J, yk_L, yk_Lx, yk_Lm, yk_N, yk_U, yn_cx, yn_cm, yn_Lx, yn_Lm, yn_Lx] at e ⊢; omega)))))
        have lL : L.length ≤ L'.length := by rw [z6, List.length_append]; omega
        obtain ⟨X2, w1, w2, w3⟩ := ih n (i + 1) L' X' h' (by omega) (by omega) (by omega) z2 (fun j hj hj2 => by
          by_cases q : j = i
          · subst q
            have e : L'[j] = L[j] := by
              simp only [z6]
              rw [List.getElem_append_left c]
            rw [e]
            refine ⟨cs, fun v hv => ?_⟩
            obtain ⟨-, -, m, m1, m2, m3⟩ := hv
            rw [← m3]
            exact z5 m (by omega) m2
          · have jl : j < L.length := by omega
            have e : L'[j] = L[j] := by
              simp only [z6]
              rw [List.getElem_append_left jl]
            rw [e]
            obtain ⟨g1, g2⟩ := hd j jl (by omega)
            refine ⟨g1, fun v hv => ?_⟩
            rw [z6]
            exact List.mem_append.mpr (Or.inl (g2 v hv)))
        exact ⟨X2, w1, z3.tr w2, z4.tr w3⟩
    · refine ⟨X, ?_, yK.rf, yQ.rf⟩
      rw [x_comesAfter_10, if_neg (by omega), yi_neg]
      intro z
      have := z (fun x => x ∈ L) hc.2.1 (fun u v hu hv => by
        obtain ⟨j, hj, rfl⟩ := List.mem_iff_getElem.mp hu
        exact (hd j hj (by omega)).2 v hv)
      obtain ⟨j, hj, e⟩ := List.mem_iff_getElem.mp this
      exact (hd j hj (by omega)).1 e
theorem yS.comesAfter {e : Nat} {b : Int} {aw : List Int} {dl : List yd} {X M : zz_S} (h : yS e b aw dl X M) (a s : Int) (a0 : 0 ≤ a) (a1 : a < zz_h M 40 1 9) : ∃ X', x_comesAfter a s X = some (yi (yRe M a s), X') ∧ yS e b aw dl X' M := by
  have fu := yy_fu
  have nr := h.A.nr
  obtain ⟨n, hn⟩ : ∃ n, zz_fu = n + 1 := ⟨zz_fu - 1, by omega⟩
  unfold x_comesAfter
  have e1 : x_link a 0 X = some (1, zz_w X 18 1 0 a) := by
    unfold x_link
    rw [if_pos (by decide), hn, x_link_10, if_neg (by decide), if_pos (show zz_b X 18 1 0 from ⟨by omega, by rw [ya_18]; omega⟩), yy_r (by omega) (by omega)]
    rfl
  rw [e1, Option.bind_some]
  dsimp only
  have hh : yS e b aw dl (zz_w X 18 1 0 a) M := by
    have kx : yK (fun k _ => !(k == 18)) X (zz_w X 18 1 0 a) := by (repeat (first | refine yK.w ?_ rfl | exact yK.rf))
    have km : yK (fun _ _ => true) M M := yK.rf
    have hq : yQ X (zz_w X 18 1 0 a) := yQ.rf.w
    (refine yS.by_ h ?_ ?_ ?_ ?_ ?_ ?_ ?_ ?_ ?_ ?_ ?_ ?_ ?_ ?_ ?_ ?_ <;> try (first | (exact km 40 1 9 rfl)| (exact km 40 1 42 rfl)| (exact km 40 1 0 rfl)| (refine yA.cg (yS.A h) (yK.sub kx ?_) (yK.sub km ?_) <;> (intro k j e; first | rfl | (simp [yk_A, yk_B, yk_C, yk_D, yk_E, yk_F, yk_G, yk_M, yk_I, yk_J, yk_L, yk_Lx, yk_Lm, yk_N, yk_U, yn_cx, yn_cm, yn_Lx, yn_Lm, yn_Lx] at e ⊢; omega)))| (intro t h1 h2; refine yB.cg (yS.B h t h1 h2) (yK.sub kx ?_) (yK.sub km ?_) <;> (intro k j e; first | rfl | (simp [yk_A, yk_B, yk_C, yk_D, yk_E, yk_F, yk_G, yk_M, yk_I, yk_J, yk_L, yk_Lx, yk_Lm, yk_N, yk_U, yn_cx, yn_cm, yn_Lx, yn_Lm, yn_Lx] at e ⊢; omega)))| (intro t h1 h2; refine yC.cg (yC.up (yS.C h t h1 h2) (by omega)) (yK.sub kx ?_) (yK.sub km ?_) <;> (intro k j e; first | rfl | (simp [yk_A, yk_B, yk_C, yk_D, yk_E, yk_F, yk_G, yk_M, yk_I, yk_J, yk_L, yk_Lx, yk_Lm, yk_N, yk_U, yn_cx, yn_cm, yn_Lx, yn_Lm, yn_Lx] at e ⊢; omega)))| (intro t h1 h2; refine yD.cg (yS.D h t h1 h2) (yK.sub kx ?_) (yK.sub km ?_) <;> (intro k j e; first | rfl | (simp [yk_A, yk_B, yk_C, yk_D, yk_E, yk_F, yk_G, yk_M, yk_I, yk_J, yk_L, yk_Lx, yk_Lm, yk_N, yk_U, yn_cx, yn_cm, yn_Lx, yn_Lm, yn_Lx] at e ⊢; omega)))| (intro t h1 h2; refine yE.cg (yS.E h t h1 h2) (yK.sub kx ?_) (yK.sub km ?_) <;> (intro k j e; first | rfl | (simp [yk_A, yk_B, yk_C, yk_D, yk_E, yk_F, yk_G, yk_M, yk_I, yk_J, yk_L, yk_Lx, yk_Lm, yk_N, yk_U, yn_cx, yn_cm, yn_Lx, yn_Lm, yn_Lx] at e ⊢; omega)))| (intro t h1 h2; refine yF.cg (yS.F h t h1 h2) (yK.sub kx ?_) (yK.sub km ?_) <;> (intro k j e; first | rfl | (simp [yk_A, yk_B, yk_C, yk_D, yk_E, yk_F, yk_G, yk_M, yk_I, yk_J, yk_L, yk_Lx, yk_Lm, yk_N, yk_U, yn_cx, yn_cm, yn_Lx, yn_Lm, yn_Lx] at e ⊢; omega)))| (refine yG.cg (yS.G h) (yK.sub kx ?_) (yK.sub km ?_) <;> (intro k j e; first | rfl | (simp [yk_A, yk_B, yk_C, yk_D, yk_E, yk_F, yk_G, yk_M, yk_I, yk_J, yk_L, yk_Lx, yk_Lm, yk_N, yk_U, yn_cx, yn_cm, yn_Lx, yn_Lm, yn_Lx] at e ⊢; omega)))| (intro t h1 h2; refine yI.cg (yS.I h t h1 h2) (yK.sub kx ?_) (yK.sub km ?_) <;> (intro k j e; first | rfl | (simp [yk_A, yk_B, yk_C, yk_D, yk_E, yk_F, yk_G, yk_M, yk_I, yk_J, yk_L, yk_Lx, yk_Lm, yk_N, yk_U, yn_cx, yn_cm, yn_Lx, yn_Lm, yn_Lx] at e ⊢; omega)))| (refine yJ.cg (yS.J h) (yK.sub kx ?_) (yK.sub km ?_) <;> (intro k j e; first | rfl | (simp [yk_A, yk_B, yk_C, yk_D, yk_E, yk_F, yk_G, yk_M, yk_I, yk_J, yk_L, yk_Lx, yk_Lm, yk_N, yk_U, yn_cx, yn_cm, yn_Lx, yn_Lm, yn_Lx] at e ⊢; omega)))| (refine yL.cg (yS.L h) (yK.sub kx ?_) (yK.sub km ?_) <;> (intro k j e; first | rfl | (simp [yk_A, yk_B, yk_C, yk_D, yk_E, yk_F, yk_G, yk_M, yk_I, yk_J, yk_L, yk_Lx, yk_Lm, yk_N, yk_U, yn_cx, yn_cm, yn_Lx, yn_Lm, yn_Lx] at e ⊢; omega)))| (refine yM.cg (yM.up (yS.R h) (by omega)) (yK.sub kx ?_) (yK.sub km ?_) <;> (intro k j e; first | rfl | (simp [yk_A, yk_B, yk_C, yk_D, yk_E, yk_F, yk_G, yk_M, yk_I, yk_J, yk_L, yk_Lx, yk_Lm, yk_N, yk_U, yn_cx, yn_cm, yn_Lx, yn_Lm, yn_Lx] at e ⊢; omega)))| (refine yN.cg (yS.N h) (yK.sub kx ?_) hq <;> (intro k j e; first | rfl | (simp [yk_A, yk_B, yk_C, yk_D, yk_E, yk_F, yk_G, yk_M, yk_I, yk_J, yk_L, yk_Lx, yk_Lm, yk_N, yk_U, yn_cx, yn_cm, yn_Lx, yn_Lm, yn_Lx] at e ⊢; omega)))| (refine yU.cg (yS.U h) (yK.sub km ?_) <;> (intro k j e; first | rfl | (simp [yk_A, yk_B, yk_C, yk_D, yk_E, yk_F, yk_G, yk_M, yk_I, yk_J, yk_L, yk_Lx, yk_Lm, yk_N, yk_U, yn_cx, yn_cm, yn_Lx, yn_Lm, yn_Lx] at e ⊢; omega)))))
  have hc : yCh M a [a] (zz_w X 18 1 0 a) := by
    refine ⟨by simp, by simp, fun y hy => ?_, fun i hi => ?_⟩
    · rw [List.mem_singleton] at hy
      rw [hy]
      exact ⟨a0, a1, yRe.rf⟩
    · rw [List.length_singleton] at hi
      have : i = 0 := by omega
      subst this
      exact yy_same
  obtain ⟨X', z1, z2, z3⟩ := yS.comesAfter_loop (s := s) 60 zz_fu 0 [a] _ hh (by omega) (by omega) (by omega) hc (fun j hj hj2 => by omega)
  refine ⟨X', z1, ?_⟩
  have km : yK (fun _ _ => true) M M := yK.rf
  (refine yS.by_ hh ?_ ?_ ?_ ?_ ?_ ?_ ?_ ?_ ?_ ?_ ?_ ?_ ?_ ?_ ?_ ?_ <;> try (first | (exact km 40 1 9 rfl)| (exact km 40 1 42 rfl)| (exact km 40 1 0 rfl)| (refine yA.cg (yS.A hh) (yK.sub z2 ?_) (yK.sub km ?_) <;> (intro k j e; first | rfl | (simp [yk_A, yk_B, yk_C, yk_D, yk_E, yk_F, yk_G, yk_M, yk_I, yk_J, yk_L, yk_Lx, yk_Lm, yk_N, yk_U, yn_cx, yn_cm, yn_Lx, yn_Lm, yn_Lx] at e ⊢; omega)))| (intro t h1 h2; refine yB.cg (yS.B hh t h1 h2) (yK.sub z2 ?_) (yK.sub km ?_) <;> (intro k j e; first | rfl | (simp [yk_A, yk_B, yk_C, yk_D, yk_E, yk_F, yk_G, yk_M, yk_I, yk_J, yk_L, yk_Lx, yk_Lm, yk_N, yk_U, yn_cx, yn_cm, yn_Lx, yn_Lm, yn_Lx] at e ⊢; omega)))| (intro t h1 h2; refine yC.cg (yC.up (yS.C hh t h1 h2) (by omega)) (yK.sub z2 ?_) (yK.sub km ?_) <;> (intro k j e; first | rfl | (simp [yk_A, yk_B, yk_C, yk_D, yk_E, yk_F, yk_G, yk_M, yk_I, yk_J, yk_L, yk_Lx, yk_Lm, yk_N, yk_U, yn_cx, yn_cm, yn_Lx, yn_Lm, yn_Lx] at e ⊢; omega)))| (intro t h1 h2; refine yD.cg (yS.D hh t h1 h2) (yK.sub z2 ?_) (yK.sub km ?_) <;> (intro k j e; first | rfl | (simp [yk_A, yk_B, yk_C, yk_D, yk_E, yk_F, yk_G, yk_M, yk_I, yk_J, yk_L, yk_Lx, yk_Lm, yk_N, yk_U, yn_cx, yn_cm, yn_Lx, yn_Lm, yn_Lx] at e ⊢; omega)))| (intro t h1 h2; refine yE.cg (yS.E hh t h1 h2) (yK.sub z2 ?_) (yK.sub km ?_) <;> (intro k j e; first | rfl | (simp [yk_A, yk_B, yk_C, yk_D, yk_E, yk_F, yk_G, yk_M, yk_I, yk_J, yk_L, yk_Lx, yk_Lm, yk_N, yk_U, yn_cx, yn_cm, yn_Lx, yn_Lm, yn_Lx] at e ⊢; omega)))| (intro t h1 h2; refine yF.cg (yS.F hh t h1 h2) (yK.sub z2 ?_) (yK.sub km ?_) <;> (intro k j e; first | rfl | (simp [yk_A, yk_B, yk_C, yk_D, yk_E, yk_F, yk_G, yk_M, yk_I, yk_J, yk_L, yk_Lx, yk_Lm, yk_N, yk_U, yn_cx, yn_cm, yn_Lx, yn_Lm, yn_Lx] at e ⊢; omega)))| (refine yG.cg (yS.G hh) (yK.sub z2 ?_) (yK.sub km ?_) <;> (intro k j e; first | rfl | (simp [yk_A, yk_B, yk_C, yk_D, yk_E, yk_F, yk_G, yk_M, yk_I, yk_J, yk_L, yk_Lx, yk_Lm, yk_N, yk_U, yn_cx, yn_cm, yn_Lx, yn_Lm, yn_Lx] at e ⊢; omega)))| (intro t h1 h2; refine yI.cg (yS.I hh t h1 h2) (yK.sub z2 ?_) (yK.sub km ?_) <;> (intro k j e; first | rfl | (simp [yk_A, yk_B, yk_C, yk_D, yk_E, yk_F, yk_G, yk_M, yk_I, yk_J, yk_L, yk_Lx, yk_Lm, yk_N, yk_U, yn_cx, yn_cm, yn_Lx, yn_Lm, yn_Lx] at e ⊢; omega)))| (refine yJ.cg (yS.J hh) (yK.sub z2 ?_) (yK.sub km ?_) <;> (intro k j e; first | rfl | (simp [yk_A, yk_B, yk_C, yk_D, yk_E, yk_F, yk_G, yk_M, yk_I, yk_J, yk_L, yk_Lx, yk_Lm, yk_N, yk_U, yn_cx, yn_cm, yn_Lx, yn_Lm, yn_Lx] at e ⊢; omega)))| (refine yL.cg (yS.L hh) (yK.sub z2 ?_) (yK.sub km ?_) <;> (intro k j e; first | rfl | (simp [yk_A, yk_B, yk_C, yk_D, yk_E, yk_F, yk_G, yk_M, yk_I, yk_J, yk_L, yk_Lx, yk_Lm, yk_N, yk_U, yn_cx, yn_cm, yn_Lx, yn_Lm, yn_Lx] at e ⊢; omega)))| (refine yM.cg (yM.up (yS.R hh) (by omega)) (yK.sub z2 ?_) (yK.sub km ?_) <;> (intro k j e; first | rfl | (simp [yk_A, yk_B, yk_C, yk_D, yk_E, yk_F, yk_G, yk_M, yk_I, yk_J, yk_L, yk_Lx, yk_Lm, yk_N, yk_U, yn_cx, yn_cm, yn_Lx, yn_Lm, yn_Lx] at e ⊢; omega)))| (refine yN.cg (yS.N hh) (yK.sub z2 ?_) z3 <;> (intro k j e; first | rfl | (simp [yk_A, yk_B, yk_C, yk_D, yk_E, yk_F, yk_G, yk_M, yk_I, yk_J, yk_L, yk_Lx, yk_Lm, yk_N, yk_U, yn_cx, yn_cm, yn_Lx, yn_Lm, yn_Lx] at e ⊢; omega)))| (refine yU.cg (yS.U hh) (yK.sub km ?_) <;> (intro k j e; first | rfl | (simp [yk_A, yk_B, yk_C, yk_D, yk_E, yk_F, yk_G, yk_M, yk_I, yk_J, yk_L, yk_Lx, yk_Lm, yk_N, yk_U, yn_cx, yn_cm, yn_Lx, yn_Lm, yn_Lx] at e ⊢; omega)))))
