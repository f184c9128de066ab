/-! STAGE B: the reference's way to what comes after what -/
theorem yy_ct_le {p q : Int → Bool} : ∀ n : Nat, (∀ j : Int, 0 ≤ j → j < n → p j = true → q j = true) → yy_ct p n ≤ yy_ct q n
  | 0, _ => Int.le_refl _
  | n + 1, h => by
    have ih := yy_ct_le n (fun j a b => h j a (by omega))
    have := h n (by omega) (by omega)
    rw [yy_ct, yy_ct]
    cases c : p n
    · cases d : q n <;> simp <;> omega
    · rw [this c]
      simp
      omega
theorem yy_ct_lt {p q : Int → Bool} : ∀ n : Nat, (∀ j : Int, 0 ≤ j → j < n → p j = true → q j = true) → (∃ j : Int, 0 ≤ j ∧ j < n ∧ p j = false ∧ q j = true) → yy_ct p n < yy_ct q n
  | 0, _, ⟨j, a, b, _⟩ => by omega
  | n + 1, h, ⟨j, a, b, c, d⟩ => by
    have h' : ∀ j : Int, 0 ≤ j → j < n → p j = true → q j = true := fun j a b => h j a (by omega)
    by_cases e : j = n
    · have ih := yy_ct_le n h'
      rw [yy_ct, yy_ct, ← e, c, d]
      simp
      omega
    · have ih := yy_ct_lt n h' ⟨j, a, by omega, c, d⟩
      have := h n (by omega) (by omega)
      rw [yy_ct, yy_ct]
      cases f : p n
      · cases g : q n <;> simp <;> omega
      · rw [this f]
        simp
        omega
def yLr (M : zz_S) (a : Int) (s : zz_S) : Prop := yK (fun k _ => !(k == 91)) M s ∧ (∀ x : Int, 0 ≤ x → x < zz_h M 40 1 9 → zz_h s 91 1 x = 0 ∨ zz_h s 91 1 x = 1) ∧ zz_h s 91 1 a = 1 ∧ (∀ x : Int, 0 ≤ x → x < zz_h M 40 1 9 → zz_h s 91 1 x = 1 → yRe M a x)
def yRc (M s : zz_S) : Int := yy_ct (fun j => decide (zz_h s 91 1 j = 1)) (zz_h M 40 1 9).toNat
def yNo (M : zz_S) : Prop := zz_h M 40 1 9 ≤ 60 ∧ ∀ u, 0 ≤ u → u < zz_h M 40 1 9 → (0 ≤ zz_h M 68 1 u ∧ zz_h M 68 1 u ≤ 4) ∧ ∀ i : Int, 0 ≤ i → i < zz_h M 68 1 u → 0 ≤ zz_h M 69 1 (4 * u + i) ∧ zz_h M 69 1 (4 * u + i) < zz_h M 40 1 9
theorem m_leads_notes {M : zz_S} {a t to : Int} (hN : yNo M) (K : Int → Int → zz_S → zz_R) (K' : Int → Int → Int → zz_S → zz_R) (t0 : 0 ≤ t) (t1 : t < zz_h M 40 1 9) : ∀ (k n i : Nat) (more : Int) (s : zz_S), (i : Int) + k = zz_h M 68 1 t → k < n → yLr M a s → zz_h s 91 1 t = 1 → ∃ s' more', m_leads_69 K K' n to more t (4 * t + i) s = K' to more' (zz_r (t + 1)) s' ∧ yLr M a s' ∧ (∀ x : Int, zz_h s 91 1 x = 1 → zz_h s' 91 1 x = 1) ∧ (∀ j : Int, i ≤ j → j < zz_h M 68 1 t → zz_h s' 91 1 (zz_h M 69 1 (4 * t + j)) = 1) ∧ ((more' = more ∧ s' = s) ∨ (more' = 1 ∧ yRc M s < yRc M s')) := by
  obtain ⟨n60, hF⟩ := hN
  obtain ⟨hF1, hF2⟩ := hF t t0 t1
  have r4 : zz_r (4 * t) = 4 * t := yy_r (by omega) (by omega)
  have r5 : zz_r (4 * t + zz_h M 68 1 t) = 4 * t + zz_h M 68 1 t := yy_r (by omega) (by omega)
  have b68 : ∀ s, zz_b s 68 1 t := fun s => ⟨t0, by rw [ya_68]; omega⟩
  intro k
  induction k with
  | zero =>
    intro n i more s aa b h ht
    obtain ⟨n, rfl⟩ : ∃ q, n = q + 1 := ⟨n - 1, by omega⟩
    refine ⟨s, more, ?_, h, fun x hx => hx, fun j j1 j2 => by omega, Or.inl ⟨rfl, rfl⟩⟩
    rw [m_leads_69, if_pos (b68 s), h.1 68 1 t rfl, r4, r5, if_neg (by omega)]
  | succ k ih =>
    intro n i more s aa b h ht
    obtain ⟨n, rfl⟩ : ∃ q, n = q + 1 := ⟨n - 1, by omega⟩
    obtain ⟨v0, v1⟩ := hF2 i (by omega) (by omega)
    have r : zz_r (4 * t + (i : Int) + 1) = 4 * t + ((i + 1 : Nat) : Int) := by rw [yy_r (by omega) (by omega)]; omega
    have b69 : zz_b s 69 1 (4 * t + (i : Int)) := ⟨by omega, by rw [ya_69]; omega⟩
    have b91 : zz_b s 91 1 (zz_h M 69 1 (4 * t + (i : Int))) := ⟨v0, by rw [ya_91]; omega⟩
    rw [m_leads_69, if_pos (b68 s), h.1 68 1 t rfl, r4, r5, if_pos (by omega), if_pos b69, if_pos b69, h.1 69 1 (4 * t + (i : Int)) rfl, if_pos b91, if_pos b91, r]
    by_cases c : zz_h s 91 1 (zz_h M 69 1 (4 * t + (i : Int))) = 0
    · rw [if_pos c]
      obtain ⟨h1, h2, h3, h4⟩ := h
      have hs : yLr M a (zz_w s 91 1 (zz_h M 69 1 (4 * t + (i : Int))) 1) := by
        refine ⟨h1.w rfl, fun x x0 x1 => ?_, ?_, fun x x0 x1 hx => ?_⟩
        · rw [zz_h_w]
          split
          · exact Or.inr rfl
          · exact h2 x x0 x1
        · rw [zz_h_w]
          split
          · rfl
          · exact h3
        · by_cases q : x = zz_h M 69 1 (4 * t + (i : Int))
          · rw [q]
            exact (h4 t t0 t1 ht).st ⟨t0, t1, i, by omega, by omega, rfl⟩
          · rw [yy_slot q] at hx
            exact h4 x x0 x1 hx
      have mono : ∀ x : Int, zz_h s 91 1 x = 1 → zz_h (zz_w s 91 1 (zz_h M 69 1 (4 * t + (i : Int))) 1) 91 1 x = 1 := by
        intro x hx
        rw [zz_h_w]
        split
        · rfl
        · exact hx
      have lt : yRc M s < yRc M (zz_w s 91 1 (zz_h M 69 1 (4 * t + (i : Int))) 1) := by
        refine yy_ct_lt _ (fun j _ _ hj => ?_) ⟨zz_h M 69 1 (4 * t + (i : Int)), v0, by omega, ?_, ?_⟩
        · rw [decide_eq_true_eq] at hj ⊢
          exact mono j hj
        · rw [c]
          rfl
        · rw [yy_same]
          rfl
      obtain ⟨s', more', z1, z2, z3, z4, z5⟩ := ih n (i + 1) 1 _ (by omega) (by omega) hs (mono t ht)
      refine ⟨s', more', z1, z2, fun x hx => z3 x (mono x hx), fun j j1 j2 => ?_, Or.inr ?_⟩
      · by_cases q : j = i
        · rw [q]
          exact z3 _ yy_same
        · exact z4 j (by omega) j2
      · rcases z5 with ⟨w1, w2⟩ | ⟨w1, w2⟩
        · rw [w2]
          exact ⟨w1, lt⟩
        · exact ⟨w1, Int.lt_trans lt w2⟩
    · rw [if_neg c]
      obtain ⟨s', more', z1, z2, z3, z4, z5⟩ := ih n (i + 1) more s (by omega) (by omega) h ht
      refine ⟨s', more', z1, z2, z3, fun j j1 j2 => ?_, z5⟩
      by_cases q : j = i
      · rw [q]
        exact z3 _ ((h.2.1 _ v0 v1).resolve_left c)
      · exact z4 j (by omega) j2
theorem m_leads_pass {M : zz_S} {a to : Int} (hN : yNo M) (K : Int → Int → zz_S → zz_R) : ∀ (k n i : Nat) (more : Int) (s : zz_S), (i : Int) + k = zz_h M 40 1 9 → k < n → yLr M a s → ∃ s' more', m_leads_41 K n to more i s = K to more' s' ∧ yLr M a s' ∧ ((more' = more ∧ s' = s ∧ ∀ u : Int, i ≤ u → u < zz_h M 40 1 9 → zz_h s 91 1 u = 1 → ∀ v, yEd M u v → zz_h s 91 1 v = 1) ∨ (more' = 1 ∧ yRc M s < yRc M s')) := by
  intro k
  induction k with
  | zero =>
    intro n i more s aa b h
    obtain ⟨n, rfl⟩ : ∃ q, n = q + 1 := ⟨n - 1, by omega⟩
    refine ⟨s, more, ?_, h, Or.inl ⟨rfl, rfl, fun u u1 u2 => by omega⟩⟩
    rw [m_leads_41, h.1 40 1 9 rfl, if_neg (by omega)]
  | succ k ih =>
    intro n i more s aa b h
    obtain ⟨n, rfl⟩ : ∃ q, n = q + 1 := ⟨n - 1, by omega⟩
    have n60 := hN.1
    have fu := yy_fu
    have r : zz_r ((i : Int) + 1) = ((i + 1 : Nat) : Int) := by rw [yy_r (by omega) (by omega)]; omega
    rw [m_leads_41, h.1 40 1 9 rfl, if_pos (by omega), if_pos (show zz_b s 91 1 (i : Int) from ⟨by omega, by rw [ya_91]; omega⟩), r]
    by_cases c : zz_h s 91 1 (i : Int) = 0
    · rw [if_pos c]
      obtain ⟨s', more', z1, z2, z3⟩ := ih n (i + 1) more s (by omega) (by omega) h
      refine ⟨s', more', z1, z2, ?_⟩
      rcases z3 with ⟨w1, w2, w3⟩ | w
      · refine Or.inl ⟨w1, w2, fun u u1 u2 hu => ?_⟩
        by_cases q : u = i
        · rw [q] at hu
          omega
        · exact w3 u (by omega) u2 hu
      · exact Or.inr w
    · rw [if_neg c]
      have c1 : zz_h s 91 1 (i : Int) = 1 := (h.2.1 i (by omega) (by omega)).resolve_left c
      obtain ⟨hF1, hF2⟩ := hN.2 i (by omega) (by omega)
      obtain ⟨s1, more1, y1, y2, y3, y4, y5⟩ := m_leads_notes (to := to) hN K (m_leads_41 K n) (by omega) (by omega) (zz_h M 68 1 (i : Int)).toNat zz_fu 0 more s (by omega) (by omega) h c1
      rw [yy_r (z := 4 * (i : Int)) (by omega) (by omega), show 4 * (i : Int) = 4 * (i : Int) + ((0 : Nat) : Int) by omega, y1, r]
      obtain ⟨s', more', z1, z2, z3⟩ := ih n (i + 1) more1 s1 (by omega) (by omega) y2
      refine ⟨s', more', z1, z2, ?_⟩
      rcases y5 with ⟨p1, p2⟩ | ⟨p1, p2⟩
      · subst p2
        rcases z3 with ⟨w1, w2, w3⟩ | w
        · refine Or.inl ⟨w1.trans p1, w2, fun u u1 u2 hu v hv => ?_⟩
          by_cases q : u = i
          · subst q
            obtain ⟨-, -, j, j1, j2, j3⟩ := hv
            rw [← j3]
            exact y4 j (by omega) j2
          · exact w3 u (by omega) u2 hu v hv
        · exact Or.inr w
      · rcases z3 with ⟨w1, w2, w3⟩ | ⟨w1, w2⟩
        · rw [w2]
          exact Or.inr ⟨w1.trans p1, p2⟩
        · exact Or.inr ⟨w1, Int.lt_trans p2 w2⟩
theorem m_leads_fix {M : zz_S} {a to : Int} (hN : yNo M) (a0 : 0 ≤ a) (a1 : a < zz_h M 40 1 9) (b0 : 0 ≤ to) (b1 : to < zz_h M 40 1 9) : ∀ (k n : Nat) (s : zz_S), yLr M a s → zz_h M 40 1 9 - yRc M s ≤ k → k + 1 < n → ∃ s', m_leads_32 n to 1 s = some (yi (yRe M a to), s') ∧ yK (fun k _ => !(k == 91)) M s' := by
  intro k
  induction k with
  | zero =>
    intro n s h hk hn
    obtain ⟨n, rfl⟩ : ∃ q, n = q + 1 := ⟨n - 1, by omega⟩
    obtain ⟨n, rfl⟩ : ∃ q, n = q + 1 := ⟨n - 1, by omega⟩
    have n60 := hN.1
    have fu := yy_fu
    obtain ⟨s', more', z1, z2, z3⟩ := m_leads_pass (a := a) (to := to) hN (m_leads_32 (n + 1)) (zz_h M 40 1 9).toNat zz_fu 0 0 s (by omega) (by omega) h
    rw [show ((0 : Nat) : Int) = 0 from rfl] at z1
    rw [m_leads_32, if_neg yy_10, z1]
    rcases z3 with ⟨w1, w2, w3⟩ | ⟨w1, w2⟩
    · subst w2
      refine ⟨s', ?_, h.1⟩
      rw [m_leads_32, if_pos (by omega), if_pos (show zz_b s' 91 1 to from ⟨b0, by rw [ya_91]; omega⟩), if_pos (h.2.1 to b0 b1)]
      congr 2
      by_cases c : yRe M a to
      · rw [yi_pos c]
        exact (c (fun x => 0 ≤ x ∧ x < zz_h M 40 1 9 ∧ zz_h s' 91 1 x = 1) ⟨a0, a1, h.2.2.1⟩ (fun u v hu hv => by
          obtain ⟨g1, g2, g3⟩ := hu
          have hv' := hv
          obtain ⟨-, -, j, j1, j2, j3⟩ := hv'
          obtain ⟨f1, f2⟩ := (hN.2 u g1 g2).2 j j1 j2
          exact ⟨by omega, by omega, w3 u (by omega) g2 g3 v hv⟩)).2.2
      · rw [yi_neg c]
        exact (h.2.1 to b0 b1).resolve_right (fun z => c (h.2.2.2 to b0 b1 z))
    · have := (yy_ct_rng (fun j => decide (zz_h s' 91 1 j = 1)) (zz_h M 40 1 9).toNat).2
      unfold yRc at hk w2
      omega
  | succ k ih =>
    intro n s h hk hn
    obtain ⟨n, rfl⟩ : ∃ q, n = q + 1 := ⟨n - 1, by omega⟩
    have n60 := hN.1
    have fu := yy_fu
    obtain ⟨s', more', z1, z2, z3⟩ := m_leads_pass (a := a) (to := to) hN (m_leads_32 n) (zz_h M 40 1 9).toNat zz_fu 0 0 s (by omega) (by omega) h
    rw [show ((0 : Nat) : Int) = 0 from rfl] at z1
    rw [m_leads_32, if_neg yy_10, z1]
    rcases z3 with ⟨w1, w2, w3⟩ | ⟨w1, w2⟩
    · subst w2
      obtain ⟨n, rfl⟩ : ∃ q, n = q + 1 := ⟨n - 1, by omega⟩
      refine ⟨s', ?_, h.1⟩
      rw [m_leads_32, if_pos (by omega), if_pos (show zz_b s' 91 1 to from ⟨b0, by rw [ya_91]; omega⟩), if_pos (h.2.1 to b0 b1)]
      congr 2
      by_cases c : yRe M a to
      · rw [yi_pos c]
        exact (c (fun x => 0 ≤ x ∧ x < zz_h M 40 1 9 ∧ zz_h s' 91 1 x = 1) ⟨a0, a1, h.2.2.1⟩ (fun u v hu hv => by
          obtain ⟨g1, g2, g3⟩ := hu
          have hv' := hv
          obtain ⟨-, -, j, j1, j2, j3⟩ := hv'
          obtain ⟨f1, f2⟩ := (hN.2 u g1 g2).2 j j1 j2
          exact ⟨by omega, by omega, w3 u (by omega) g2 g3 v hv⟩)).2.2
      · rw [yi_neg c]
        exact (h.2.1 to b0 b1).resolve_right (fun z => c (h.2.2.2 to b0 b1 z))
    · rw [w1]
      exact ih n s' z2 (by omega) (by omega)
theorem m_leads_clear {M : zz_S} {a to : Int} (n60 : zz_h M 40 1 9 ≤ 60) (a0 : 0 ≤ a) (a1 : a < zz_h M 40 1 9) : ∀ (k n i : Nat) (s : zz_S), (i : Int) + k = zz_h M 40 1 9 → k < n → yK (fun k _ => !(k == 91)) M s → (∀ x : Int, 0 ≤ x → x < i → zz_h s 91 1 x = 0) → ∃ s', m_leads_2 n a to i s = m_leads_32 zz_fu to 1 (zz_w s' 91 1 a 1) ∧ yK (fun k _ => !(k == 91)) M s' ∧ (∀ x : Int, 0 ≤ x → x < zz_h M 40 1 9 → zz_h s' 91 1 x = 0) := by
  intro k
  induction k with
  | zero =>
    intro n i s aa b h hz
    obtain ⟨n, rfl⟩ : ∃ q, n = q + 1 := ⟨n - 1, by omega⟩
    refine ⟨s, ?_, h, fun x x0 x1 => hz x x0 (by omega)⟩
    rw [m_leads_2, h 40 1 9 rfl, if_neg (by omega), if_pos (show zz_b s 91 1 a from ⟨a0, by rw [ya_91]; omega⟩)]
  | succ k ih =>
    intro n i s aa b h hz
    obtain ⟨n, rfl⟩ : ∃ q, n = q + 1 := ⟨n - 1, by omega⟩
    have r : zz_r ((i : Int) + 1) = ((i + 1 : Nat) : Int) := by rw [yy_r (by omega) (by omega)]; omega
    obtain ⟨s', z1, z2, z3⟩ := ih n (i + 1) (zz_w s 91 1 (i : Int) 0) (by omega) (by omega) (h.w rfl) (fun x x0 x1 => by
      by_cases q : x = i
      · rw [q, yy_same]
      · rw [yy_slot q]
        exact hz x x0 (by omega))
    refine ⟨s', ?_, z2, z3⟩
    rw [m_leads_2, h 40 1 9 rfl, if_pos (by omega), if_pos (show zz_b s 91 1 (i : Int) from ⟨by omega, by rw [ya_91]; omega⟩), r]
    exact z1
theorem yS.leads {e : Nat} {b : Int} {aw : List Int} {dl : List yd} {X M : zz_S} (h : yS e b aw dl X M) (a to : Int) (a0 : 0 ≤ a) (a1 : a < zz_h M 40 1 9) (b0 : 0 ≤ to) (b1 : to < zz_h M 40 1 9) : ∃ M', m_leads a to M = some (yi (yRe M a to), M') ∧ yS e b aw dl X M' ∧ yK (fun k _ => !(k == 91)) M M' := by
  have fu := yy_fu
  have nr := h.A.nr
  have hN : yNo M := ⟨nr.2, fun u u0 u1 => ⟨(h.F u u0 u1).nr, fun i i0 i1 => ((h.F u u0 u1).o i i0 i1).2⟩⟩
  obtain ⟨s', z1, z2, z3⟩ := m_leads_clear (to := to) nr.2 a0 a1 (zz_h M 40 1 9).toNat zz_fu 0 M (by omega) (by omega) yK.rf (fun x x0 x1 => by omega)
  have hl : yLr M a (zz_w s' 91 1 a 1) := by
    refine ⟨z2.w rfl, fun x x0 x1 => ?_, yy_same, fun x x0 x1 hx => ?_⟩
    · by_cases q : x = a
      · rw [q, yy_same]
        exact Or.inr rfl
      · rw [yy_slot q]
        exact Or.inl (z3 x x0 x1)
    · by_cases q : x = a
      · rw [q]
        exact yRe.rf
      · rw [yy_slot q, z3 x x0 x1] at hx
        omega
  have rg := (yy_ct_rng (fun j => decide (zz_h (zz_w s' 91 1 a 1) 91 1 j = 1)) (zz_h M 40 1 9).toNat).1
  obtain ⟨M', w1, w2⟩ := m_leads_fix hN a0 a1 b0 b1 60 zz_fu _ hl (by unfold yRc; omega) (by omega)
  refine ⟨M', ?_, ?_, w2⟩
  · unfold m_leads
    rw [show (0 : Int) = ((0 : Nat) : Int) from rfl, z1, w1]
  · have kx : yK (fun _ _ => true) X X := yK.rf
    have hq : yQ X X := yQ.rf
    (refine yS.by_ h ?_ ?_ ?_ ?_ ?_ ?_ ?_ ?_ ?_ ?_ ?_ ?_ ?_ ?_ ?_ ?_ <;> try (first | (exact w2 40 1 9 rfl)| (exact w2 40 1 42 rfl)| (exact w2 40 1 0 rfl)| (refine yA.cg (yS.A h) (yK.sub kx ?_) (yK.sub w2 ?_) <;> (intro k j e; first | rfl | (simp [yk_A, yk_B, yk_C, yk_D, yk_E, yk_F, yk_G, yk_M, yk_I, yk_J, yk_L, yk_Lx, yk_Lm, yk_N, yk_U, yn_cx, yn_cm, yn_Lx, yn_Lm, yn_Lx] at e ⊢; omega)))| (intro t h1 h2; refine yB.cg (yS.B h t h1 h2) (yK.sub kx ?_) (yK.sub w2 ?_) <;> (intro k j e; first | rfl | (simp [yk_A, yk_B, yk_C, yk_D, yk_E, yk_F, yk_G, yk_M, yk_I, yk_J, yk_L, yk_Lx, yk_Lm, yk_N, yk_U, yn_cx, yn_cm, yn_Lx, yn_Lm, yn_Lx] at e ⊢; omega)))| (intro t h1 h2; refine yC.cg (yC.up (yS.C h t h1 h2) (by omega)) (yK.sub kx ?_) (yK.sub w2 ?_) <;> (intro k j e; first | rfl | (simp [yk_A, yk_B, yk_C, yk_D, yk_E, yk_F, yk_G, yk_M, yk_I, yk_J, yk_L, yk_Lx, yk_Lm, yk_N, yk_U, yn_cx, yn_cm, yn_Lx, yn_Lm, yn_Lx] at e ⊢; omega)))| (intro t h1 h2; refine yD.cg (yS.D h t h1 h2) (yK.sub kx ?_) (yK.sub w2 ?_) <;> (intro k j e; first | rfl | (simp [yk_A, yk_B, yk_C, yk_D, yk_E, yk_F, yk_G, yk_M, yk_I, yk_J, yk_L, yk_Lx, yk_Lm, yk_N, yk_U, yn_cx, yn_cm, yn_Lx, yn_Lm, yn_Lx] at e ⊢; omega)))| (intro t h1 h2; refine yE.cg (yS.E h t h1 h2) (yK.sub kx ?_) (yK.sub w2 ?_) <;> (intro k j e; first | rfl | (simp [yk_A, yk_B, yk_C, yk_D, yk_E, yk_F, yk_G, yk_M, yk_I, yk_J, yk_L, yk_Lx, yk_Lm, yk_N, yk_U, yn_cx, yn_cm, yn_Lx, yn_Lm, yn_Lx] at e ⊢; omega)))| (intro t h1 h2; refine yF.cg (yS.F h t h1 h2) (yK.sub kx ?_) (yK.sub w2 ?_) <;> (intro k j e; first | rfl | (simp [yk_A, yk_B, yk_C, yk_D, yk_E, yk_F, yk_G, yk_M, yk_I, yk_J, yk_L, yk_Lx, yk_Lm, yk_N, yk_U, yn_cx, yn_cm, yn_Lx, yn_Lm, yn_Lx] at e ⊢; omega)))| (refine yG.cg (yS.G h) (yK.sub kx ?_) (yK.sub w2 ?_) <;> (intro k j e; first | rfl | (simp [yk_A, yk_B, yk_C, yk_D, yk_E, yk_F, yk_G, yk_M, yk_I, yk_J, yk_L, yk_Lx, yk_Lm, yk_N, yk_U, yn_cx, yn_cm, yn_Lx, yn_Lm, yn_Lx] at e ⊢; omega)))| (intro t h1 h2; refine yI.cg (yS.I h t h1 h2) (yK.sub kx ?_) (yK.sub w2 ?_) <;> (intro k j e; first | rfl | (simp [yk_A, yk_B, yk_C, yk_D, yk_E, yk_F, yk_G, yk_M, yk_I, yk_J, yk_L, yk_Lx, yk_Lm, yk_N, yk_U, yn_cx, yn_cm, yn_Lx, yn_Lm, yn_Lx] at e ⊢; omega)))| (refine yJ.cg (yS.J h) (yK.sub kx ?_) (yK.sub w2 ?_) <;> (intro k j e; first | rfl | (simp [yk_A, yk_B, yk_C, yk_D, yk_E, yk_F, yk_G, yk_M, yk_I, yk_J, yk_L, yk_Lx, yk_Lm, yk_N, yk_U, yn_cx, yn_cm, yn_Lx, yn_Lm, yn_Lx] at e ⊢; omega)))| (refine yL.cg (yS.L h) (yK.sub kx ?_) (yK.sub w2 ?_) <;> (intro k j e; first | rfl | (simp [yk_A, yk_B, yk_C, yk_D, yk_E, yk_F, yk_G, yk_M, yk_I, yk_J, yk_L, yk_Lx, yk_Lm, yk_N, yk_U, yn_cx, yn_cm, yn_Lx, yn_Lm, yn_Lx] at e ⊢; omega)))| (refine yM.cg (yM.up (yS.R h) (by omega)) (yK.sub kx ?_) (yK.sub w2 ?_) <;> (intro k j e; first | rfl | (simp [yk_A, yk_B, yk_C, yk_D, yk_E, yk_F, yk_G, yk_M, yk_I, yk_J, yk_L, yk_Lx, yk_Lm, yk_N, yk_U, yn_cx, yn_cm, yn_Lx, yn_Lm, yn_Lx] at e ⊢; omega)))| (refine yN.cg (yS.N h) (yK.sub kx ?_) hq <;> (intro k j e; first | rfl | (simp [yk_A, yk_B, yk_C, yk_D, yk_E, yk_F, yk_G, yk_M, yk_I, yk_J, yk_L, yk_Lx, yk_Lm, yk_N, yk_U, yn_cx, yn_cm, yn_Lx, yn_Lm, yn_Lx] at e ⊢; omega)))| (refine yU.cg (yS.U h) (yK.sub w2 ?_) <;> (intro k j e; first | rfl | (simp [yk_A, yk_B, yk_C, yk_D, yk_E, yk_F, yk_G, yk_M, yk_I, yk_J, yk_L, yk_Lx, yk_Lm, yk_N, yk_U, yn_cx, yn_cm, yn_Lx, yn_Lm, yn_Lx] at e ⊢; omega)))))
theorem yW.after {c : Int} {X M : zz_S} (hW : yW c X M) (t o w : Int) : yR c (x_after t o w) (m_after t o w) X M := by
  obtain ⟨aw, dl, h⟩ := hW
  have nr := h.A.nr
  have hW : yW c X M := ⟨aw, dl, h⟩
  unfold yR x_after m_after
  by_cases g : 0 ≤ t ∧ t < zz_h M 40 1 9
  · have B := h.B t g.1 g.2
    have a1 : ¬ t + 1 = 0 := by omega
    have b44 : zz_b M 44 1 t := ⟨g.1, by rw [ya_44]; omega⟩
    rw [x_taskAt_in h g.1 g.2, m_isTask_ok _ _ nr, if_pos g, Option.bind_some, Option.bind_some]
    dsimp only
    simp only [a1, if_false]
    rw [if_neg yy_10, if_pos b44, B.ki]
    by_cases k : zz_h M 44 1 t = 4
    · rw [if_pos k, if_pos k]
      by_cases go : 0 ≤ o ∧ o < zz_h M 40 1 9
      · have a2 : ¬ o + 1 = 0 := by omega
        rw [x_taskAt_in h go.1 go.2, m_isTask_ok _ _ nr, if_pos go, Option.bind_some, Option.bind_some]
        dsimp only
        rw [if_neg a2, if_neg yy_10]
        by_cases ke : t = o
        · rw [if_pos ke, if_pos ke.symm]
          exact ⟨_, _, _, rfl, rfl, hW.up (by omega)⟩
        · rw [if_neg ke, if_neg (fun z => ke z.symm), x_isWithin_ok, m_in_ok, Option.bind_some, Option.bind_some]
          dsimp only
          by_cases kw : 0 ≤ w ∧ w ≤ 2
          · rw [if_pos kw, if_neg yy_10, if_neg yy_10]
            obtain ⟨X1, e1, e2⟩ := h.comesAfter o t go.1 go.2
            obtain ⟨M1, f1, f2, f3⟩ := e2.leads o t go.1 go.2 g.1 g.2
            have n0 : zz_h M1 40 1 0 = zz_h M 40 1 0 := f3 40 1 0 rfl
            have n9 : zz_h M1 40 1 9 = zz_h M 40 1 9 := f3 40 1 9 rfl
            have hW1 : yW (c + 1) X1 M1 := ⟨aw, dl, f2.up (by rw [n0]; omega)⟩
            rw [e1, f1, Option.bind_some, Option.bind_some]
            dsimp only
            by_cases kr : yi (yRe M o t) = 0
            · rw [if_pos kr, if_pos kr]
              have F := f2.F t g.1 (by omega)
              have nr4 := F.nr
              have b68 : ∀ s, zz_b s 68 1 t := fun s => ⟨g.1, by rw [ya_68]; omega⟩
              rw [F.n, if_pos (b68 M1)]
              by_cases k4 : zz_h M1 68 1 t = 4
              · rw [if_neg (by omega), if_pos k4]
                exact ⟨_, _, _, rfl, rfl, hW1⟩
              · have n4 : zz_h M1 68 1 t < 4 := by omega
                have r1 : zz_r (zz_r (4 * t) + zz_h M1 68 1 t) = 4 * t + zz_h M1 68 1 t := by rw [yy_r (z := 4 * t) (by omega) (by omega), yy_r (by omega) (by omega)]
                have r2 : zz_r (zz_h M1 68 1 t + 1) = zz_h M1 68 1 t + 1 := yy_r (by omega) (by omega)
                rw [if_pos n4, if_neg k4, if_pos (b68 M1), r1, if_pos (show zz_b M1 69 1 _ from ⟨by omega, by rw [ya_69]; omega⟩), if_pos (b68 _)]
                have u1 : zz_h (zz_w M1 69 1 (4 * t + zz_h M1 68 1 t) o) 68 1 t = zz_h M1 68 1 t := rfl
                rw [u1, r1, if_pos (show zz_b _ 70 1 (4 * t + zz_h M1 68 1 t) from ⟨by omega, by rw [ya_70]; omega⟩), if_pos (b68 _), if_pos (b68 _)]
                have u2 : zz_h (zz_w (zz_w M1 69 1 (4 * t + zz_h M1 68 1 t) o) 70 1 (4 * t + zz_h M1 68 1 t) w) 68 1 t = zz_h M1 68 1 t := rfl
                rw [u2, r2]
                unfold xN_add
                simp only [a1, if_false]
                rw [F.n, if_pos n4, if_pos (show zz_b X1 29 (t + 1) _ from ⟨nr4.1, by rw [ya_29]; omega⟩)]
                have v1 : zz_h (zz_w X1 29 (t + 1) (zz_h M1 68 1 t) o) 9 (t + 1) 2 = zz_h M1 68 1 t := F.n
                rw [v1, if_pos (show zz_b _ 30 (t + 1) (zz_h M1 68 1 t) from ⟨nr4.1, by rw [ya_30]; omega⟩)]
                have v2 : zz_h (zz_w (zz_w X1 29 (t + 1) (zz_h M1 68 1 t) o) 30 (t + 1) (zz_h M1 68 1 t) w) 9 (t + 1) 2 = zz_h M1 68 1 t := F.n
                rw [v2, r2, Option.bind_some]
                dsimp only
                rw [yy_same]
                have h' : yS 0 (50000 * c + 1100 * zz_h M 40 1 0) aw dl (zz_w (zz_w (zz_w X1 29 (t + 1) (zz_h M1 68 1 t) o) 30 (t + 1) (zz_h M1 68 1 t) w) 9 (t + 1) 2 (zz_h M1 68 1 t + 1)) (zz_w (zz_w (zz_w M1 69 1 (4 * t + zz_h M1 68 1 t) o) 70 1 (4 * t + zz_h M1 68 1 t) w) 68 1 t (zz_h M1 68 1 t + 1)) := by
                  (refine yS.by_ f2 ?_ rfl rfl rfl ?_ ?_ ?_ ?_ ?_ ?_ ?_ ?_ ?_ ?_ ?_ ?_ <;> try (first | (refine yA.cg (yS.A f2) ?_ ?_ <;> ((repeat (first | refine yK.w ?_ rfl | exact yK.rf)); done))| (intro t h1 h2; refine yB.cg (yS.B f2 t h1 h2) ?_ ?_ <;> ((repeat (first | refine yK.w ?_ rfl | exact yK.rf)); done))| (intro t h1 h2; refine yC.cg (yC.up (yS.C f2 t h1 h2) (by omega)) ?_ ?_ <;> ((repeat (first | refine yK.w ?_ rfl | exact yK.rf)); done))| (intro t h1 h2; refine yD.cg (yS.D f2 t h1 h2) ?_ ?_ <;> ((repeat (first | refine yK.w ?_ rfl | exact yK.rf)); done))| (intro t h1 h2; refine yE.cg (yS.E f2 t h1 h2) ?_ ?_ <;> ((repeat (first | refine yK.w ?_ rfl | exact yK.rf)); done))| (intro t h1 h2; refine yF.cg (yS.F f2 t h1 h2) ?_ ?_ <;> ((repeat (first | refine yK.w ?_ rfl | exact yK.rf)); done))| (refine yG.cg (yS.G f2) ?_ ?_ <;> ((repeat (first | refine yK.w ?_ rfl | exact yK.rf)); done))| (intro t h1 h2; refine yI.cg (yS.I f2 t h1 h2) ?_ ?_ <;> ((repeat (first | refine yK.w ?_ rfl | exact yK.rf)); done))| (refine yJ.cg (yS.J f2) ?_ ?_ <;> ((repeat (first | refine yK.w ?_ rfl | exact yK.rf)); done))| (refine yL.cg (yS.L f2) ?_ ?_ <;> ((repeat (first | refine yK.w ?_ rfl | exact yK.rf)); done))| (refine yM.cg (yM.up (yS.R f2) (by omega)) ?_ ?_ <;> ((repeat (first | refine yK.w ?_ rfl | exact yK.rf)); done))| (refine yN.cg (yS.N f2) ?_ (fun _ => ⟨rfl, rfl⟩) <;> ((repeat (first | refine yK.w ?_ rfl | exact yK.rf)); done))| (refine yU.cg (yS.U f2) ?_ <;> ((repeat (first | refine yK.w ?_ rfl | exact yK.rf)); done))))
                  · intro s s1 s2
                    have a := f2.F s s1 s2
                    have anr := a.nr
                    unfold yF
                    by_cases q : s = t
                    · subst q
                      rw [yy_same, yy_same]
                      refine ⟨rfl, by omega, fun i i0 i1 => ?_, fun i i0 i1 => ?_⟩
                      · by_cases z : i = zz_h M1 68 1 s
                        · simp [zz_h_w, z]
                          omega
                        · have z' : ¬ 4 * s + i = 4 * s + zz_h M1 68 1 s := by omega
                          simpa [zz_h_w, z, z'] using a.o i i0 (by omega)
                      · by_cases z : i = zz_h M1 68 1 s
                        · simp [zz_h_w, z]
                        · have z' : ¬ 4 * s + i = 4 * s + zz_h M1 68 1 s := by omega
                          simpa [zz_h_w, z, z'] using a.w i i0 (by omega)
                    · have q2 : ¬ s + 1 = t + 1 := by omega
                      rw [yy_slot q]
                      refine ⟨?_, anr, fun i i0 i1 => ?_, fun i i0 i1 => ?_⟩
                      · simpa [zz_h_w, q] using a.n
                      · have i1 : i < zz_h M1 68 1 s := i1
                        have z' : ¬ 4 * s + i = 4 * t + zz_h M1 68 1 t := by omega
                        simpa [zz_h_w, q, z'] using a.o i i0 i1
                      · have i1 : i < zz_h M1 68 1 s := i1
                        have z' : ¬ 4 * s + i = 4 * t + zz_h M1 68 1 t := by omega
                        simpa [zz_h_w, q, z'] using a.w i i0 i1
                  · have w1 : yU (zz_w M1 69 1 (4 * t + zz_h M1 68 1 t) o) := f2.U.cg (yK.rf.w rfl)
                    have w2 : yU (zz_w (zz_w M1 69 1 (4 * t + zz_h M1 68 1 t) o) 70 1 (4 * t + zz_h M1 68 1 t) w) := w1.cg (yK.rf.w rfl)
                    exact w2.wr (by decide) (by rw [yy_kind (by decide), yy_kind (by decide)]; omega)
                exact ⟨_, _, _, rfl, rfl, aw, dl, h'.up (by rw [yy_kind (by decide), yy_kind (by decide), yy_kind (by decide), n0]; omega)⟩
            · rw [if_neg kr, if_neg kr]
              exact ⟨_, _, _, rfl, rfl, hW1⟩
          · rw [if_neg kw, if_pos rfl, if_pos rfl]
            exact ⟨_, _, _, rfl, rfl, hW.up (by omega)⟩
      · rw [x_taskAt_out h go, m_isTask_ok _ _ nr, if_neg go, Option.bind_some, Option.bind_some]
        exact ⟨_, _, _, rfl, rfl, hW.up (by omega)⟩
    · rw [if_neg k, if_neg k]
      exact ⟨_, _, _, rfl, rfl, hW.up (by omega)⟩
  · rw [x_taskAt_out h g, m_isTask_ok _ _ nr, if_neg g, Option.bind_some, Option.bind_some]
    exact ⟨_, _, _, rfl, rfl, hW.up (by omega)⟩
