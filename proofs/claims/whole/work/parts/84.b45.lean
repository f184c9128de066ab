/-! STAGE B: the two new objects of the law -/
def ymk (o : Nat) : List (Nat × Nat × Nat) → zz_S → zz_S
  | [], s => s
  | q :: l, s => ymk o l (zz_w (zz_n s q.1 1 q.2.1) o 1 q.2.2 1)
def ymf (l : List (Nat × Nat × Nat)) (s : zz_S) : Prop := (l.map (fun q => q.1)).Nodup ∧ ∀ q ∈ l, zz_c s q.1 = 0 ∧ zz_m s q.1 = 0
theorem ymf.tl {q : Nat × Nat × Nat} {l : List (Nat × Nat × Nat)} {s : zz_S} {o : Nat} {j v : Int} (h : ymf (q :: l) s) : ymf l (zz_w (zz_n s q.1 1 q.2.1) o 1 j v) := by
  obtain ⟨h1, h2⟩ := h
  rw [List.map_cons, List.nodup_cons] at h1
  refine ⟨h1.2, fun r hr => ?_⟩
  have ne : ¬ r.1 = q.1 := fun z => h1.1 (by rw [← z]; exact List.mem_map.mpr ⟨r, hr, rfl⟩)
  rw [zz_c_w, zz_c_n, zz_m_w, zz_m_n, if_neg ne, if_neg ne]
  exact h2 r (List.mem_cons_of_mem _ hr)
theorem ymk_c {o : Nat} : ∀ (l : List (Nat × Nat × Nat)) (s : zz_S), ymf l s → ∀ k, zz_c (ymk o l s) k = (if k ∈ l.map (fun q => q.1) then 1 else zz_c s k) ∧ zz_m (ymk o l s) k = (if k ∈ l.map (fun q => q.1) then 1 else zz_m s k)
  | [], s, _, k => ⟨rfl, rfl⟩
  | q :: l, s, h, k => by
    obtain ⟨e1, e2⟩ := ymk_c (o := o) l _ (h.tl (o := o) (j := q.2.2) (v := 1)) k
    obtain ⟨c0, m0⟩ := h.2 q (by simp)
    rw [ymk, e1, e2, zz_c_w, zz_c_n, zz_m_w, zz_m_n, List.map_cons, c0, m0]
    by_cases a : k ∈ l.map (fun q => q.1)
    · simp [a]
    · by_cases b : k = q.1
      · simp [a, b]
      · simp [a, b]
theorem ymk_h {o : Nat} : ∀ (l : List (Nat × Nat × Nat)) (s : zz_S), ymf l s → ∀ k j, k ≠ o → zz_h (ymk o l s) k 1 j = if k ∈ l.map (fun q => q.1) then 0 else zz_h s k 1 j
  | [], s, _, k, j, _ => rfl
  | q :: l, s, h, k, j, hk => by
    have e1 := ymk_h (o := o) l _ (h.tl (o := o) (j := q.2.2) (v := 1)) k j hk
    obtain ⟨c0, m0⟩ := h.2 q (by simp)
    rw [ymk, e1, yy_kind hk, zz_h_n, c0, List.map_cons]
    by_cases a : k ∈ l.map (fun q => q.1)
    · simp [a]
    · by_cases b : k = q.1
      · simp [a, b]
      · simp [a, b]
theorem ymk_o {o : Nat} : ∀ (l : List (Nat × Nat × Nat)) (s : zz_S), ymf l s → o ∉ l.map (fun q => q.1) → ∀ j : Int, zz_h (ymk o l s) o 1 j = if l.any (fun q => ((q.2.2 : Int) == j)) then 1 else zz_h s o 1 j
  | [], s, _, _, j => rfl
  | q :: l, s, h, ho, j => by
    rw [List.map_cons, List.mem_cons, not_or] at ho
    have e1 := ymk_o (o := o) l _ (h.tl (o := o) (j := q.2.2) (v := 1)) ho.2 j
    rw [ymk, e1, List.any_cons]
    by_cases a : l.any (fun q => ((q.2.2 : Int) == j)) = true
    · simp [a]
    · by_cases b : (q.2.2 : Int) = j
      · rw [zz_h_w]
        simp [a, b]
      · have b' : ¬ j = (q.2.2 : Int) := fun z => b z.symm
        rw [zz_h_w]
        simp [a, b, b', zz_h_n, ho.1]
theorem ymk_e {σ : zz_S} {k n o : Nat} {j : Int} {F : zz_S → zz_R} (h : zz_c σ k = 0) : (if true = true ∧ (zz_c σ k + 1) ≠ (1 : Int) then none else F (zz_w (zz_n σ k 1 n) o 1 j (zz_c σ k + 1))) = F (zz_w (zz_n σ k 1 n) o 1 j 1) := by
  rw [h, if_neg (by decide)]
  rfl
def ylM : List (Nat × Nat × Nat) := [(41, 8, 5), (42, 8, 6), (43, 8, 8), (44, 60, 10), (45, 60, 11), (46, 60, 12), (47, 60, 13), (48, 60, 14), (49, 60, 15), (50, 60, 16), (51, 60, 17), (52, 60, 18), (53, 60, 19), (54, 60, 20), (55, 60, 21), (56, 60, 22), (57, 60, 23), (58, 60, 24), (59, 60, 25), (60, 60, 26), (61, 60, 27), (62, 60, 28), (63, 60, 29), (64, 60, 30), (65, 240, 31), (66, 240, 32), (67, 240, 33), (68, 60, 34), (69, 240, 35), (70, 240, 36), (71, 40, 38), (72, 40, 39), (73, 40, 40), (74, 8, 41), (75, 2000, 43), (76, 2000, 44), (77, 2000, 45), (78, 2000, 46), (79, 2000, 47), (80, 2000, 48), (81, 2000, 49), (82, 2000, 50), (83, 2000, 51), (84, 2000, 52), (85, 100, 54), (86, 100, 55), (87, 100, 56), (88, 300, 58), (89, 300, 59), (90, 300, 60), (91, 60, 61)]
theorem ye_m_new {s : zz_S} (h41 : zz_c s 41 = 0) (h42 : zz_c s 42 = 0) (h43 : zz_c s 43 = 0) (h44 : zz_c s 44 = 0) : m_new 1 s = m_new_46 1 (ymk 40 [(41, 8, 5), (42, 8, 6), (43, 8, 8), (44, 60, 10)] (zz_w (zz_w s 40 1 2 (-1)) 40 1 4 1)) := by
  unfold m_new
  simp only [zz_c_w, zz_c_n, Nat.reduceEqDiff, if_false, h41, h42, h43, h44, ymk, ne_eq, Int.reduceAdd, not_true_eq_false, and_false]
  rfl
theorem ye_m_new_46 {s : zz_S} (h45 : zz_c s 45 = 0) (h46 : zz_c s 46 = 0) (h47 : zz_c s 47 = 0) (h48 : zz_c s 48 = 0) (h49 : zz_c s 49 = 0) (h50 : zz_c s 50 = 0) : m_new_46 1 s = m_new_94 1 (ymk 40 [(45, 60, 11), (46, 60, 12), (47, 60, 13), (48, 60, 14), (49, 60, 15), (50, 60, 16)] s) := by
  unfold m_new_46
  simp only [zz_c_w, zz_c_n, Nat.reduceEqDiff, if_false, h45, h46, h47, h48, h49, h50, ymk, ne_eq, Int.reduceAdd, not_true_eq_false, and_false]
  rfl
theorem ye_m_new_94 {s : zz_S} (h51 : zz_c s 51 = 0) (h52 : zz_c s 52 = 0) (h53 : zz_c s 53 = 0) (h54 : zz_c s 54 = 0) (h55 : zz_c s 55 = 0) (h56 : zz_c s 56 = 0) : m_new_94 1 s = m_new_142 1 (ymk 40 [(51, 60, 17), (52, 60, 18), (53, 60, 19), (54, 60, 20), (55, 60, 21), (56, 60, 22)] s) := by
  unfold m_new_94
  simp only [zz_c_w, zz_c_n, Nat.reduceEqDiff, if_false, h51, h52, h53, h54, h55, h56, ymk, ne_eq, Int.reduceAdd, not_true_eq_false, and_false]
  rfl
theorem ye_m_new_142 {s : zz_S} (h57 : zz_c s 57 = 0) (h58 : zz_c s 58 = 0) (h59 : zz_c s 59 = 0) (h60 : zz_c s 60 = 0) (h61 : zz_c s 61 = 0) (h62 : zz_c s 62 = 0) : m_new_142 1 s = m_new_190 1 (ymk 40 [(57, 60, 23), (58, 60, 24), (59, 60, 25), (60, 60, 26), (61, 60, 27), (62, 60, 28)] s) := by
  unfold m_new_142
  simp only [zz_c_w, zz_c_n, Nat.reduceEqDiff, if_false, h57, h58, h59, h60, h61, h62, ymk, ne_eq, Int.reduceAdd, not_true_eq_false, and_false]
  rfl
theorem ye_m_new_190 {s : zz_S} (h63 : zz_c s 63 = 0) (h64 : zz_c s 64 = 0) (h65 : zz_c s 65 = 0) (h66 : zz_c s 66 = 0) (h67 : zz_c s 67 = 0) (h68 : zz_c s 68 = 0) : m_new_190 1 s = m_new_241 1 (ymk 40 [(63, 60, 29), (64, 60, 30), (65, 240, 31), (66, 240, 32), (67, 240, 33), (68, 60, 34)] s) := by
  unfold m_new_190
  simp only [zz_c_w, zz_c_n, Nat.reduceEqDiff, if_false, h63, h64, h65, h66, h67, h68, ymk, ne_eq, Int.reduceAdd, not_true_eq_false, and_false]
  rfl
theorem ye_m_new_241 {s : zz_S} (h69 : zz_c s 69 = 0) (h70 : zz_c s 70 = 0) (h71 : zz_c s 71 = 0) (h72 : zz_c s 72 = 0) (h73 : zz_c s 73 = 0) (h74 : zz_c s 74 = 0) : m_new_241 1 s = m_new_291 1 (ymk 40 [(69, 240, 35), (70, 240, 36), (71, 40, 38), (72, 40, 39), (73, 40, 40), (74, 8, 41)] s) := by
  unfold m_new_241
  simp only [zz_c_w, zz_c_n, Nat.reduceEqDiff, if_false, h69, h70, h71, h72, h73, h74, ymk, ne_eq, Int.reduceAdd, not_true_eq_false, and_false]
  rfl
theorem ye_m_new_291 {s : zz_S} (h75 : zz_c s 75 = 0) (h76 : zz_c s 76 = 0) (h77 : zz_c s 77 = 0) (h78 : zz_c s 78 = 0) (h79 : zz_c s 79 = 0) (h80 : zz_c s 80 = 0) : m_new_291 1 s = m_new_345 1 (ymk 40 [(75, 2000, 43), (76, 2000, 44), (77, 2000, 45), (78, 2000, 46), (79, 2000, 47), (80, 2000, 48)] s) := by
  unfold m_new_291
  simp only [zz_c_w, zz_c_n, Nat.reduceEqDiff, if_false, h75, h76, h77, h78, h79, h80, ymk, ne_eq, Int.reduceAdd, not_true_eq_false, and_false]
  rfl
theorem ye_m_new_345 {s : zz_S} (h81 : zz_c s 81 = 0) (h82 : zz_c s 82 = 0) (h83 : zz_c s 83 = 0) (h84 : zz_c s 84 = 0) (h85 : zz_c s 85 = 0) (h86 : zz_c s 86 = 0) : m_new_345 1 s = m_new_397 1 (ymk 40 [(81, 2000, 49), (82, 2000, 50), (83, 2000, 51), (84, 2000, 52), (85, 100, 54), (86, 100, 55)] s) := by
  unfold m_new_345
  simp only [zz_c_w, zz_c_n, Nat.reduceEqDiff, if_false, h81, h82, h83, h84, h85, h86, ymk, ne_eq, Int.reduceAdd, not_true_eq_false, and_false]
  rfl
theorem ye_m_new_397 {s : zz_S} (h87 : zz_c s 87 = 0) (h88 : zz_c s 88 = 0) (h89 : zz_c s 89 = 0) (h90 : zz_c s 90 = 0) (h91 : zz_c s 91 = 0) : m_new_397 1 s = m_new_442 zz_fu 1 0 (ymk 40 [(87, 100, 56), (88, 300, 58), (89, 300, 59), (90, 300, 60), (91, 60, 61)] s) := by
  unfold m_new_397
  simp only [zz_c_w, zz_c_n, Nat.reduceEqDiff, if_false, h87, h88, h89, h90, h91, ymk, ne_eq, Int.reduceAdd, not_true_eq_false, and_false]
  rfl
theorem m_new_eq {s : zz_S} (hc : ∀ k, 41 ≤ k → k ≤ 91 → zz_c s k = 0 ∧ zz_m s k = 0) : m_new 1 s = m_new_442 zz_fu 1 0 (ymk 40 ylM (zz_w (zz_w s 40 1 2 (-1)) 40 1 4 1)) := by
  rw [ye_m_new (by (try simp only [ymk, zz_c_w, zz_c_n, Nat.reduceEqDiff, if_false]); exact (hc 41 (by decide) (by decide)).1) (by (try simp only [ymk, zz_c_w, zz_c_n, Nat.reduceEqDiff, if_false]); exact (hc 42 (by decide) (by decide)).1) (by (try simp only [ymk, zz_c_w, zz_c_n, Nat.reduceEqDiff, if_false]); exact (hc 43 (by decide) (by decide)).1) (by (try simp only [ymk, zz_c_w, zz_c_n, Nat.reduceEqDiff, if_false]); exact (hc 44 (by decide) (by decide)).1), ye_m_new_46 (by (try simp only [ymk, zz_c_w, zz_c_n, Nat.reduceEqDiff, if_false]); exact (hc 45 (by decide) (by decide)).1) (by (try simp only [ymk, zz_c_w, zz_c_n, Nat.reduceEqDiff, if_false]); exact (hc 46 (by decide) (by decide)).1) (by (try simp only [ymk, zz_c_w, zz_c_n, Nat.reduceEqDiff, if_false]); exact (hc 47 (by decide) (by decide)).1) (by (try simp only [ymk, zz_c_w, zz_c_n, Nat.reduceEqDiff, if_false]); exact (hc 48 (by decide) (by decide)).1) (by (try simp only [ymk, zz_c_w, zz_c_n, Nat.reduceEqDiff, if_false]); exact (hc 49 (by decide) (by decide)).1) (by (try simp only [ymk, zz_c_w, zz_c_n, Nat.reduceEqDiff, if_false]); exact (hc 50 (by decide) (by decide)).1), ye_m_new_94 (by (try simp only [ymk, zz_c_w, zz_c_n, Nat.reduceEqDiff, if_false]); exact (hc 51 (by decide) (by decide)).1) (by (try simp only [ymk, zz_c_w, zz_c_n, Nat.reduceEqDiff, if_false]); exact (hc 52 (by decide) (by decide)).1) (by (try simp only [ymk, zz_c_w, zz_c_n, Nat.reduceEqDiff, if_false]); exact (hc 53 (by decide) (by decide)).1) (by (try simp only [ymk, zz_c_w, zz_c_n, Nat.reduceEqDiff, if_false]); exact (hc 54 (by decide) (by decide)).1) (by (try simp only [ymk, zz_c_w, zz_c_n, Nat.reduceEqDiff, if_false]); exact (hc 55 (by decide) (by decide)).1) (by (try simp only [ymk, zz_c_w, zz_c_n, Nat.reduceEqDiff, if_false]); exact (hc 56 (by decide) (by decide)).1), ye_m_new_142 (by (try simp only [ymk, zz_c_w, zz_c_n, Nat.reduceEqDiff, if_false]); exact (hc 57 (by decide) (by decide)).1) (by (try simp only [ymk, zz_c_w, zz_c_n, Nat.reduceEqDiff, if_false]); exact (hc 58 (by decide) (by decide)).1) (by (try simp only [ymk, zz_c_w, zz_c_n, Nat.reduceEqDiff, if_false]); exact (hc 59 (by decide) (by decide)).1) (by (try simp only [ymk, zz_c_w, zz_c_n, Nat.reduceEqDiff, if_false]); exact (hc 60 (by decide) (by decide)).1) (by (try simp only [ymk, zz_c_w, zz_c_n, Nat.reduceEqDiff, if_false]); exact (hc 61 (by decide) (by decide)).1) (by (try simp only [ymk, zz_c_w, zz_c_n, Nat.reduceEqDiff, if_false]); exact (hc 62 (by decide) (by decide)).1), ye_m_new_190 (by (try simp only [ymk, zz_c_w, zz_c_n, Nat.reduceEqDiff, if_false]); exact (hc 63 (by decide) (by decide)).1) (by (try simp only [ymk, zz_c_w, zz_c_n, Nat.reduceEqDiff, if_false]); exact (hc 64 (by decide) (by decide)).1) (by (try simp only [ymk, zz_c_w, zz_c_n, Nat.reduceEqDiff, if_false]); exact (hc 65 (by decide) (by decide)).1) (by (try simp only [ymk, zz_c_w, zz_c_n, Nat.reduceEqDiff, if_false]); exact (hc 66 (by decide) (by decide)).1) (by (try simp only [ymk, zz_c_w, zz_c_n, Nat.reduceEqDiff, if_false]); exact (hc 67 (by decide) (by decide)).1) (by (try simp only [ymk, zz_c_w, zz_c_n, Nat.reduceEqDiff, if_false]); exact (hc 68 (by decide) (by decide)).1), ye_m_new_241 (by (try simp only [ymk, zz_c_w, zz_c_n, Nat.reduceEqDiff, if_false]); exact (hc 69 (by decide) (by decide)).1) (by (try simp only [ymk, zz_c_w, zz_c_n, Nat.reduceEqDiff, if_false]); exact (hc 70 (by decide) (by decide)).1) (by (try simp only [ymk, zz_c_w, zz_c_n, Nat.reduceEqDiff, if_false]); exact (hc 71 (by decide) (by decide)).1) (by (try simp only [ymk, zz_c_w, zz_c_n, Nat.reduceEqDiff, if_false]); exact (hc 72 (by decide) (by decide)).1) (by (try simp only [ymk, zz_c_w, zz_c_n, Nat.reduceEqDiff, if_false]); exact (hc 73 (by decide) (by decide)).1) (by (try simp only [ymk, zz_c_w, zz_c_n, Nat.reduceEqDiff, if_false]); exact (hc 74 (by decide) (by decide)).1), ye_m_new_291 (by (try simp only [ymk, zz_c_w, zz_c_n, Nat.reduceEqDiff, if_false]); exact (hc 75 (by decide) (by decide)).1) (by (try simp only [ymk, zz_c_w, zz_c_n, Nat.reduceEqDiff, if_false]); exact (hc 76 (by decide) (by decide)).1) (by (try simp only [ymk, zz_c_w, zz_c_n, Nat.reduceEqDiff, if_false]); exact (hc 77 (by decide) (by decide)).1) (by (try simp only [ymk, zz_c_w, zz_c_n, Nat.reduceEqDiff, if_false]); exact (hc 78 (by decide) (by decide)).1) (by (try simp only [ymk, zz_c_w, zz_c_n, Nat.reduceEqDiff, if_false]); exact (hc 79 (by decide) (by decide)).1) (by (try simp only [ymk, zz_c_w, zz_c_n, Nat.reduceEqDiff, if_false]); exact (hc 80 (by decide) (by decide)).1), ye_m_new_345 (by (try simp only [ymk, zz_c_w, zz_c_n, Nat.reduceEqDiff, if_false]); exact (hc 81 (by decide) (by decide)).1) (by (try simp only [ymk, zz_c_w, zz_c_n, Nat.reduceEqDiff, if_false]); exact (hc 82 (by decide) (by decide)).1) (by (try simp only [ymk, zz_c_w, zz_c_n, Nat.reduceEqDiff, if_false]); exact (hc 83 (by decide) (by decide)).1) (by (try simp only [ymk, zz_c_w, zz_c_n, Nat.reduceEqDiff, if_false]); exact (hc 84 (by decide) (by decide)).1) (by (try simp only [ymk, zz_c_w, zz_c_n, Nat.reduceEqDiff, if_false]); exact (hc 85 (by decide) (by decide)).1) (by (try simp only [ymk, zz_c_w, zz_c_n, Nat.reduceEqDiff, if_false]); exact (hc 86 (by decide) (by decide)).1), ye_m_new_397 (by (try simp only [ymk, zz_c_w, zz_c_n, Nat.reduceEqDiff, if_false]); exact (hc 87 (by decide) (by decide)).1) (by (try simp only [ymk, zz_c_w, zz_c_n, Nat.reduceEqDiff, if_false]); exact (hc 88 (by decide) (by decide)).1) (by (try simp only [ymk, zz_c_w, zz_c_n, Nat.reduceEqDiff, if_false]); exact (hc 89 (by decide) (by decide)).1) (by (try simp only [ymk, zz_c_w, zz_c_n, Nat.reduceEqDiff, if_false]); exact (hc 90 (by decide) (by decide)).1) (by (try simp only [ymk, zz_c_w, zz_c_n, Nat.reduceEqDiff, if_false]); exact (hc 91 (by decide) (by decide)).1)]
  rfl
theorem m_new_loop : ∀ (k n w : Nat) (s : zz_S), w + k = 8 → k < n → zz_h s 40 1 5 = 1 → (∀ j : Int, 0 ≤ j → j < w → zz_h s 41 1 j = -1) → ∃ s', m_new_442 n 1 w s = (if zz_ow s' 40 1 (zz_own 40) = true ∧ zz_m s' 40 + 1 = 1 then (some (0, zz_f s' 40)) else none) ∧ yK (fun k _ => !(k == 41)) s s' ∧ yQ s s' ∧ (∀ j : Int, 0 ≤ j → j < 8 → zz_h s' 41 1 j = -1) := by
  intro k
  induction k with
  | zero =>
    intro n w s a b h5 h
    obtain ⟨n, rfl⟩ : ∃ q, n = q + 1 := ⟨n - 1, by omega⟩
    refine ⟨s, ?_, yK.rf, yQ.rf, fun j j0 j1 => h j j0 (by omega)⟩
    rw [m_new_442, if_neg (by omega)]
  | succ k ih =>
    intro n w s a b h5 h
    obtain ⟨n, rfl⟩ : ∃ q, n = q + 1 := ⟨n - 1, by omega⟩
    have r : zz_r ((w : Int) + 1) = ((w + 1 : Nat) : Int) := by rw [yy_r (by omega) (by omega)]; omega
    obtain ⟨s', z1, z2, z3, z4⟩ := ih n (w + 1) (zz_w s 41 1 (w : Int) (-1)) (by omega) (by omega) h5 (fun j j0 j1 => by
      by_cases q : j = w
      · rw [q, yy_same]
      · rw [yy_slot q]
        exact h j j0 (by omega))
    refine ⟨s', ?_, (show yK _ s (zz_w s 41 1 (w : Int) (-1)) from by (repeat (first | refine yK.w ?_ rfl | exact yK.rf))).tr z2, z3, z4⟩
    rw [m_new_442, if_pos (by omega)]
    unfold m_new_448
    rw [if_pos h5, if_neg (by decide), if_pos (show zz_b s 41 1 (w : Int) from ⟨by omega, by rw [ya_41]; omega⟩), r]
    exact z1
theorem ylM_k : ∀ k : Nat, k ∈ ylM.map (fun q => q.1) ↔ 41 ≤ k ∧ k ≤ 91 := by
  intro k
  simp [ylM]
  omega
theorem ylM_nd : (ylM.map (fun q => q.1)).Nodup := by decide +kernel
theorem ylM_own : ∀ q ∈ zz_own 40, ylM.any (fun r => ((r.2.2 : Int) == (q.1 : Int))) = true := by decide +kernel
theorem m_new_ok {s : zz_S} (hc : ∀ k, 41 ≤ k → k ≤ 91 → zz_c s k = 0 ∧ zz_m s k = 0) (m40 : zz_m s 40 = 0) : ∃ s', m_new 1 s = some (0, s') ∧ (∀ k j, k ≠ 40 → k ≠ 41 → zz_h s' k 1 j = if 41 ≤ k ∧ k ≤ 91 then 0 else zz_h s k 1 j) ∧ (∀ j : Int, 0 ≤ j → j < 8 → zz_h s' 41 1 j = -1) ∧ (∀ j : Int, ylM.any (fun r => ((r.2.2 : Int) == j)) = false → zz_h s' 40 1 j = if j = 4 then 1 else if j = 2 then -1 else zz_h s 40 1 j) ∧ (∀ k, zz_c s' k = if 41 ≤ k ∧ k ≤ 91 then 1 else zz_c s k) ∧ (∀ k, zz_m s' k = if 41 ≤ k ∧ k ≤ 91 then 1 else if k = 40 then 1 else zz_m s k) := by
  have fu := yy_fu
  have hf : ymf ylM (zz_w (zz_w s 40 1 2 (-1)) 40 1 4 1) := by
    refine ⟨ylM_nd, fun q hq => ?_⟩
    have := (ylM_k q.1).mp (List.mem_map.mpr ⟨q, hq, rfl⟩)
    exact hc q.1 this.1 this.2
  have ho : 40 ∉ ylM.map (fun q => q.1) := fun z => by
    have := (ylM_k 40).mp z
    omega
  have hcm := ymk_c (o := 40) ylM _ hf
  have hh := ymk_h (o := 40) ylM _ hf
  have h40 := ymk_o (o := 40) ylM _ hf ho
  obtain ⟨s', z1, z2, z3, z4⟩ := m_new_loop 8 zz_fu 0 (ymk 40 ylM (zz_w (zz_w s 40 1 2 (-1)) 40 1 4 1)) (by omega) (by omega) (by rw [h40, if_pos (by decide +kernel)]) (fun j j0 j1 => by omega)
  have ow : zz_ow s' 40 1 (zz_own 40) = true := zz_ow_ok _ _ _ _ fun q hq => by
    rw [z2 40 1 _ rfl, h40, if_pos (ylM_own q hq)]
  have m40' : zz_m s' 40 + 1 = 1 := by
    rw [(z3 40).2, (hcm 40).2, if_neg ho, zz_m_w, zz_m_w, m40]
    rfl
  rw [if_pos ⟨ow, m40'⟩] at z1
  refine ⟨zz_f s' 40, (m_new_eq hc).trans z1, fun k j k1 k2 => ?_, z4, fun j hj => ?_, fun k => ?_, fun k => ?_⟩
  · have e : (k == 41) = false := by simpa using k2
    rw [zz_h_f, z2 k 1 j (by simp [k2]), hh k j k1, yy_kind k1, yy_kind k1]
    by_cases c : 41 ≤ k ∧ k ≤ 91
    · rw [if_pos c, if_pos ((ylM_k k).mpr c)]
    · rw [if_neg c, if_neg (fun z => c ((ylM_k k).mp z))]
  · rw [zz_h_f, z2 40 1 j rfl, h40, hj]
    simp only [zz_h_w, true_and]
    rfl
  · rw [zz_c_f, (z3 k).1, (hcm k).1, zz_c_w, zz_c_w]
    by_cases c : 41 ≤ k ∧ k ≤ 91
    · rw [if_pos c, if_pos ((ylM_k k).mpr c)]
    · rw [if_neg c, if_neg (fun z => c ((ylM_k k).mp z))]
  · rw [zz_m_f, m40', (z3 k).2, (hcm k).2, zz_m_w, zz_m_w]
    by_cases c : 41 ≤ k ∧ k ≤ 91
    · rw [if_pos c, if_neg (by omega), if_pos ((ylM_k k).mpr c)]
    · rw [if_neg c]
      by_cases d : k = 40
      · rw [if_pos d, if_pos d]
      · rw [if_neg d, if_neg d, if_neg (fun z => c ((ylM_k k).mp z))]
theorem ye_xD_new {s : zz_S} (h1 : zz_c s 19 = 0) (h2 : zz_c s 20 = 0) (h3 : zz_c s 21 = 0) (m : zz_m s 4 = 0) : xD_new 1 s = some (0, (zz_f (zz_w (zz_w (zz_n (zz_w (zz_n (zz_w (zz_n s 19 1 100) 4 1 0 1) 20 1 100) 4 1 1 1) 21 1 100) 4 1 2 1) 4 1 3 0) 4)) := by
  unfold xD_new
  simp only [zz_c_w, zz_c_n, Nat.reduceEqDiff, if_false, h1, h2, h3, ne_eq, Int.reduceAdd, not_true_eq_false, and_false]
  rw [if_pos]
  refine ⟨zz_ow_ok _ _ _ _ fun q hq => ?_, ?_⟩
  · rcases List.mem_cons.mp hq with hq | hq
    · rw [hq]
      simp [zz_h_w, zz_h_n]
    · rcases List.mem_cons.mp hq with hq | hq
      · rw [hq]
        simp [zz_h_w, zz_h_n]
      · rcases List.mem_cons.mp hq with hq | hq
        · rw [hq]
          simp [zz_h_w, zz_h_n]
        · exact absurd hq (by simp)
  · simp only [zz_m_w, zz_m_n, Nat.reduceEqDiff, if_false, m]
    rfl
theorem ye_xB_new {s : zz_S} (h1 : zz_c s 22 = 0) (h2 : zz_c s 23 = 0) (h3 : zz_c s 24 = 0) (m : zz_m s 5 = 0) : xB_new 1 s = some (0, (zz_f (zz_w (zz_w (zz_n (zz_w (zz_n (zz_w (zz_n s 22 1 300) 5 1 0 1) 23 1 300) 5 1 1 1) 24 1 300) 5 1 2 1) 5 1 3 0) 5)) := by
  unfold xB_new
  simp only [zz_c_w, zz_c_n, Nat.reduceEqDiff, if_false, h1, h2, h3, ne_eq, Int.reduceAdd, not_true_eq_false, and_false]
  rw [if_pos]
  refine ⟨zz_ow_ok _ _ _ _ fun q hq => ?_, ?_⟩
  · rcases List.mem_cons.mp hq with hq | hq
    · rw [hq]
      simp [zz_h_w, zz_h_n]
    · rcases List.mem_cons.mp hq with hq | hq
      · rw [hq]
        simp [zz_h_w, zz_h_n]
      · rcases List.mem_cons.mp hq with hq | hq
        · rw [hq]
          simp [zz_h_w, zz_h_n]
        · exact absurd hq (by simp)
  · simp only [zz_m_w, zz_m_n, Nat.reduceEqDiff, if_false, m]
    rfl
theorem ye_xP_new {s : zz_S} (h1 : zz_c s 25 = 0) (h2 : zz_c s 26 = 0) (h3 : zz_c s 27 = 0) (m : zz_m s 6 = 0) : xP_new 1 s = some (0, (zz_f (zz_w (zz_w (zz_n (zz_w (zz_n (zz_w (zz_n s 25 1 40) 6 1 0 1) 26 1 40) 6 1 1 1) 27 1 40) 6 1 2 1) 6 1 3 0) 6)) := by
  unfold xP_new
  simp only [zz_c_w, zz_c_n, Nat.reduceEqDiff, if_false, h1, h2, h3, ne_eq, Int.reduceAdd, not_true_eq_false, and_false]
  rw [if_pos]
  refine ⟨zz_ow_ok _ _ _ _ fun q hq => ?_, ?_⟩
  · rcases List.mem_cons.mp hq with hq | hq
    · rw [hq]
      simp [zz_h_w, zz_h_n]
    · rcases List.mem_cons.mp hq with hq | hq
      · rw [hq]
        simp [zz_h_w, zz_h_n]
      · rcases List.mem_cons.mp hq with hq | hq
        · rw [hq]
          simp [zz_h_w, zz_h_n]
        · exact absurd hq (by simp)
  · simp only [zz_m_w, zz_m_n, Nat.reduceEqDiff, if_false, m]
    rfl
def yxn (s : zz_S) : zz_S := (zz_f (zz_w (zz_w (zz_w (zz_w (zz_w (zz_w (zz_w (zz_w (zz_w (zz_w (zz_n (zz_w (zz_n (zz_w (zz_n (zz_w (zz_n (zz_w (zz_n (zz_w (zz_f (zz_w (zz_w (zz_n (zz_w (zz_n (zz_w (zz_n (zz_n (zz_w (zz_f (zz_w (zz_w (zz_n (zz_w (zz_n (zz_w (zz_n (zz_n (zz_w (zz_f (zz_w (zz_w (zz_n (zz_w (zz_n (zz_w (zz_n (zz_n (zz_w (zz_n (zz_w (zz_n (zz_w (zz_n s 11 1 60) 3 1 0 1) 12 1 2000) 3 1 1 1) 13 1 8) 3 1 2 1) 4 0 4) 19 1 100) 4 1 0 1) 20 1 100) 4 1 1 1) 21 1 100) 4 1 2 1) 4 1 3 0) 4) 3 1 3 1) 5 0 4) 22 1 300) 5 1 0 1) 23 1 300) 5 1 1 1) 24 1 300) 5 1 2 1) 5 1 3 0) 5) 3 1 4 1) 6 0 4) 25 1 40) 6 1 0 1) 26 1 40) 6 1 1 1) 27 1 40) 6 1 2 1) 6 1 3 0) 6) 3 1 5 1) 14 1 8) 3 1 6 1) 15 1 8) 3 1 7 1) 16 1 8) 3 1 8 1) 17 1 8) 3 1 9 1) 18 1 60) 3 1 10 1) 3 1 11 0) 3 1 12 0) 3 1 13 0) 3 1 14 0) 3 1 15 1) 3 1 16 0) 3 1 17 0) 3 1 18 (-1)) 3 1 19 0) 3)
theorem ye_x_new {s : zz_S} (h4 : zz_c s 4 = 0) (m4 : zz_m s 4 = 0) (h5 : zz_c s 5 = 0) (m5 : zz_m s 5 = 0) (h6 : zz_c s 6 = 0) (m6 : zz_m s 6 = 0) (h11 : zz_c s 11 = 0) (m11 : zz_m s 11 = 0) (h12 : zz_c s 12 = 0) (m12 : zz_m s 12 = 0) (h13 : zz_c s 13 = 0) (m13 : zz_m s 13 = 0) (h14 : zz_c s 14 = 0) (m14 : zz_m s 14 = 0) (h15 : zz_c s 15 = 0) (m15 : zz_m s 15 = 0) (h16 : zz_c s 16 = 0) (m16 : zz_m s 16 = 0) (h17 : zz_c s 17 = 0) (m17 : zz_m s 17 = 0) (h18 : zz_c s 18 = 0) (m18 : zz_m s 18 = 0) (h19 : zz_c s 19 = 0) (m19 : zz_m s 19 = 0) (h20 : zz_c s 20 = 0) (m20 : zz_m s 20 = 0) (h21 : zz_c s 21 = 0) (m21 : zz_m s 21 = 0) (h22 : zz_c s 22 = 0) (m22 : zz_m s 22 = 0) (h23 : zz_c s 23 = 0) (m23 : zz_m s 23 = 0) (h24 : zz_c s 24 = 0) (m24 : zz_m s 24 = 0) (h25 : zz_c s 25 = 0) (m25 : zz_m s 25 = 0) (h26 : zz_c s 26 = 0) (m26 : zz_m s 26 = 0) (h27 : zz_c s 27 = 0) (m27 : zz_m s 27 = 0) (m3 : zz_m s 3 = 0) : x_new 1 s = some (0, yxn s) := by
  unfold x_new
  simp only [zz_c_w, zz_c_n, zz_c_f, zz_m_w, zz_m_n, zz_m_f, Nat.reduceEqDiff, if_false, if_true, h4, h5, h6, h11, h12, h13, h14, h15, h16, h17, h18, h19, h20, h21, h22, h23, h24, h25, h26, h27, m4, m5, m6, ne_eq, Int.reduceAdd, Int.add_zero, not_true_eq_false, and_false]
  rw [ye_xD_new (by simp only [zz_c_w, zz_c_n, zz_c_f, zz_m_w, zz_m_n, zz_m_f, Nat.reduceEqDiff, if_false, if_true, h4, h5, h6, h11, h12, h13, h14, h15, h16, h17, h18, h19, h20, h21, h22, h23, h24, h25, h26, h27, m4, m5, m6, ne_eq, Int.reduceAdd, Int.add_zero, not_true_eq_false, and_false]) (by simp only [zz_c_w, zz_c_n, zz_c_f, zz_m_w, zz_m_n, zz_m_f, Nat.reduceEqDiff, if_false, if_true, h4, h5, h6, h11, h12, h13, h14, h15, h16, h17, h18, h19, h20, h21, h22, h23, h24, h25, h26, h27, m4, m5, m6, ne_eq, Int.reduceAdd, Int.add_zero, not_true_eq_false, and_false]) (by simp only [zz_c_w, zz_c_n, zz_c_f, zz_m_w, zz_m_n, zz_m_f, Nat.reduceEqDiff, if_false, if_true, h4, h5, h6, h11, h12, h13, h14, h15, h16, h17, h18, h19, h20, h21, h22, h23, h24, h25, h26, h27, m4, m5, m6, ne_eq, Int.reduceAdd, Int.add_zero, not_true_eq_false, and_false]) (by simp only [zz_c_w, zz_c_n, zz_c_f, zz_m_w, zz_m_n, zz_m_f, Nat.reduceEqDiff, if_false, if_true, h4, h5, h6, h11, h12, h13, h14, h15, h16, h17, h18, h19, h20, h21, h22, h23, h24, h25, h26, h27, m4, m5, m6, ne_eq, Int.reduceAdd, Int.add_zero, not_true_eq_false, and_false]), Option.bind_some]
  simp only [zz_c_w, zz_c_n, zz_c_f, zz_m_w, zz_m_n, zz_m_f, Nat.reduceEqDiff, if_false, if_true, h4, h5, h6, h11, h12, h13, h14, h15, h16, h17, h18, h19, h20, h21, h22, h23, h24, h25, h26, h27, m4, m5, m6, ne_eq, Int.reduceAdd, Int.add_zero, not_true_eq_false, and_false]
  rw [ye_xB_new (by simp only [zz_c_w, zz_c_n, zz_c_f, zz_m_w, zz_m_n, zz_m_f, Nat.reduceEqDiff, if_false, if_true, h4, h5, h6, h11, h12, h13, h14, h15, h16, h17, h18, h19, h20, h21, h22, h23, h24, h25, h26, h27, m4, m5, m6, ne_eq, Int.reduceAdd, Int.add_zero, not_true_eq_false, and_false]) (by simp only [zz_c_w, zz_c_n, zz_c_f, zz_m_w, zz_m_n, zz_m_f, Nat.reduceEqDiff, if_false, if_true, h4, h5, h6, h11, h12, h13, h14, h15, h16, h17, h18, h19, h20, h21, h22, h23, h24, h25, h26, h27, m4, m5, m6, ne_eq, Int.reduceAdd, Int.add_zero, not_true_eq_false, and_false]) (by simp only [zz_c_w, zz_c_n, zz_c_f, zz_m_w, zz_m_n, zz_m_f, Nat.reduceEqDiff, if_false, if_true, h4, h5, h6, h11, h12, h13, h14, h15, h16, h17, h18, h19, h20, h21, h22, h23, h24, h25, h26, h27, m4, m5, m6, ne_eq, Int.reduceAdd, Int.add_zero, not_true_eq_false, and_false]) (by simp only [zz_c_w, zz_c_n, zz_c_f, zz_m_w, zz_m_n, zz_m_f, Nat.reduceEqDiff, if_false, if_true, h4, h5, h6, h11, h12, h13, h14, h15, h16, h17, h18, h19, h20, h21, h22, h23, h24, h25, h26, h27, m4, m5, m6, ne_eq, Int.reduceAdd, Int.add_zero, not_true_eq_false, and_false]), Option.bind_some]
  simp only [zz_c_w, zz_c_n, zz_c_f, zz_m_w, zz_m_n, zz_m_f, Nat.reduceEqDiff, if_false, if_true, h4, h5, h6, h11, h12, h13, h14, h15, h16, h17, h18, h19, h20, h21, h22, h23, h24, h25, h26, h27, m4, m5, m6, ne_eq, Int.reduceAdd, Int.add_zero, not_true_eq_false, and_false]
  rw [ye_xP_new (by simp only [zz_c_w, zz_c_n, zz_c_f, zz_m_w, zz_m_n, zz_m_f, Nat.reduceEqDiff, if_false, if_true, h4, h5, h6, h11, h12, h13, h14, h15, h16, h17, h18, h19, h20, h21, h22, h23, h24, h25, h26, h27, m4, m5, m6, ne_eq, Int.reduceAdd, Int.add_zero, not_true_eq_false, and_false]) (by simp only [zz_c_w, zz_c_n, zz_c_f, zz_m_w, zz_m_n, zz_m_f, Nat.reduceEqDiff, if_false, if_true, h4, h5, h6, h11, h12, h13, h14, h15, h16, h17, h18, h19, h20, h21, h22, h23, h24, h25, h26, h27, m4, m5, m6, ne_eq, Int.reduceAdd, Int.add_zero, not_true_eq_false, and_false]) (by simp only [zz_c_w, zz_c_n, zz_c_f, zz_m_w, zz_m_n, zz_m_f, Nat.reduceEqDiff, if_false, if_true, h4, h5, h6, h11, h12, h13, h14, h15, h16, h17, h18, h19, h20, h21, h22, h23, h24, h25, h26, h27, m4, m5, m6, ne_eq, Int.reduceAdd, Int.add_zero, not_true_eq_false, and_false]) (by simp only [zz_c_w, zz_c_n, zz_c_f, zz_m_w, zz_m_n, zz_m_f, Nat.reduceEqDiff, if_false, if_true, h4, h5, h6, h11, h12, h13, h14, h15, h16, h17, h18, h19, h20, h21, h22, h23, h24, h25, h26, h27, m4, m5, m6, ne_eq, Int.reduceAdd, Int.add_zero, not_true_eq_false, and_false]), Option.bind_some]
  simp only [zz_c_w, zz_c_n, zz_c_f, zz_m_w, zz_m_n, zz_m_f, Nat.reduceEqDiff, if_false, if_true, h4, h5, h6, h11, h12, h13, h14, h15, h16, h17, h18, h19, h20, h21, h22, h23, h24, h25, h26, h27, m4, m5, m6, ne_eq, Int.reduceAdd, Int.add_zero, not_true_eq_false, and_false]
  rw [if_pos]
  · rfl
  refine ⟨zz_ow_ok _ _ _ _ fun q hq => ?_, ?_⟩
  · simp only [zz_own, List.mem_cons, List.not_mem_nil, or_false] at hq
    rcases hq with hq | hq | hq | hq | hq | hq | hq | hq | hq | hq | hq <;> (rw [hq]; simp [zz_h_w, zz_h_n, zz_h_f])
  · simp only [zz_m_w, zz_m_n, zz_m_f, Nat.reduceEqDiff, if_false, m3]
    rfl
