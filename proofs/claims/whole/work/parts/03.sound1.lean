/-! WHAT THE ABSTRACT HEAP SAYS OF THE MACHINE'S -/
abbrev zz_vw : List vw_C := [(RX0, TX0, 4), (RX1, TX1, 8), (RX2, TX2, 4), (RX3, TX3, 3), (RX4, TX4, 4), (RX5, TX5, 11), (RX6, TX6, 20), (RX7, TX7, 20), (RX8, TX8, 67)]
def zz_ft : Nat → Nat → FieldType := fun c => match c with | 0 => tyX0 | 1 => tyX1 | 2 => tyX2 | 3 => tyX3 | 4 => tyX4 | 5 => tyX5 | 6 => tyX6 | 7 => tyX7 | _ => tyX8
/-- the class of an object kind, by its place in zz_vw -/
def zz_cl : Nat → Nat := fun k => match k with | 3 => 7 | 4 => 2 | 5 => 0 | 6 => 4 | 7 => 6 | 8 => 1 | 9 => 3 | 10 => 5 | _ => 8
def zz_aty : Nat → FieldType := fun k => match zz_ar k with | 2 => .boolean | 3 => (match k with | 11 => .object RX6 | 19 => .object RX6 | _ => .object RX5) | _ => .int
def zz_nw : List Cond := [.arrayOver (.object RX6), .arrayOver (.object RX5)]
def zz_nm : List (String × Nat × MethodName × String) := [("CinemaClock", 26, yX2_init, "CinemaClock"), ("CinemaClock", 33, yX0_init, "CinemaClock"), ("CinemaClock", 40, yX4_init, "CinemaClock"), ("CinemaClock$Task", 17, yX1_init, "CinemaClock"), ("CinemaClock$Task", 24, yX3_init, "CinemaClock"), ("CinemaClock$Calendar", 44, yX7_isWithin, "CinemaClock"), ("CinemaClock$Dues", 32, yX7_isWithin, "CinemaClock")]
def zz_nl (q : String × Nat × MethodName × String) : Cond := .methodLinkNest q.1 q.2.1 q.2.2.1 q.2.2.2
/-- the tables' words that a method may hand on -/
def zz_tb : List Jvm.Cond := lw_tbl.filter goodWord
set_option maxRecDepth 100000 in
theorem zz_cw : ∀ (c : Nat) (q : vw_C), zz_vw[c]? = some q → (∀ w ∈ u_ws q.1 q.2.1 q.2.2, w ∈ zz_tb) ∧ (∀ k, k < q.2.2 → parseFieldDescriptor (q.2.1 k).2.2.1 = some (zz_ft c k)) ∧ (∀ a, a < q.2.2 → ∀ b, b < q.2.2 → a ≠ b → (q.2.1 a).2.1 ≠ (q.2.1 b).2.1) ∧ Jvm.Cond.instantiable q.1 q.2.2 ∈ zz_tb ∧ Jvm.Cond.initialized q.1 ∈ zz_tb
  | 0, _, h => by cases h; exact ⟨by decide +kernel, tyX0_ok, nmX0, by decide +kernel, by decide +kernel⟩
  | 1, _, h => by cases h; exact ⟨by decide +kernel, tyX1_ok, nmX1, by decide +kernel, by decide +kernel⟩
  | 2, _, h => by cases h; exact ⟨by decide +kernel, tyX2_ok, nmX2, by decide +kernel, by decide +kernel⟩
  | 3, _, h => by cases h; exact ⟨by decide +kernel, tyX3_ok, nmX3, by decide +kernel, by decide +kernel⟩
  | 4, _, h => by cases h; exact ⟨by decide +kernel, tyX4_ok, nmX4, by decide +kernel, by decide +kernel⟩
  | 5, _, h => by cases h; exact ⟨by decide +kernel, tyX5_ok, nmX5, by decide +kernel, by decide +kernel⟩
  | 6, _, h => by cases h; exact ⟨by decide +kernel, tyX6_ok, nmX6, by decide +kernel, by decide +kernel⟩
  | 7, _, h => by cases h; exact ⟨by decide +kernel, tyX7_ok, nmX7, by decide +kernel, by decide +kernel⟩
  | 8, _, h => by cases h; exact ⟨by decide +kernel, tyX8_ok, nmX8, by decide +kernel, by decide +kernel⟩
  | c + 9, _, h => by simp [zz_vw] at h
-- values
def zz_cv (ad : Nat → Int → Nat) (v : zz_V) : Value := if v.1 = 0 then .int (Int32.ofInt v.2) else if v.1 = 1 then .long (Int64.ofInt v.2) else if v.2 = 0 then .null else .ref (ad (if v.1 ≤ 999 then v.1 - 2 else v.1 - 1000) v.2)
def zz_ok (σ : zz_S) (v : zz_V) : Prop := if v.1 = 0 then -2147483648 ≤ v.2 ∧ v.2 < 2147483648 else if v.1 = 1 then -9223372036854775808 ≤ v.2 ∧ v.2 < 9223372036854775808 else if v.1 ≤ 999 then 0 ≤ v.2 ∧ v.2 ≤ zz_m σ (v.1 - 2) else if v.1 = 3000 then v.2 = 0 else 1 ≤ v.2 ∧ v.2 ≤ zz_c σ (v.1 - 1000)
/-- the tag of a slot -/
def zz_tg (k : Nat) (j : Int) : Nat := if zz_ar k = 0 then (zz_ty k).getD j.toNat 0 else zz_et k
def zz_su (f : Nat → Int) : Nat → Int
  | 0 => 0
  | n + 1 => zz_su f n + f n
theorem zz_su_up (f : Nat → Int) (k : Nat) (v : Int) : ∀ n, zz_su (fun q => if q = k then v else f q) n = zz_su f n + (if k < n then v - f k else 0)
  | 0 => by simp [zz_su]
  | n + 1 => by
    rw [zz_su, zz_su, zz_su_up f k v n]
    by_cases h : k < n
    · rw [if_pos h, if_neg (show ¬ n = k by omega), if_pos (show k < n + 1 by omega)]
      omega
    · rw [if_neg h]
      by_cases h2 : n = k
      · subst h2
        rw [if_pos rfl, if_pos (show n < n + 1 by omega)]
        omega
      · rw [if_neg h2, if_neg (show ¬ k < n + 1 by omega)]
        omega
theorem zz_su_cong {f g : Nat → Int} (h : ∀ k, f k = g k) (n : Nat) : zz_su f n = zz_su g n := by
  rw [show f = g from funext h]
/-- the cells and slots that were made, by the counts -/
def zz_tot (σ : zz_S) : Prop := (zz_nc σ : Int) + 3 = zz_su (fun k => zz_c σ k) 92 ∧ (zz_ns σ : Int) + 22 = zz_su (fun k => zz_c σ k * (zz_len k : Int)) 92
def zz_vs (σ : zz_S) : Prop := (∀ k i j, 1 ≤ i → i ≤ zz_c σ k → zz_ok σ (zz_tg k j, zz_h σ k i j)) ∧ (∀ k q, q ∈ zz_own k → ∀ i, 1 ≤ i → i ≤ zz_m σ k → zz_h σ k i q.1 = i) ∧ (∀ k, 0 ≤ zz_m σ k ∧ zz_m σ k ≤ zz_c σ k) ∧ 1 ≤ zz_m σ 1 ∧ 1 ≤ zz_m σ 2 ∧ (∀ k, zz_ar k ≠ 0 → zz_m σ k = zz_c σ k) ∧ zz_tot σ
def zz_vl (σ : zz_S) (ls : List (Nat × zz_V)) : Prop := ∀ i, zz_ok σ (zz_lk ls i)
def zz_vk (σ : zz_S) (sk : List zz_V) : Prop := ∀ v ∈ sk, zz_ok σ v
def zz_gr (σ τ : zz_S) : Prop := (∀ k, zz_c σ k ≤ zz_c τ k ∧ zz_m σ k ≤ zz_m τ k) ∧ zz_nc σ ≤ zz_nc τ ∧ zz_ns σ ≤ zz_ns τ
def zz_fr (sd : Nat) (σ τ : zz_S) : Prop := sd = 2 ∨ ∀ k, zz_sd k ≠ sd → zz_c τ k = zz_c σ k ∧ zz_m τ k = zz_m σ k ∧ ∀ i j, zz_h τ k i j = zz_h σ k i j
theorem zz_gr.rf {σ : zz_S} : zz_gr σ σ := ⟨fun _ => ⟨Int.le_refl _, Int.le_refl _⟩, Nat.le_refl _, Nat.le_refl _⟩
theorem zz_gr.tr {a b c : zz_S} (h : zz_gr a b) (g : zz_gr b c) : zz_gr a c := ⟨fun k => ⟨Int.le_trans (h.1 k).1 (g.1 k).1, Int.le_trans (h.1 k).2 (g.1 k).2⟩, Nat.le_trans h.2.1 g.2.1, Nat.le_trans h.2.2 g.2.2⟩
theorem zz_fr.rf {sd : Nat} {σ : zz_S} : zz_fr sd σ σ := Or.inr fun _ _ => ⟨rfl, rfl, fun _ _ => rfl⟩
theorem zz_fr.tr {sd : Nat} {a b c : zz_S} (h : zz_fr sd a b) (g : zz_fr sd b c) : zz_fr sd a c := by
  rcases h with h | h
  · exact Or.inl h
  rcases g with g | g
  · exact Or.inl g
  exact Or.inr fun k hk => ⟨(g k hk).1.trans (h k hk).1, (g k hk).2.1.trans (h k hk).2.1, fun i j => ((g k hk).2.2 i j).trans ((h k hk).2.2 i j)⟩
theorem zz_ok.mono {σ τ : zz_S} {v : zz_V} (g : zz_gr σ τ) (h : zz_ok σ v) : zz_ok τ v := by
  unfold zz_ok at *
  split <;> rename_i h0
  · rwa [if_pos h0] at h
  rw [if_neg h0] at h
  split <;> rename_i h1
  · rwa [if_pos h1] at h
  rw [if_neg h1] at h
  split <;> rename_i h2
  · rw [if_pos h2] at h
    exact ⟨h.1, Int.le_trans h.2 (g.1 _).2⟩
  rw [if_neg h2] at h
  split <;> rename_i h3
  · rwa [if_pos h3] at h
  rw [if_neg h3] at h
  exact ⟨h.1, Int.le_trans h.2 (g.1 _).1⟩
theorem zz_vk.mono {σ τ : zz_S} {sk : List zz_V} (g : zz_gr σ τ) (h : zz_vk σ sk) : zz_vk τ sk := fun v hv => (h v hv).mono g
theorem zz_vl.mono {σ τ : zz_S} {ls : List (Nat × zz_V)} (g : zz_gr σ τ) (h : zz_vl σ ls) : zz_vl τ ls := fun i => (h i).mono g
theorem zz_ok_i {σ : zz_S} {x : Int} : zz_ok σ (0, x) ↔ -2147483648 ≤ x ∧ x < 2147483648 := by simp [zz_ok]
theorem zz_ok_l {σ : zz_S} {x : Int} : zz_ok σ (1, x) ↔ -9223372036854775808 ≤ x ∧ x < 9223372036854775808 := by simp [zz_ok]
theorem zz_ok_r {σ : zz_S} {t : Nat} {x : Int} (h : 2 ≤ t) (h2 : t ≤ 999) : zz_ok σ (t, x) ↔ 0 ≤ x ∧ x ≤ zz_m σ (t - 2) := by
  unfold zz_ok
  rw [if_neg (show ¬ t = 0 by omega), if_neg (show ¬ t = 1 by omega), if_pos (show t ≤ 999 from h2)]
theorem zz_ok_w {σ : zz_S} {t : Nat} {x : Int} (h : 1000 ≤ t) (h2 : t ≠ 3000) : zz_ok σ (t, x) ↔ 1 ≤ x ∧ x ≤ zz_c σ (t - 1000) := by
  unfold zz_ok
  rw [if_neg (show ¬ t = 0 by omega), if_neg (show ¬ t = 1 by omega), if_neg (show ¬ t ≤ 999 by omega), if_neg (show ¬ t = 3000 from h2)]
theorem zz_cv_i (ad : Nat → Int → Nat) (x : Int) : zz_cv ad (0, x) = .int (Int32.ofInt x) := rfl
theorem zz_cv_l (ad : Nat → Int → Nat) (x : Int) : zz_cv ad (1, x) = .long (Int64.ofInt x) := rfl
theorem zz_cv_0 (ad : Nat → Int → Nat) {t : Nat} (h : 2 ≤ t) : zz_cv ad (t, 0) = .null := by
  unfold zz_cv
  rw [if_neg (show ¬ t = 0 by omega), if_neg (show ¬ t = 1 by omega), if_pos rfl]
theorem zz_cv_r (ad : Nat → Int → Nat) {k : Nat} {x : Int} (h2 : k ≤ 900) (hx : ¬ x = 0) : zz_cv ad (2 + k, x) = .ref (ad k x) := by
  unfold zz_cv
  rw [if_neg (show ¬ 2 + k = 0 by omega), if_neg (show ¬ 2 + k = 1 by omega), if_neg (show ¬ (2 + k, x).2 = 0 from hx), if_pos (show 2 + k ≤ 999 by omega), show 2 + k - 2 = k by omega]
theorem zz_cv_w (ad : Nat → Int → Nat) {k : Nat} {x : Int} (hx : ¬ x = 0) : zz_cv ad (1000 + k, x) = .ref (ad k x) := by
  unfold zz_cv
  rw [if_neg (show ¬ 1000 + k = 0 by omega), if_neg (show ¬ 1000 + k = 1 by omega), if_neg (show ¬ (1000 + k, x).2 = 0 from hx), if_neg (show ¬ 1000 + k ≤ 999 by omega), show 1000 + k - 1000 = k by omega]
theorem zz_cat (ad : Nat → Int → Nat) {t : Nat} {x : Int} (h : t ≠ 1) : (zz_cv ad (t, x)).category = 1 := by
  unfold zz_cv
  split
  · rfl
  · split <;> first | rfl | (split <;> rfl)
theorem zz_catle (v : Value) : v.category ≤ 2 := by cases v <;> simp [Value.category]
/-- addresses that were given before stay -/
def zz_Ex (σ : zz_S) (ad ad' : Nat → Int → Nat) : Prop := ∀ k i, 1 ≤ i → i ≤ zz_c σ k → ad' k i = ad k i
theorem zz_Ex.rf {σ : zz_S} {ad : Nat → Int → Nat} : zz_Ex σ ad ad := fun _ _ _ _ => rfl
theorem zz_Ex.tr {σ τ : zz_S} {a b c : Nat → Int → Nat} (g : zz_gr σ τ) (h : zz_Ex σ a b) (h2 : zz_Ex τ b c) : zz_Ex σ a c := fun k i h1 h3 => (h2 k i h1 (Int.le_trans h3 (g.1 k).1)).trans (h k i h1 h3)
theorem zz_cv_ex {σ : zz_S} {ad ad' : Nat → Int → Nat} (hm : ∀ k, 0 ≤ zz_m σ k ∧ zz_m σ k ≤ zz_c σ k) {v : zz_V} (h : zz_ok σ v) (e : zz_Ex σ ad ad') : zz_cv ad' v = zz_cv ad v := by
  obtain ⟨t, x⟩ := v
  unfold zz_cv
  split
  · rfl
  split
  · rfl
  split
  · rfl
  rename_i h0 h1 h2
  have h0 : ¬ t = 0 := h0
  have h1 : ¬ t = 1 := h1
  have h2 : ¬ x = 0 := h2
  congr 1
  split <;> rename_i h3
  · have h3 : t ≤ 999 := h3
    obtain ⟨a, b⟩ := (zz_ok_r (by omega) h3).mp h
    exact e _ _ (by show 1 ≤ x; omega) (Int.le_trans b (hm _).2)
  · have h3 : ¬ t ≤ 999 := h3
    by_cases h4 : t = 3000
    · subst h4
      exact absurd (show x = 0 from h) h2
    · obtain ⟨a, b⟩ := (zz_ok_w (by omega) h4).mp h
      exact e _ _ a b
theorem zz_gd {l : List Nat} {b : Nat} (h : ∀ t ∈ l, t ≤ b) : ∀ k, l.getD k 0 ≤ b := by
  induction l with
  | nil => exact fun k => Nat.zero_le b
  | cons a l ih =>
    intro k
    cases k with
    | zero => exact h a List.mem_cons_self
    | succ k => exact ih (fun t ht => h t (List.mem_cons_of_mem _ ht)) k
theorem zz_et_le (k : Nat) : zz_et k ≤ 900 := zz_gd (b := 900) (by decide +kernel) k
