theorem zz_tg_le (k : Nat) (j : Int) : zz_tg k j ≤ 900 := by
  unfold zz_tg
  split
  · have h : ∀ k, ∀ t ∈ zz_ty k, t ≤ 900 := by
      intro k
      unfold zz_ty
      split <;> decide +kernel
    exact zz_gd (h k) _
  · exact zz_et_le k
theorem zz_h_w (σ : zz_S) (k : Nat) (i j v : Int) (k' : Nat) (i' j' : Int) : zz_h (zz_w σ k i j v) k' i' j' = if k' = k ∧ i' = i ∧ j' = j then v else zz_h σ k' i' j' := rfl
theorem zz_c_w (σ : zz_S) (k : Nat) (i j v : Int) (k' : Nat) : zz_c (zz_w σ k i j v) k' = zz_c σ k' := rfl
theorem zz_m_w (σ : zz_S) (k : Nat) (i j v : Int) (k' : Nat) : zz_m (zz_w σ k i j v) k' = zz_m σ k' := rfl
theorem zz_h_n (σ : zz_S) (k : Nat) (b : Int) (n : Nat) (k' : Nat) (i' j' : Int) : zz_h (zz_n σ k b n) k' i' j' = if k' = k ∧ i' = zz_c σ k + 1 then 0 else zz_h σ k' i' j' := rfl
theorem zz_c_n (σ : zz_S) (k : Nat) (b : Int) (n : Nat) (k' : Nat) : zz_c (zz_n σ k b n) k' = if k' = k then zz_c σ k + 1 else zz_c σ k' := rfl
theorem zz_m_n (σ : zz_S) (k : Nat) (b : Int) (n : Nat) (k' : Nat) : zz_m (zz_n σ k b n) k' = if k' = k then zz_m σ k + b else zz_m σ k' := rfl
theorem zz_h_f (σ : zz_S) (k : Nat) (k' : Nat) (i' j' : Int) : zz_h (zz_f σ k) k' i' j' = zz_h σ k' i' j' := rfl
theorem zz_c_f (σ : zz_S) (k : Nat) (k' : Nat) : zz_c (zz_f σ k) k' = zz_c σ k' := rfl
theorem zz_m_f (σ : zz_S) (k : Nat) (k' : Nat) : zz_m (zz_f σ k) k' = if k' = k then zz_m σ k + 1 else zz_m σ k' := rfl
theorem zz_gr_w (σ : zz_S) (k : Nat) (i j v : Int) : zz_gr σ (zz_w σ k i j v) := ⟨fun _ => ⟨Int.le_refl _, Int.le_refl _⟩, Nat.le_refl _, Nat.le_refl _⟩
theorem zz_gr_n (σ : zz_S) (k : Nat) {b : Int} (hb : 0 ≤ b) (n : Nat) : zz_gr σ (zz_n σ k b n) := by
  refine ⟨fun q => ⟨?_, ?_⟩, Nat.le_succ _, Nat.le_add_right _ _⟩
  · rw [zz_c_n]
    split
    · rename_i e
      rw [e]
      omega
    · omega
  · rw [zz_m_n]
    split
    · rename_i e
      rw [e]
      omega
    · omega
theorem zz_gr_f (σ : zz_S) (k : Nat) : zz_gr σ (zz_f σ k) := by
  refine ⟨fun q => ⟨Int.le_refl _, ?_⟩, Nat.le_refl _, Nat.le_refl _⟩
  rw [zz_m_f]
  split
  · rename_i e
    rw [e]
    omega
  · omega
theorem zz_fr_w {sd : Nat} (σ : zz_S) {k : Nat} (hk : zz_sd k = sd) (i j v : Int) : zz_fr sd σ (zz_w σ k i j v) := Or.inr fun q hq => ⟨rfl, rfl, fun a b => by
  rw [zz_h_w, if_neg]
  rintro ⟨rfl, -, -⟩
  exact hq hk⟩
theorem zz_fr_n {sd : Nat} (σ : zz_S) {k : Nat} (hk : zz_sd k = sd ∨ sd = 2) (b : Int) (n : Nat) : zz_fr sd σ (zz_n σ k b n) := by
  rcases hk with hk | hk
  · refine Or.inr fun q hq => ?_
    have e : ¬ q = k := fun e => hq (e ▸ hk)
    refine ⟨?_, ?_, fun a b => ?_⟩
    · rw [zz_c_n, if_neg e]
    · rw [zz_m_n, if_neg e]
    · rw [zz_h_n, if_neg (fun z => e z.1)]
  · exact Or.inl hk
theorem zz_fr_f {sd : Nat} (σ : zz_S) {k : Nat} (hk : zz_sd k = sd) : zz_fr sd σ (zz_f σ k) := by
  refine Or.inr fun q hq => ⟨rfl, ?_, fun _ _ => rfl⟩
  rw [zz_m_f, if_neg (show ¬ q = k from fun e => hq (by rw [e]; exact hk))]
theorem zz_ok_0 {σ : zz_S} (hm : ∀ k, 0 ≤ zz_m σ k ∧ zz_m σ k ≤ zz_c σ k) {t : Nat} (h : t ≤ 999) : zz_ok σ (t, 0) := by
  by_cases h0 : t = 0
  · subst h0
    exact zz_ok_i.mpr ⟨by omega, by omega⟩
  by_cases h1 : t = 1
  · subst h1
    exact zz_ok_l.mpr ⟨by omega, by omega⟩
  exact (zz_ok_r (by omega) h).mpr ⟨Int.le_refl _, (hm _).1⟩
theorem zz_ok_eq {σ τ : zz_S} (hc : ∀ k, zz_c σ k = zz_c τ k) (hm : ∀ k, zz_m σ k = zz_m τ k) {v : zz_V} (h : zz_ok σ v) : zz_ok τ v := by
  unfold zz_ok at *
  simpa only [hc, hm] using h
theorem zz_vs_w {σ : zz_S} (h : zz_vs σ) {k : Nat} {i j v : Int} (hv : zz_ok σ (zz_tg k j, v)) (ho : ∀ q ∈ zz_own k, j = q.1 → i ≤ zz_m σ k → v = i) : zz_vs (zz_w σ k i j v) := by
  obtain ⟨h1, h2, h3, h4⟩ := h
  refine ⟨fun k' i' j' a b => ?_, fun k' q hq i' a b => ?_, h3, h4⟩
  · refine zz_ok_eq (σ := σ) (fun _ => rfl) (fun _ => rfl) ?_
    rw [zz_h_w]
    split
    · rename_i e
      obtain ⟨rfl, rfl, rfl⟩ := e
      exact hv
    · exact h1 _ _ _ a b
  · rw [zz_h_w]
    split
    · rename_i e
      obtain ⟨rfl, rfl, e⟩ := e
      exact ho q hq e.symm b
    · exact h2 _ q hq _ a b
theorem zz_vs_n {σ : zz_S} (h : zz_vs σ) {k : Nat} {b : Int} (hb : (b = 0 ∧ zz_ar k = 0) ∨ (b = 1 ∧ zz_own k = [])) {n : Nat} (hn : n = zz_len k ∧ k < 92) : zz_vs (zz_n σ k b n) := by
  have hb0 : 0 ≤ b ∧ b ≤ 1 := by rcases hb with ⟨rfl, -⟩ | ⟨rfl, -⟩ <;> omega
  have hg := zz_gr_n σ k hb0.1 n
  obtain ⟨h1, h2, h3, h4⟩ := h
  have hm : ∀ q, 0 ≤ zz_m (zz_n σ k b n) q ∧ zz_m (zz_n σ k b n) q ≤ zz_c (zz_n σ k b n) q := by
    intro q
    rw [zz_m_n, zz_c_n]
    have := h3 k
    have := h3 q
    split <;> omega
  refine ⟨fun k' i' j' a b' => ?_, fun k' q hq i' a b' => ?_, hm, Int.le_trans h4.1 (hg.1 1).2, Int.le_trans h4.2.1 (hg.1 2).2, fun k' hk' => ?_, ?_⟩
  · rw [zz_h_n]
    split
    · exact zz_ok_0 hm (Nat.le_trans (zz_tg_le _ _) (by omega))
    · rename_i e
      refine (h1 k' i' j' a ?_).mono hg
      rw [zz_c_n] at b'
      split at b'
      · rename_i e2
        subst e2
        have : ¬ i' = zz_c σ k' + 1 := fun z => e ⟨rfl, z⟩
        omega
      · exact b'
  · rw [zz_m_n] at b'
    have hkc := h3 k
    split at b'
    · rename_i e
      subst e
      rcases hb with ⟨hb, -⟩ | ⟨-, hb⟩
      · subst hb
        rw [zz_h_n, if_neg (by rintro ⟨-, e⟩; omega)]
        exact h2 _ q hq _ a (by omega)
      · rw [hb] at hq
        cases hq
    · rename_i e
      rw [zz_h_n, if_neg (by rintro ⟨e2, -⟩; exact e e2)]
      exact h2 _ q hq _ a b'
  · rw [zz_m_n, zz_c_n]
    have h5 := h4.2.2.1 k' hk'
    split
    · rename_i e
      subst e
      rcases hb with ⟨-, hb⟩ | ⟨hb, -⟩
      · exact absurd hb hk'
      · omega
    · exact h5
  · obtain ⟨t1, t2⟩ := h4.2.2.2
    have e1 := zz_su_up (fun q => zz_c σ q) k (zz_c σ k + 1) 92
    have e2 := zz_su_up (fun q => zz_c σ q * (zz_len q : Int)) k ((zz_c σ k + 1) * (zz_len k : Int)) 92
    rw [if_pos hn.2] at e1 e2
    refine ⟨?_, ?_⟩
    · show ((zz_nc σ + 1 : Nat) : Int) + 3 = zz_su (fun q => if q = k then zz_c σ k + 1 else zz_c σ q) 92
      rw [e1]
      omega
    · have e3 : zz_su (fun q => zz_c (zz_n σ k b n) q * (zz_len q : Int)) 92 = zz_su (fun q => if q = k then (zz_c σ k + 1) * (zz_len k : Int) else zz_c σ q * (zz_len q : Int)) 92 := by
        refine zz_su_cong (fun q => ?_) 92
        rw [zz_c_n]
        split
        · rename_i e
          rw [e]
        · rfl
      show ((zz_ns σ + n : Nat) : Int) + 22 = _
      rw [e3, e2, Int.add_mul, hn.1]
      omega
theorem zz_ow_mem {σ : zz_S} {k : Nat} {x : Int} : ∀ {l : List (Nat × Nat)}, zz_ow σ k x l = true → ∀ q ∈ l, zz_h σ k x q.1 = x
  | [], _, q, hq => by cases hq
  | a :: l, h, q, hq => by
    simp only [zz_ow, Bool.and_eq_true, decide_eq_true_eq] at h
    rcases List.mem_cons.mp hq with rfl | hq
    · exact h.1
    · exact zz_ow_mem h.2 q hq
theorem zz_vs_f {σ : zz_S} (h : zz_vs σ) {k : Nat} {x : Int} (hk0 : zz_ar k = 0) (ho : zz_ow σ k x (zz_own k) = true) (hx : zz_m σ k + 1 = x) (hc : x ≤ zz_c σ k) : zz_vs (zz_f σ k) := by
  have hg := zz_gr_f σ k
  obtain ⟨h1, h2, h3, h4⟩ := h
  refine ⟨fun k' i' j' a b' => (h1 k' i' j' a b').mono hg, fun k' q hq i' a b' => ?_, fun q => ?_, Int.le_trans h4.1 (hg.1 1).2, Int.le_trans h4.2.1 (hg.1 2).2, fun k' hk' => ?_, h4.2.2.2⟩
  · rw [zz_m_f] at b'
    split at b'
    · rename_i e
      subst e
      by_cases e : i' = x
      · subst e
        exact zz_ow_mem ho q hq
      · exact h2 _ q hq _ a (by omega)
    · exact h2 _ q hq _ a b'
  · rw [zz_m_f, zz_c_f]
    have := h3 k
    have := h3 q
    split
    · rename_i e
      subst e
      omega
    · omega
  · rw [zz_m_f, if_neg (fun e => hk' (by rw [e]; exact hk0))]
    exact h4.2.2.1 k' hk'
theorem zz_ar_lt {k : Nat} (h : zz_ar k ≠ 0) : k < 92 := by
  rcases Nat.lt_or_ge k 92 with h1 | h1
  · exact h1
  · exfalso
    apply h
    unfold zz_ar
    rw [List.getD_eq_getElem?_getD, List.getElem?_eq_none (by simpa using h1)]
    rfl
-- the cells
def zz_ac (U : State) (cell : Cell) (k : Nat) : Prop := U.isArrayOf cell (zz_aty k) ∧ cell.vm ≠ .unknown ∧ (zz_ar k = 3 → va_RA U cell.cls (zz_aty k))
def zz_ce (D : va_G) (ad : Nat → Int → Nat) (σ : zz_S) (U : State) (H : Heap) (k : Nat) (i : Int) : Prop :=
  ∃ cell : Cell, H[ad k i]? = some cell ∧ ((zz_ar k = 0 ∧ cell.cls = D.1 (zz_cl k) ∧ cell.vm = .none ∧ ∀ j : Nat, j < zz_len k → cell.slots[D.2 (zz_cl k) j]? = some (zz_cv ad (zz_tg k j, zz_h σ k i j))) ∨ (zz_ar k ≠ 0 ∧ zz_ac U cell k ∧ (cell.slots.size : Int) = zz_al σ k i ∧ ∀ j : Nat, j < cell.slots.size → cell.slots[j]? = some (zz_cv ad (zz_et k, zz_h σ k i j))))
def zz_K (D : va_G) (U : State) : Prop := (∀ (c : Nat) (q : vw_C), zz_vw[c]? = some q → u_Kn U q.1 q.2.1 q.2.2 (D.1 c) (D.2 c)) ∧ (va_AO RX6 U ∧ va_AO RX5 U) ∧ ∀ q ∈ zz_nm, va_Nw (zz_nl q) U
def zz_Z (n0 t1 t2 : Nat) (U : State) (H : Heap) : Prop := va_Z "CinemaClock$Calendar" "MONTH_STARTS" "[I" (.ref t1) (fun q => n0 ≤ q) U H ∧ va_Z "CinemaClock$Calendar" "LAST_A" "[I" (.ref t2) (fun q => n0 ≤ q) U H
def zz_Hd (D : va_G) (n0 : Nat) (ad : Nat → Int → Nat) (σ : zz_S) (U : State) (H : Heap) : Prop :=
  n0 ≤ H.size ∧ (∀ k i, 1 ≤ i → i ≤ zz_c σ k → zz_ce D ad σ U H k i ∧ (k ≤ 2 → ad k i < n0) ∧ (3 ≤ k → n0 ≤ ad k i)) ∧ (∀ k i k' i', 3 ≤ k → 3 ≤ k' → (1 ≤ i ∧ i ≤ zz_c σ k) → (1 ≤ i' ∧ i' ≤ zz_c σ k') → ad k i = ad k' i' → k = k' ∧ i = i') ∧ zz_Z n0 (ad 1 1) (ad 2 1) U H
theorem zz_K.calling {D : va_G} {U : State} {g : JFrame} {mk : MethodId} {a : Array Value} (h : zz_K D U) : zz_K D (U.calling g mk a) := by
  refine ⟨fun c q hq => u_Kn_moved (u := U) (U := U.calling g mk a) (Vm.Alike.refl U.vm) (h.1 c q hq), ⟨va_AO.moved (u := U) (U := U.calling g mk a) (Vm.Alike.refl U.vm) h.2.1.1, va_AO.moved (u := U) (U := U.calling g mk a) (Vm.Alike.refl U.vm) h.2.1.2⟩, fun q hq => va_Nw.same rfl (u := U) (U := U.calling g mk a) rfl (h.2.2 q hq)⟩
theorem zz_K.warm {D : va_G} {s U : State} (hW : s.WarmedH U.vm) (h : zz_K D s) : zz_K D U :=
  ⟨fun c q hq => u_Kn_moved hW.alike (h.1 c q hq), ⟨va_AO.moved hW.alike h.2.1.1, va_AO.moved hW.alike h.2.1.2⟩, fun q hq => va_Nw.warmM hW (h.2.2 q hq)⟩
theorem zz_ac.moved {u U : State} (hvm : u.vm.Alike U.vm) {cell : Cell} {k : Nat} (h : zz_ac u cell k) : zz_ac U cell k := ⟨State.isArrayOf_alike hvm h.1, h.2.1, fun e => (h.2.2 e).moved hvm⟩
theorem zz_Hd.moved {D : va_G} {n0 : Nat} {ad : Nat → Int → Nat} {σ : zz_S} {u U : State} {H : Heap} (hvm : u.vm.Alike U.vm) (h : zz_Hd D n0 ad σ u H) : zz_Hd D n0 ad σ U H := by
  obtain ⟨h0, h1, h2, h3, h4⟩ := h
  refine ⟨h0, fun k i a b => ⟨?_, (h1 k i a b).2⟩, h2, h3.moved hvm, h4.moved hvm⟩
  obtain ⟨⟨cell, hc, r⟩, -⟩ := h1 k i a b
  refine ⟨cell, hc, ?_⟩
  rcases r with r | ⟨r1, r2, r3⟩
  · exact Or.inl r
  · exact Or.inr ⟨r1, r2.moved hvm, r3⟩
theorem zz_Hd.put {D : va_G} {n0 : Nat} {ad : Nat → Int → Nat} {σ : zz_S} {U : State} {H H' : Heap} (h : zz_Hd D n0 ad σ U H) {k : Nat} {i j v : Int} (hk : 3 ≤ k) (hi : 1 ≤ i) (hc : i ≤ zz_c σ k) (hz : H'.size = H.size) (ho : ∀ q : Nat, q ≠ ad k i → H'[q]? = H[q]?) (hn : zz_ce D ad (zz_w σ k i j v) U H' k i) : zz_Hd D n0 ad (zz_w σ k i j v) U H' := by
  obtain ⟨h0, h1, h2, h3, h4⟩ := h
  have hge : n0 ≤ ad k i := (h1 k i hi hc).2.2 hk
  refine ⟨by omega, fun k' i' a b => ⟨?_, (h1 k' i' a b).2⟩, h2, h3.kept (fun q _ hq => ho q (fun e => hq (by omega))), h4.kept (fun q _ hq => ho q (fun e => hq (by omega)))⟩
  by_cases e : k' = k ∧ i' = i
  · obtain ⟨rfl, rfl⟩ := e
    exact hn
  · have hne : ad k' i' ≠ ad k i := by
      intro z
      by_cases hk' : 3 ≤ k'
      · exact e (h2 k' i' k i hk' hk ⟨a, b⟩ ⟨hi, hc⟩ z)
      · have := (h1 k' i' a b).2.1 (by omega)
        omega
    obtain ⟨⟨cell, g1, r⟩, -⟩ := h1 k' i' a b
    refine ⟨cell, by rw [ho _ hne]; exact g1, ?_⟩
    have hh : ∀ j', zz_h (zz_w σ k i j v) k' i' j' = zz_h σ k' i' j' := fun j' => by
      rw [zz_h_w, if_neg (fun z => e ⟨z.1, z.2.1⟩)]
    have hl : zz_al (zz_w σ k i j v) k' i' = zz_al σ k' i' := by
      unfold zz_al
      split
      · rw [zz_h_w, if_neg (fun z => by omega)]
      · rfl
    simp only [hh, hl]
    exact r
def zz_up (ad : Nat → Int → Nat) (k : Nat) (i : Int) (q : Nat) : Nat → Int → Nat := fun k' i' => if k' = k ∧ i' = i then q else ad k' i'
theorem zz_up_ex {σ : zz_S} {ad : Nat → Int → Nat} {k : Nat} {q : Nat} : zz_Ex σ ad (zz_up ad k (zz_c σ k + 1) q) := fun k' i' a b => by
  unfold zz_up
  rw [if_neg]
  rintro ⟨rfl, rfl⟩
  omega
theorem zz_Hd.new {D : va_G} {n0 : Nat} {ad : Nat → Int → Nat} {σ : zz_S} {U : State} {H H' : Heap} (hv : zz_vs σ) (h : zz_Hd D n0 ad σ U H) {k : Nat} {b : Int} {n : Nat} (hk : 3 ≤ k) (ho : ∀ q : Nat, q < H.size → H'[q]? = H[q]?) (hz : H'.size = H.size + 1) (hn : zz_ce D (zz_up ad k (zz_c σ k + 1) H.size) (zz_n σ k b n) U H' k (zz_c σ k + 1)) : zz_Hd D n0 (zz_up ad k (zz_c σ k + 1) H.size) (zz_n σ k b n) U H' := by
  obtain ⟨h0, h1, h2, h3, h4⟩ := h
  have hex := zz_up_ex (σ := σ) (ad := ad) (k := k) (q := H.size)
  have hold : ∀ k' i', 1 ≤ i' → i' ≤ zz_c (zz_n σ k b n) k' → (k' = k ∧ i' = zz_c σ k + 1) ∨ i' ≤ zz_c σ k' := by
    intro k' i' a b'
    rw [zz_c_n] at b'
    split at b'
    · rename_i e
      subst e
      by_cases e : i' = zz_c σ k' + 1
      · exact Or.inl ⟨rfl, e⟩
      · exact Or.inr (by omega)
    · exact Or.inr b'
  have hlt : ∀ k' i', 1 ≤ i' → i' ≤ zz_c σ k' → ad k' i' < H.size := by
    intro k' i' a b'
    obtain ⟨⟨cell, g1, -⟩, -⟩ := h1 k' i' a b'
    exact (Array.getElem?_eq_some_iff.mp g1).1
  have hself : zz_up ad k (zz_c σ k + 1) H.size k (zz_c σ k + 1) = H.size := if_pos ⟨rfl, rfl⟩
  have k1 : zz_up ad k (zz_c σ k + 1) H.size 1 1 = ad 1 1 := if_neg (by rintro ⟨e, -⟩; omega)
  have k2 : zz_up ad k (zz_c σ k + 1) H.size 2 1 = ad 2 1 := if_neg (by rintro ⟨e, -⟩; omega)
  refine ⟨by omega, fun k' i' a b' => ?_, fun k' i' k'' i'' e1 e2 f1 f2 e => ?_, by rw [k1]; exact h3.kept (fun q hq _ => ho q hq), by rw [k2]; exact h4.kept (fun q hq _ => ho q hq)⟩
  · rcases hold k' i' a b' with ⟨rfl, rfl⟩ | hc
    · exact ⟨hn, fun e => by omega, fun _ => by rw [hself]; exact h0⟩
    · rw [hex k' i' a hc]
      refine ⟨?_, (h1 k' i' a hc).2⟩
      obtain ⟨⟨cell, g1, r⟩, -⟩ := h1 k' i' a hc
      refine ⟨cell, by rw [hex k' i' a hc, ho _ (hlt k' i' a hc)]; exact g1, ?_⟩
      have hne : ¬ (k' = k ∧ i' = zz_c σ k + 1) := by
        rintro ⟨rfl, rfl⟩
        omega
      have hh : ∀ j', zz_h (zz_n σ k b n) k' i' j' = zz_h σ k' i' j' := fun j' => by rw [zz_h_n, if_neg hne]
      have hl : zz_al (zz_n σ k b n) k' i' = zz_al σ k' i' := by
        unfold zz_al
        split
        · rw [zz_h_n, if_neg (fun z => by omega)]
        · rfl
      rcases r with ⟨r0, r1, r2, r3⟩ | ⟨r0, r1, r2, r3⟩
      · refine Or.inl ⟨r0, r1, r2, fun j hj => ?_⟩
        rw [hh, zz_cv_ex hv.2.2.1 (hv.1 k' i' j a hc) hex]
        exact r3 j hj
      · refine Or.inr ⟨r0, r1, by rw [hl]; exact r2, fun j hj => ?_⟩
        have ht := hv.1 k' i' j a hc
        unfold zz_tg at ht
        rw [if_neg r0] at ht
        rw [hh, zz_cv_ex hv.2.2.1 ht hex]
        exact r3 j hj
  · rcases hold k' i' f1.1 f1.2 with ⟨rfl, rfl⟩ | c1 <;> rcases hold k'' i'' f2.1 f2.2 with ⟨rfl, rfl⟩ | c2
    · exact ⟨rfl, rfl⟩
    · rw [hself, hex k'' i'' f2.1 c2] at e
      have := hlt k'' i'' f2.1 c2
      omega
    · rw [hself, hex k' i' f1.1 c1] at e
      have := hlt k' i' f1.1 c1
      omega
    · rw [hex k'' i'' f2.1 c2, hex k' i' f1.1 c1] at e
      exact h2 k' i' k'' i'' e1 e2 ⟨f1.1, c1⟩ ⟨f2.1, c2⟩ e
