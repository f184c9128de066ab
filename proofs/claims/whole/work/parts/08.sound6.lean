section ZARR
variable {M : zz_M} {pc : Nat} {lv : List (Nat × zz_V)} {sk : List zz_V} {σ τ : zz_S} {r : Int}
/-- a place of an array -/
theorem zz_elem {D : va_G} {n0 : Nat} {ad : Nat → Int → Nat} {s : State} {H : Heap} (hH : zz_Hd D n0 ad σ s H) {k : Nat} (hk : zz_ar k ≠ 0) {x j : Int} (h1 : 1 ≤ x) (h2 : x ≤ zz_c σ k) (hj : zz_b σ k x j) (hr : -2147483648 ≤ j ∧ j < 2147483648) : ∃ cell : Cell, H[ad k x]? = some cell ∧ zz_ac s cell k ∧ ¬ (Int32.ofInt j < 0 ∨ cell.slots.size ≤ (Int32.ofInt j).toNatClampNeg) ∧ cell.slots[(Int32.ofInt j).toNatClampNeg]? = some (zz_cv ad (zz_et k, zz_h σ k x j)) ∧ (cell.slots.size : Int) = zz_al σ k x ∧ (∀ i : Nat, i < cell.slots.size → cell.slots[i]? = some (zz_cv ad (zz_et k, zz_h σ k x i))) ∧ (Int32.ofInt j).toNatClampNeg = j.toNat := by
  obtain ⟨⟨cell, g1, q⟩, -⟩ := hH.2.1 k x h1 h2
  obtain ⟨j0, j1⟩ := hj
  rcases q with ⟨r0, -⟩ | ⟨-, r1, r2, r3⟩
  · exact absurd r0 hk
  · obtain ⟨e1, e2⟩ := zz_clamp j0 hr.2
    have e3 : ((j.toNat : Nat) : Int) = j := by omega
    refine ⟨cell, g1, r1, ?_, ?_, r2, r3, e2⟩
    · rintro (z | z)
      · exact e1 z
      · rw [e2] at z
        omega
    · rw [e2, r3 _ (by omega), e3]
theorem zs_ald {k : Nat} {ins : Instr} {t : Nat} (hk : zz_ar k ≠ 0 ∧ k ≤ 900) (ht : t = zz_et k) {x j : Int} (hx : ¬ x = 0) (hj : zz_b σ k x j)
    (row : ∀ (p : Program) (l : Launch) (e : Env) (R : Room) (s : State) (m : MethodId) (args : Array Value) (below : List Frame) (meth : Method) (c : Code), zz_Cx M p R s m args meth c → ∀ (H : Heap) (locs : List Loc) (cells slots : Nat) (ls : Array Slot) (Q : State → Prop) (a : Nat) (cell : Cell) (v : Value) (rest : List Value), H[a]? = some cell → zz_ac s cell k → ¬ (Int32.ofInt j < 0 ∨ cell.slots.size ≤ (Int32.ofInt j).toNatClampNeg) → cell.slots[(Int32.ofInt j).toNatClampNeg]? = some v → W p l e R s m args below meth c H locs cells slots Q (F0 m (pc + 1) ls (v :: rest)) → W p l e R s m args below meth c H locs cells slots Q (F0 m pc ls (.int (Int32.ofInt j) :: .ref a :: rest)))
    (h : zz_At M (pc + 1) lv ((t, zz_h σ k x j) :: sk) σ r τ) : zz_At M pc lv ((0, j) :: (2 + k, x) :: sk) σ r τ := by
  subst ht
  refine zz_At.pure (fun a b' c => ?_) (fun a1 a2 a3 p l e R s m args below meth c C D n0 ad H locs cells slots ls Q hK hH hL kk => ?_) h
  · obtain ⟨i1, i2, -⟩ := zz_kid a hk.2 (zz_vk_c.mp (zz_vk_c.mp c).2).1 hx
    have := a.1 k x j i1 i2
    unfold zz_tg at this
    rw [if_neg hk.1] at this
    exact zz_vk_c.mpr ⟨this, (zz_vk_c.mp (zz_vk_c.mp c).2).2⟩
  · obtain ⟨i1, i2, -⟩ := zz_kid a1 hk.2 (zz_vk_c.mp (zz_vk_c.mp a3).2).1 hx
    obtain ⟨cell, g1, g2, g3, g4, -⟩ := zz_elem hH hk.1 i1 i2 hj (zz_ok_i.mp (zz_vk_c.mp a3).1)
    rw [List.map_cons, List.map_cons, zz_cv_r ad hk.2 hx]
    exact row p l e R s m args below meth c C H locs cells slots ls Q _ cell _ _ g1 g2 g3 g4 kk
theorem zs_iald {k t : Nat} (hk : zz_ar k = 1 ∧ k ≤ 900) (ha : zz_aty k = .int) (ht : t = zz_et k) {x j : Int} (hx : ¬ x = 0) (hj : zz_b σ k x j) (hd : decode (zm_b M) pc = .ok (.iaload, 1)) (h : zz_At M (pc + 1) lv ((t, zz_h σ k x j) :: sk) σ r τ) : zz_At M pc lv ((0, j) :: (2 + k, x) :: sk) σ r τ :=
  zs_ald (ins := .iaload) ⟨by rw [hk.1]; decide, hk.2⟩ ht hx hj (fun p l e R s m args below meth c C H locs cells slots ls Q a cell v rest g1 g2 g3 g4 kk => W.iald C.1 C.2.1 g1 (by have := g2.1; rwa [ha] at this) g2.2.1 g3 g4 rfl rfl hd kk) h
theorem zs_zald {k t : Nat} (hk : zz_ar k = 2 ∧ k ≤ 900) (ha : zz_aty k = .boolean) (ht : t = zz_et k) {x j : Int} (hx : ¬ x = 0) (hj : zz_b σ k x j) (hd : decode (zm_b M) pc = .ok (.baload, 1)) (h : zz_At M (pc + 1) lv ((t, zz_h σ k x j) :: sk) σ r τ) : zz_At M pc lv ((0, j) :: (2 + k, x) :: sk) σ r τ :=
  zs_ald (ins := .baload) ⟨by rw [hk.1]; decide, hk.2⟩ ht hx hj (fun p l e R s m args below meth c C H locs cells slots ls Q a cell v rest g1 g2 g3 g4 kk => W.zald C.1 C.2.1 g1 (by have := g2.1; rwa [ha] at this) g2.2.1 g3 g4 rfl rfl hd kk) h
theorem zs_aald {k t : Nat} (hk : zz_ar k = 3 ∧ k ≤ 900) (ha : (zz_aty k).isReference = true) (ht : t = zz_et k) {x j : Int} (hx : ¬ x = 0) (hj : zz_b σ k x j) (hd : decode (zm_b M) pc = .ok (.aaload, 1)) (h : zz_At M (pc + 1) lv ((t, zz_h σ k x j) :: sk) σ r τ) : zz_At M pc lv ((0, j) :: (2 + k, x) :: sk) σ r τ :=
  zs_ald (ins := .aaload) ⟨by rw [hk.1]; decide, hk.2⟩ ht hx hj (fun p l e R s m args below meth c C H locs cells slots ls Q a cell v rest g1 g2 g3 g4 kk => W.aald C.1 C.2.1 g1 g2.1 ha g2.2.1 g3 g4 rfl rfl hd kk) h
theorem zs_alen {k : Nat} (hk : zz_ar k ≠ 0 ∧ k ≤ 900) {x : Int} (hx : ¬ x = 0) (hd : decode (zm_b M) pc = .ok (.arraylength, 1)) (h : zz_At M (pc + 1) lv ((0, zz_al σ k x) :: sk) σ r τ) : zz_At M pc lv ((2 + k, x) :: sk) σ r τ := by
  have hl0 : zz_vs σ → zz_vk σ ((2 + k, x) :: sk) → zz_ok σ (0, zz_al σ k x) := by
    intro a c
    obtain ⟨i1, i2, -⟩ := zz_kid a hk.2 (zz_vk_c.mp c).1 hx
    unfold zz_al
    split
    · rename_i e
      subst e
      have hc := a.2.2.1 0
      have h1 : 1 ≤ zz_c σ 0 := by omega
      exact a.1 0 1 (-1) (by omega) h1
    · have : zz_len k ≤ 3000 := zz_gd (b := 3000) (by decide +kernel) k
      exact zz_ok_i.mpr ⟨by omega, by omega⟩
  refine zz_At.pure (fun a b' c => zz_vk_c.mpr ⟨hl0 a c, (zz_vk_c.mp c).2⟩) (fun a1 a2 a3 p l e R s m args below meth c C D n0 ad H locs cells slots ls Q hK hH hL kk => ?_) h
  obtain ⟨i1, i2, -⟩ := zz_kid a1 hk.2 (zz_vk_c.mp a3).1 hx
  obtain ⟨⟨cell, g1, q⟩, -⟩ := hH.2.1 k x i1 i2
  rcases q with ⟨r0, -⟩ | ⟨-, r1, r2, r3⟩
  · exact absurd r0 hk.1
  · rw [List.map_cons, zz_cv_r ad hk.2 hx]
    refine W.alen (n := Int32.ofInt (zz_al σ k x)) C.1 C.2.1 g1 r1.1 ?_ rfl rfl hd kk
    rw [← r2]
    rfl
/-- a place of an array is written -/
theorem zz_ce_set {D : va_G} {ad : Nat → Int → Nat} {U : State} {H' : Heap} {cell : Cell} {k : Nat} (hk : zz_ar k ≠ 0) (h3 : 3 ≤ k) {x j w : Int} {jn : Nat} (hj : (jn : Int) = j) (hjn : jn < cell.slots.size) (g1 : H'[ad k x]? = some (cell.setSlot jn (zz_cv ad (zz_et k, w)))) (g2 : zz_ac U cell k) (g3 : (cell.slots.size : Int) = zz_al σ k x) (g4 : ∀ i : Nat, i < cell.slots.size → cell.slots[i]? = some (zz_cv ad (zz_et k, zz_h σ k x i))) : zz_ce D ad (zz_w σ k x j w) U H' k x := by
  have hsz : (cell.setSlot jn (zz_cv ad (zz_et k, w))).slots.size = cell.slots.size := by simp [Cell.setSlot]
  refine ⟨_, g1, Or.inr ⟨hk, g2, ?_, fun i hi => ?_⟩⟩
  · rw [hsz, g3]
    unfold zz_al
    rw [if_neg (by omega), if_neg (by omega)]
  · rw [hsz] at hi
    rw [zz_h_w]
    by_cases e : i = jn
    · subst e
      rw [Cell.slots_setSlot_self _ hjn, if_pos ⟨rfl, rfl, hj⟩]
    · rw [slot_ne _ _ (fun z => e z.symm), if_neg (fun z => e (by omega))]
      exact g4 i hi
theorem zs_ast {k t : Nat} {ins : Instr} (hk : zz_ar k ≠ 0 ∧ k ≤ 900 ∧ 3 ≤ k ∧ zz_own k = []) (ht : t = zz_et k) (hsd : zz_sd k = zm_sd M) {x j w : Int} (hx : ¬ x = 0) (hj : zz_b σ k x j)
    (row : zz_vs σ → zz_ok σ (t, w) → ∀ (p : Program) (l : Launch) (e : Env) (R : Room) (s : State) (m : MethodId) (args : Array Value) (below : List Frame) (meth : Method) (c : Code), zz_Cx M p R s m args meth c → ∀ (D : va_G) (n0 : Nat) (ad : Nat → Int → Nat) (H : Heap) (locs : List Loc) (cells slots : Nat) (ls : Array Slot) (Q : State → Prop) (a : Nat) (cell : Cell) (rest : List Value), zz_K D s → zz_Hd D n0 ad σ s H → H[a]? = some cell → zz_ac s cell k → ¬ (Int32.ofInt j < 0 ∨ cell.slots.size ≤ (Int32.ofInt j).toNatClampNeg) →
      (∀ H' : Heap, H'[a]? = some (cell.setSlot (Int32.ofInt j).toNatClampNeg (zz_cv ad (t, w))) → H'.size = H.size → (∀ q, q ≠ a → H'[q]? = H[q]?) → W p l e R s m args below meth c H' (locs ++ [⟨a, (Int32.ofInt j).toNatClampNeg⟩]) cells slots Q (F0 m (pc + 1) ls rest)) → W p l e R s m args below meth c H locs cells slots Q (F0 m pc ls (zz_cv ad (t, w) :: .int (Int32.ofInt j) :: .ref a :: rest)))
    (h : zz_At M (pc + 1) lv sk (zz_w σ k x j w) r τ) : zz_At M pc lv ((t, w) :: (0, j) :: (2 + k, x) :: sk) σ r τ := by
  subst ht
  refine zz_At.step (fun a1 a2 a3 => ?_) (fun a1 a2 a3 p l e R s m args below meth c C D n0 ad H locs cells slots ls Q hK hH hL hlo hcl hsl kk => ?_) h
  · have g := zz_gr_w σ k x j w
    refine ⟨zz_vs_w a1 ?_ (fun q hq => by rw [hk.2.2.2] at hq; cases hq), a2.mono g, (zz_vk_c.mp (zz_vk_c.mp (zz_vk_c.mp a3).2).2).2.mono g, g, zz_fr_w σ hsd _ _ _⟩
    unfold zz_tg
    rw [if_neg hk.1]
    exact (zz_vk_c.mp a3).1
  · obtain ⟨i1, i2, -⟩ := zz_kid a1 hk.2.1 (zz_vk_c.mp (zz_vk_c.mp (zz_vk_c.mp a3).2).2).1 hx
    obtain ⟨cell, g1, g2, g3, g4, g5, g6, g7⟩ := zz_elem hH hk.1 i1 i2 hj (zz_ok_i.mp (zz_vk_c.mp (zz_vk_c.mp a3).2).1)
    rw [List.map_cons, List.map_cons, List.map_cons, zz_cv_r ad hk.2.1 hx]
    refine row a1 (zz_vk_c.mp a3).1 p l e R s m args below meth c C D n0 ad H locs cells slots ls Q _ cell _ hK hH g1 g2 g3 fun H' e1 e2 e3 => ?_
    have hjn : (Int32.ofInt j).toNatClampNeg < cell.slots.size := Nat.not_le.mp fun z => g3 (Or.inr z)
    have k2 := kk ad H' (locs ++ [⟨ad k x, (Int32.ofInt j).toNatClampNeg⟩]) ls zz_Ex.rf (hH.put hk.2.2.1 i1 i2 e2 e3 (zz_ce_set hk.1 hk.2.2.1 (by rw [g7]; have := hj.1; omega) hjn e1 g2 g5 g6)) hL (fun y hy => by
      rcases List.mem_append.mp hy with hy | hy
      · exact hlo y hy
      · rw [List.mem_singleton.mp hy]
        exact (hH.2.1 k x i1 i2).2.2 hk.2.2.1)
    rw [show zz_nc (zz_w σ k x j w) - zz_nc σ = 0 from Nat.sub_self _, show zz_ns (zz_w σ k x j w) - zz_ns σ = 0 from Nat.sub_self _] at k2
    exact k2
theorem zs_iast {k t : Nat} (hk : zz_ar k = 1 ∧ k ≤ 900 ∧ 3 ≤ k ∧ zz_own k = []) (ha : zz_aty k = .int) (ht : t = zz_et k) (ht0 : t = 0) (hsd : zz_sd k = zm_sd M) {x j w : Int} (hx : ¬ x = 0) (hj : zz_b σ k x j) (hd : decode (zm_b M) pc = .ok (.iastore, 1)) (h : zz_At M (pc + 1) lv sk (zz_w σ k x j w) r τ) : zz_At M pc lv ((t, w) :: (0, j) :: (2 + k, x) :: sk) σ r τ := by
  refine zs_ast (ins := .iastore) ⟨by rw [hk.1]; decide, hk.2⟩ ht hsd hx hj (fun a1 aw p l e R s m args below meth c C D n0 ad H locs cells slots ls Q a cell rest hK hH g1 g2 g3 kk => ?_) h
  subst ht0
  exact W.iast C.1 C.2.1 g1 (by have := g2.1; rwa [ha] at this) g2.2.1 g3 rfl rfl hd kk
theorem zs_zast {k t : Nat} (hk : zz_ar k = 2 ∧ k ≤ 900 ∧ 3 ≤ k ∧ zz_own k = []) (ha : zz_aty k = .boolean) (ht : t = zz_et k) (ht0 : t = 0) (hsd : zz_sd k = zm_sd M) {x j w : Int} (hx : ¬ x = 0) (hj : zz_b σ k x j) (hw : zz_o w) (hd : decode (zm_b M) pc = .ok (.bastore, 1)) (h : zz_At M (pc + 1) lv sk (zz_w σ k x j w) r τ) : zz_At M pc lv ((t, w) :: (0, j) :: (2 + k, x) :: sk) σ r τ := by
  refine zs_ast (ins := .bastore) ⟨by rw [hk.1]; decide, hk.2⟩ ht hsd hx hj (fun a1 aw p l e R s m args below meth c C D n0 ad H locs cells slots ls Q a cell rest hK hH g1 g2 g3 kk => ?_) h
  subst ht0
  refine W.zast (x := Int32.ofInt w) C.1 C.2.1 g1 (by have := g2.1; rwa [ha] at this) g2.2.1 g3 rfl rfl hd fun H' e1 => kk H' ?_
  rw [e1]
  rcases hw with rfl | rfl <;> rfl
theorem zs_aast {k t : Nat} {q : vw_C} (hk : zz_ar k = 3 ∧ k ≤ 900 ∧ 3 ≤ k ∧ zz_own k = []) (ht : t = zz_et k) (ht2 : 2 ≤ t) (hq : zz_ob (t - 2) q) (ha : zz_aty k = .object q.1) (hsd : zz_sd k = zm_sd M) {x j w : Int} (hx : ¬ x = 0) (hj : zz_b σ k x j) (hw : ¬ w = 0) (hd : decode (zm_b M) pc = .ok (.aastore, 1)) (h : zz_At M (pc + 1) lv sk (zz_w σ k x j w) r τ) : zz_At M pc lv ((t, w) :: (0, j) :: (2 + k, x) :: sk) σ r τ := by
  refine zs_ast (ins := .aastore) ⟨by rw [hk.1]; decide, hk.2⟩ ht hsd hx hj (fun a1 aw p l e R s m args below meth c C D n0 ad H locs cells slots ls Q a cell rest hK hH g1 g2 g3 kk => ?_) h
  have et : t = 2 + (t - 2) := by omega
  rw [et] at aw kk ⊢
  obtain ⟨i1, i2, -⟩ := zz_kid a1 hq.2.2.2 aw hw
  obtain ⟨⟨cv, v1, v2⟩, -⟩ := hH.2.1 (t - 2) w i1 i2
  rw [zz_cv_r ad hq.2.2.2 hw] at kk ⊢
  rcases v2 with ⟨-, w1, w2, -⟩ | ⟨w0, -⟩
  · have hra := g2.2.2 hk.1
    rw [ha] at hra
    obtain ⟨kA, comp, r1, r2, r3, -⟩ := hra
    obtain ⟨-, hfc, kC, hkC, hkind⟩ := hK.1 _ _ hq.2.1
    cases r3.symm.trans hfc
    exact W.aast (v := ad (t - 2) w) C.1 C.2.1 g1 (fun z => g2.1.1 z) g2.2.1 r1 r2 rfl hkC ⟨fun z => g3 (Or.inl z), Nat.not_le.mp fun z => g3 (Or.inr z)⟩ v1 (fun z h => by rw [w2] at h; cases h) (by rw [w1]; exact hkC) (by rw [w1]; exact va_asg _ _) rfl rfl hd kk
  · exact absurd hq.1 w0
-- static arrays
theorem zs_gets {k i : Nat} {n : String} (hk : (k = 1 ∧ n = "MONTH_STARTS") ∨ (k = 2 ∧ n = "LAST_A")) (hw : Jvm.Cond.fieldLink (zm_own M) i "CinemaClock$Calendar" n "[I" ∈ zz_tb) (hd : decode (zm_b M) pc = .ok (.getstatic i, 3)) (h : zz_At M (pc + 3) lv ((2 + k, 1) :: sk) σ r τ) : zz_At M pc lv sk σ r τ := by
  refine zz_At.pure (fun a b' c => zz_vk_c.mpr ⟨?_, c⟩) (fun a1 a2 a3 p l e R s m args below meth c C D n0 ad H locs cells slots ls Q hK hH hL kk => ?_) h
  · rcases hk with ⟨rfl, -⟩ | ⟨rfl, -⟩
    · exact (zz_ok_r (by omega) (by omega)).mpr ⟨by omega, a.2.2.2.1⟩
    · exact (zz_ok_r (by omega) (by omega)).mpr ⟨by omega, a.2.2.2.2.1⟩
  · rw [List.map_cons, zz_cv_r ad (by omega) (by omega)] at kk
    have hZ : va_Z "CinemaClock$Calendar" n "[I" (.ref (ad k 1)) (fun q => n0 ≤ q) s H := by
      rcases hk with ⟨rfl, rfl⟩ | ⟨rfl, rfl⟩
      · exact hH.2.2.2.1
      · exact hH.2.2.2.2
    obtain ⟨cf, kf, fi, f, a, cell, h1, h2, h3, h4, h5, h6, h7, h8⟩ := hZ
    exact W.gets C.1 C.2.1 C.2.2.2.1 (C.2.2.2.2.1 _ hw) h1 h2 h3 h4 h5 (fun e => by rw [e] at h6; cases h6) h7 rfl hd kk
end ZARR
