section ZNEW
variable {M : zz_M} {pc : Nat} {lv : List (Nat × zz_V)} {sk : List zz_V} {σ τ : zz_S} {r : Int}
theorem zz_map_ex {ad ad' : Nat → Int → Nat} (hs : zz_vs σ) (h : zz_vk σ sk) (e : zz_Ex σ ad ad') : sk.map (zz_cv ad') = sk.map (zz_cv ad) := List.map_congr_left fun v hv => zz_cv_ex hs.2.2.1 (h v hv) e
theorem zz_L.ex {ls : Array Slot} {nL : Nat} {ad ad' : Nat → Int → Nat} (h : zz_L ls nL ad lv) (hs : zz_vs σ) (hl : zz_vl σ lv) (e : zz_Ex σ ad ad') : zz_L ls nL ad' lv := ⟨h.1, fun i hi => by rw [zz_cv_ex hs.2.2.1 (hl i) e]; exact h.2 i hi⟩
def zz_dv (k : Nat) : Bool := (List.range (zz_len k)).all fun j => zz_fk (zz_ft (zz_cl k) j) (zz_tg k j) 0 || zz_fk (zz_ft (zz_cl k) j) (zz_tg k j) 1
theorem zz_dv_ok {k j : Nat} (h : zz_dv k = true) (hj : j < zz_len k) (ad : Nat → Int → Nat) : defaultValue (zz_ft (zz_cl k) j) = zz_cv ad (zz_tg k j, 0) := by
  have h1 := List.all_eq_true.mp h j (List.mem_range.mpr hj)
  generalize zz_ft (zz_cl k) j = ty at h1 ⊢
  generalize zz_tg k j = t at h1 ⊢
  rw [Bool.or_eq_true] at h1
  rcases h1 with h1 | h1 <;> unfold zz_fk at h1 <;> split at h1 <;> first
    | (obtain ⟨rfl, -⟩ := of_decide_eq_true h1; rfl)
    | (obtain ⟨h2, -, -⟩ := of_decide_eq_true h1; rw [zz_cv_0 ad h2]; rfl)
    | cases h1
theorem zs_new {k i : Nat} {q : vw_C} (hq : zz_ob k q) (h3 : 3 ≤ k ∧ k < 92) (hdv : zz_dv k = true) (hw : Jvm.Cond.classLink (zm_own M) i q.1 ∈ zz_tb) (hsd : zz_sd k = zm_sd M ∨ zm_sd M = 2) (hd : decode (zm_b M) pc = .ok (.new i, 3)) (h : zz_At M (pc + 3) lv ((1000 + k, zz_c σ k + 1) :: sk) (zz_n σ k 0 (zz_len k)) r τ) : zz_At M pc lv sk σ r τ := by
  obtain ⟨q0, q1, q2, q3⟩ := hq
  have g := zz_gr_n σ k (b := 0) (Int.le_refl _) (zz_len k)
  refine zz_At.step (fun a1 a2 a3 => ?_) (fun a1 a2 a3 p l e R s m args below meth c C D n0 ad H locs cells slots ls Q hK hH hL hlo hcl hsl kk => ?_) h
  · refine ⟨zz_vs_n a1 (Or.inl ⟨rfl, q0⟩) ⟨rfl, h3.2⟩, a2.mono g, zz_vk_c.mpr ⟨?_, a3.mono g⟩, g, zz_fr_n σ hsd _ _⟩
    refine (zz_ok_w (by omega) (by omega)).mpr ?_
    rw [show 1000 + k - 1000 = k by omega, zz_c_n, if_pos rfl]
    have := a1.2.2.1 k
    omega
  · have e1 : zz_nc (zz_n σ k 0 (zz_len k)) - zz_nc σ = 1 := by show zz_nc σ + 1 - zz_nc σ = 1; omega
    have e2 : zz_ns (zz_n σ k 0 (zz_len k)) - zz_ns σ = zz_len k := by show zz_ns σ + zz_len k - zz_ns σ = _; omega
    rw [e1] at hcl kk
    rw [e2] at hsl kk
    obtain ⟨cw1, cw2, cw3, cw4, cw5⟩ := zz_cw _ _ q1
    rw [q2] at cw4
    have hKn := hK.1 _ _ q1
    refine W.newcK C.1 C.2.1 C.2.2.2.1 (C.2.2.2.2.1 _ hw) (C.2.2.2.2.1 _ cw4) (C.2.2.2.2.1 _ cw5) rfl hd hcl hsl hKn.2.1 rfl fun H1 kC hkC f1 z1 o1 => ?_
    have hex := zz_up_ex (σ := σ) (ad := ad) (k := k) (q := H.size)
    have hself : zz_up ad k (zz_c σ k + 1) H.size k (zz_c σ k + 1) = H.size := if_pos ⟨rfl, rfl⟩
    obtain ⟨cell, b1, b2, b3, b4⟩ := u_born _ C.2.2.2.2.1 cw1 hKn hkC f1 cw2
    have k2 := kk (zz_up ad k (zz_c σ k + 1) H.size) H1 locs ls hex (hH.new a1 h3.1 o1 z1 ⟨cell, by rw [hself]; exact b1, Or.inl ⟨q0, b2, b3, fun j hj => by
      rw [zz_h_n, if_pos ⟨rfl, rfl⟩, ← zz_dv_ok hdv hj]
      exact b4 j (by rw [q2]; exact hj)⟩⟩) (hL.ex a1 a2 hex) hlo
    rw [List.map_cons, zz_map_ex a1 a3 hex, zz_cv_w _ (by have := a1.2.2.1 k; omega), hself] at k2
    exact k2
theorem zs_arr {k : Nat} {w : Nat} {ins : Instr} (hk : zz_ar k ≠ 0 ∧ k ≤ 900 ∧ 3 ≤ k ∧ zz_own k = []) (hsd : zz_sd k = zm_sd M) {x : Int} (hx : x = (zz_len k : Int)) (hlt : zz_len k < 2147483648)
    (row : ∀ (p : Program) (l : Launch) (e : Env) (R : Room) (s : State) (m : MethodId) (args : Array Value) (below : List Frame) (meth : Method) (c : Code), zz_Cx M p R s m args meth c → ∀ (D : va_G) (H : Heap) (locs : List Loc) (cells slots : Nat) (ls : Array Slot) (Q : State → Prop) (rest : List Value), zz_K D s → ¬ Int32.ofInt x < 0 → (Int32.ofInt x).toNatClampNeg = zz_len k → cells + 1 ≤ R.cells → slots + zz_len k ≤ R.slots →
      (∀ (H' : Heap) (cell : Cell), H'[H.size]? = some cell → H'.size = H.size + 1 → (∀ q : Nat, q < H.size → H'[q]? = H[q]?) → zz_ac s cell k → cell.slots.size = zz_len k → (∀ (ad : Nat → Int → Nat) (j : Nat), j < zz_len k → cell.slots[j]? = some (zz_cv ad (zz_et k, 0))) → W p l e R s m args below meth c H' locs (cells + 1) (slots + zz_len k) Q (F0 m (pc + w) ls (.ref H.size :: rest))) → W p l e R s m args below meth c H locs cells slots Q (F0 m pc ls (.int (Int32.ofInt x) :: rest)))
    (h : zz_At M (pc + w) lv ((2 + k, zz_c σ k + 1) :: sk) (zz_n σ k 1 (zz_len k)) r τ) : zz_At M pc lv ((0, x) :: sk) σ r τ := by
  have g := zz_gr_n σ k (b := 1) (by omega) (zz_len k)
  refine zz_At.step (fun a1 a2 a3 => ?_) (fun a1 a2 a3 p l e R s m args below meth c C D n0 ad H locs cells slots ls Q hK hH hL hlo hcl hsl kk => ?_) h
  · refine ⟨zz_vs_n a1 (Or.inr ⟨rfl, hk.2.2.2⟩) ⟨rfl, zz_ar_lt hk.1⟩, a2.mono g, zz_vk_c.mpr ⟨?_, (zz_vk_c.mp a3).2.mono g⟩, g, zz_fr_n σ (Or.inl hsd) _ _⟩
    refine (zz_ok_r (by omega) (by omega)).mpr ?_
    rw [show 2 + k - 2 = k by omega, zz_m_n, if_pos rfl]
    have := a1.2.2.1 k
    have := a1.2.2.2.2.2.1 k hk.1
    omega
  · have e1 : zz_nc (zz_n σ k 1 (zz_len k)) - zz_nc σ = 1 := by show zz_nc σ + 1 - zz_nc σ = 1; omega
    have e2 : zz_ns (zz_n σ k 1 (zz_len k)) - zz_ns σ = zz_len k := by show zz_ns σ + zz_len k - zz_ns σ = _; omega
    rw [e1] at hcl kk
    rw [e2] at hsl kk
    obtain ⟨y1, y2⟩ := zz_clamp (x := x) (by omega) (by omega)
    refine row p l e R s m args below meth c C D H locs cells slots ls Q (sk.map (zz_cv ad)) hK y1 (by rw [y2, hx]; rfl) hcl hsl fun H1 cell f1 z1 o1 b1 b2 b3 => ?_
    have hex := zz_up_ex (σ := σ) (ad := ad) (k := k) (q := H.size)
    have hself : zz_up ad k (zz_c σ k + 1) H.size k (zz_c σ k + 1) = H.size := if_pos ⟨rfl, rfl⟩
    have k2 := kk (zz_up ad k (zz_c σ k + 1) H.size) H1 locs ls hex (hH.new a1 hk.2.2.1 o1 z1 ⟨cell, by rw [hself]; exact f1, Or.inr ⟨hk.1, b1, by
      unfold zz_al
      rw [if_neg (by omega), b2], fun j hj => by
      rw [zz_h_n, if_pos ⟨rfl, rfl⟩]
      exact b3 _ j (by rw [← b2]; exact hj)⟩⟩) (hL.ex a1 a2 hex) hlo
    rw [List.map_cons, zz_map_ex a1 (zz_vk_c.mp a3).2 hex, zz_cv_r _ hk.2.1 (by have := a1.2.2.1 k; omega), hself] at k2
    exact k2
theorem zs_newa {k : Nat} {aty : ArrayType} (hk : zz_ar k ≠ 0 ∧ k ≤ 900 ∧ 3 ≤ k ∧ zz_own k = []) (ht : (aty = .int ∨ aty = .boolean) ∧ newarray.typeOf aty = zz_aty k) (hr : zz_ar k ≠ 3) (he : zz_et k = 0) (hw : Jvm.Cond.arrayClass (newarray.typeOf aty) ∈ zz_tb) (hsd : zz_sd k = zm_sd M) {x : Int} (hx : x = (zz_len k : Int)) (hlt : zz_len k ≤ 3000) (hd : decode (zm_b M) pc = .ok (.newarray aty, 2)) (h : zz_At M (pc + 2) lv ((2 + k, zz_c σ k + 1) :: sk) (zz_n σ k 1 (zz_len k)) r τ) : zz_At M pc lv ((0, x) :: sk) σ r τ := by
  refine zs_arr (ins := .newarray aty) (w := 2) hk hsd hx (by omega) (fun p l e R s m args below meth c C D H locs cells slots ls Q rest hK y1 y2 hcl hsl kk => ?_) h
  refine va_newaK C.1 C.2.1 (C.2.2.2.2.1 _ hw) rfl hd rfl y1 y2 (by rcases ht.1 with rfl | rfl <;> show zz_len k * _ ≤ _ <;> simp [componentBytes, newarray.typeOf] <;> omega) hcl hsl rfl fun H1 cA f1 z1 o1 hAr hNm => ?_
  refine kk H1 _ f1 z1 o1 ⟨by rw [← ht.2]; exact hAr _ _, (fun z => by cases z), fun z => absurd z hr⟩ (arrV_size _ _ _) (fun ad j hj => ?_)
  rw [arrV_read _ _ hj, he]
  rcases ht.1 with rfl | rfl <;> rfl
theorem zs_anew {k i : Nat} {C0 : String} (hk : zz_ar k ≠ 0 ∧ k ≤ 900 ∧ 3 ≤ k ∧ zz_own k = []) (ha : zz_aty k = .object C0) (hC : C0 = RX6 ∨ C0 = RX5) (he : 2 ≤ zz_et k) (hw : Jvm.Cond.classLink (zm_own M) i C0 ∈ zz_tb) (hsd : zz_sd k = zm_sd M) {x : Int} (hx : x = (zz_len k : Int)) (hlt : zz_len k ≤ 3000) (hd : decode (zm_b M) pc = .ok (.anewarray i, 3)) (h : zz_At M (pc + 3) lv ((2 + k, zz_c σ k + 1) :: sk) (zz_n σ k 1 (zz_len k)) r τ) : zz_At M pc lv ((0, x) :: sk) σ r τ := by
  refine zs_arr (ins := .anewarray i) (w := 3) hk hsd hx (by omega) (fun p l e R s m args below meth c C D H locs cells slots ls Q rest hK y1 y2 hcl hsl kk => ?_) h
  have hover : va_AO C0 s := by
    rcases hC with rfl | rfl
    · exact hK.2.1.1
    · exact hK.2.1.2
  refine W.anew C.1 C.2.1 C.2.2.2.1 (C.2.2.2.2.1 _ hw) (va_AO.use hover) rfl hd rfl y1 (by rw [y2]; omega) hcl (by rw [y2]; exact hsl) fun cA kA comp f1 f2 f3 f4 => ?_
  rw [y2, arrV_new]
  refine kk _ (arrV cA (zz_len k) (fun _ => .null)) ?_ ?_ ?_ ⟨⟨(fun k h => by cases h), kA, f2, comp, by rw [ha]; exact f3⟩, (fun z => by cases z), fun _ => ?_⟩ (arrV_size _ _ _) (fun ad j hj => ?_)
  · simp
  · simp
  · intro q hq
    rw [Array.getElem?_push, if_neg (Nat.ne_of_lt hq)]
  · rw [ha]
    exact ⟨kA, comp, f2, f3, f4, f1⟩
  · rw [arrV_read _ _ hj, zz_cv_0 ad he]
end ZNEW
section ZRET
variable {M : zz_M} {pc : Nat} {lv : List (Nat × zz_V)} {sk : List zz_V} {σ τ : zz_S} {r : Int}
/-- the frame stands at its return -/
theorem zs_end (hrd : zz_rd M pc) (hg : zz_vs σ → zz_vl σ lv → zz_vk σ sk → zz_go M σ r τ) (hn : zz_nc τ = zz_nc σ ∧ zz_ns τ = zz_ns σ) (hH : ∀ (D : va_G) (n0 : Nat) (ad : Nat → Int → Nat) (s : State) (H : Heap), zz_Hd D n0 ad σ s H → zz_Hd D n0 ad τ s H) (hs : zz_vs σ → zz_vk σ sk → ∀ ad, sk.map (zz_cv ad) = zz_rv M ad r) : zz_At M pc lv sk σ r τ := by
  intro a1 a2 a3
  refine ⟨hg a1 a2 a3, ?_⟩
  intro p l e R s m args below meth c C D n0 ad H locs cells slots ls Q hK hH0 hL hlo hcl hsl k
  have k2 := k ad H locs ls pc zz_Ex.rf (hH D n0 ad s H hH0) hlo hrd
  rw [hn.1, hn.2, Nat.sub_self, Nat.sub_self] at k2
  rw [hs a1 a3 ad]
  exact k2
theorem zs_ireturn {x : Int} (hrt : zm_rt M = 0) (hb : zm_rb M = true → zz_o x) (hd : decode (zm_b M) pc = .ok (.ireturn, 1)) : zz_At M pc lv [(0, x)] σ x σ := by
  refine zs_end ?_ (fun a1 a2 a3 => ⟨a1, fun _ => by rw [hrt]; exact (zz_vk_c.mp a3).1, hb, zz_gr.rf, zz_fr.rf⟩) ⟨rfl, rfl⟩ (fun _ _ _ _ _ h => h) (fun _ _ ad => ?_)
  · unfold zz_rd
    rw [hrt, if_neg (by decide), if_pos rfl]
    exact hd
  · unfold zz_rv
    rw [hrt, if_neg (by decide)]
    rfl
theorem zs_areturn {x : Int} {u : Nat} (hrt : 2 ≤ zm_rt M ∧ zm_rt M ≤ 900) (hb : zm_rb M = false) (hu : u = zm_rt M ∨ u = 3000) (hd : decode (zm_b M) pc = .ok (.areturn, 1)) : zz_At M pc lv [(u, x)] σ x σ := by
  have hx : zz_vk σ [(u, x)] → u = 3000 → x = 0 := by
    rintro h rfl
    exact (zz_vk_c.mp h).1
  refine zs_end ?_ (fun a1 a2 a3 => ⟨a1, fun _ => ?_, fun z => Bool.noConfusion (hb.symm.trans z), zz_gr.rf, zz_fr.rf⟩) ⟨rfl, rfl⟩ (fun _ _ _ _ _ h => h) (fun a1 a3 ad => ?_)
  · unfold zz_rd
    rw [if_neg (by omega), if_neg (by omega)]
    exact hd
  · rcases hu with rfl | rfl
    · exact (zz_vk_c.mp a3).1
    · rw [hx a3 rfl]
      exact zz_ok_0 a1.2.2.1 (by omega)
  · unfold zz_rv
    rw [if_neg (by omega)]
    rcases hu with rfl | rfl
    · rfl
    · rw [hx a3 rfl, zz_cv_0 ad hrt.1]
      rfl
theorem zs_return (hrt : zm_rt M = 999) (hb : zm_rb M = false) (hd : decode (zm_b M) pc = .ok (.return_, 1)) : zz_At M pc lv [] σ 0 σ := by
  refine zs_end ?_ (fun a1 a2 a3 => ⟨a1, fun z => absurd hrt z, fun z => Bool.noConfusion (hb.symm.trans z), zz_gr.rf, zz_fr.rf⟩) ⟨rfl, rfl⟩ (fun _ _ _ _ _ h => h) (fun _ _ ad => ?_)
  · unfold zz_rd
    rw [if_pos hrt]
    exact hd
  · unfold zz_rv
    rw [if_pos hrt]
    rfl
theorem zs_returnC {k : Nat} {x : Int} (hrt : zm_rt M = 999) (hb : zm_rb M = false) (hk : k ≤ 900 ∧ zz_ar k = 0) (hsd : zz_sd k = zm_sd M) (hl : zz_lk lv 0 = (1000 + k, x)) (ho : zz_ow σ k x (zz_own k) = true) (hm : zz_m σ k + 1 = x) (hd : decode (zm_b M) pc = .ok (.return_, 1)) : zz_At M pc lv [] σ 0 (zz_f σ k) := by
  refine zs_end ?_ (fun a1 a2 a3 => ⟨zz_vs_f a1 hk.2 ho hm ?_, fun z => absurd hrt z, fun z => Bool.noConfusion (hb.symm.trans z), zz_gr_f σ k, zz_fr_f σ hsd⟩) ⟨rfl, rfl⟩ (fun _ _ _ _ _ h => h) (fun _ _ ad => ?_)
  · unfold zz_rd
    rw [if_pos hrt]
    exact hd
  · have h0 := a2 0
    rw [hl] at h0
    exact (zz_wid hk.1 h0).2
  · unfold zz_rv
    rw [if_pos hrt]
    rfl
end ZRET
