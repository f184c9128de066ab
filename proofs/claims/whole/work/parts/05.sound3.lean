/-! A METHOD'S FRAME AT A PLACE: what the evaluator says comes true on the machine -/
abbrev zz_M : Type := String × ByteArray × Nat × Option FieldType × Nat × Bool × Nat × Nat × Nat
abbrev zm_own (M : zz_M) : String := M.1
abbrev zm_b (M : zz_M) : ByteArray := M.2.1
abbrev zm_l (M : zz_M) : Nat := M.2.2.1
abbrev zm_ret (M : zz_M) : Option FieldType := M.2.2.2.1
abbrev zm_rt (M : zz_M) : Nat := M.2.2.2.2.1
abbrev zm_rb (M : zz_M) : Bool := M.2.2.2.2.2.1
abbrev zm_th (M : zz_M) : Nat := M.2.2.2.2.2.2.1
abbrev zm_sd (M : zz_M) : Nat := M.2.2.2.2.2.2.2.1
abbrev zm_h (M : zz_M) : Nat := M.2.2.2.2.2.2.2.2
def zz_Cx (M : zz_M) (p : Program) (R : Room) (s : State) (m : MethodId) (args : Array Value) (meth : Method) (c : Code) : Prop :=
  p.tables.exec = Jvm.exec ∧ c.code = zm_b M ∧ c.maxLocals = zm_l M ∧ s.vm.findClass (zm_own M) = some m.cls ∧ (∀ w ∈ zz_tb, w.before args s = true) ∧ meth.sig.returnType = zm_ret M ∧ meth.locks = false ∧ zm_h M ≤ R.frames ∧ 26 * zm_h M ≤ R.locals ∧ (zm_th M ≠ 0 → meth.name = "<init>")
def zz_L (ls : Array Slot) (nL : Nat) (ad : Nat → Int → Nat) (lv : List (Nat × zz_V)) : Prop := lv_has ls nL [] ∧ ∀ i, (zz_lk lv i).1 ≠ 1 → ls[i]? = some (.val (zz_cv ad (zz_lk lv i)))
def zz_rv (M : zz_M) (ad : Nat → Int → Nat) (r : Int) : List Value := if zm_rt M = 999 then [] else [zz_cv ad (zm_rt M, r)]
def zz_rd (M : zz_M) (pc : Nat) : Prop := decode (zm_b M) pc = .ok (if zm_rt M = 999 then .return_ else if zm_rt M = 0 then .ireturn else .areturn, 1)
def zz_go (M : zz_M) (σ : zz_S) (r : Int) (τ : zz_S) : Prop := zz_vs τ ∧ (zm_rt M ≠ 999 → zz_ok τ (zm_rt M, r)) ∧ (zm_rb M = true → zz_o r) ∧ zz_gr σ τ ∧ zz_fr (zm_sd M) σ τ
def zz_At (M : zz_M) (pc : Nat) (lv : List (Nat × zz_V)) (sk : List zz_V) (σ : zz_S) (r : Int) (τ : zz_S) : Prop := zz_vs σ → zz_vl σ lv → zz_vk σ sk → zz_go M σ r τ ∧
  ∀ (p : Program) (l : Launch) (e : Env) (R : Room) (s : State) (m : MethodId) (args : Array Value) (below : List Frame) (meth : Method) (c : Code), zz_Cx M p R s m args meth c → ∀ (D : va_G) (n0 : Nat) (ad : Nat → Int → Nat) (H : Heap) (locs : List Loc) (cells slots : Nat) (ls : Array Slot) (Q : State → Prop), zz_K D s → zz_Hd D n0 ad σ s H → zz_L ls (zm_l M) ad lv → (∀ q ∈ locs, n0 ≤ q.base) → cells + (zz_nc τ - zz_nc σ) ≤ R.cells → slots + (zz_ns τ - zz_ns σ) ≤ R.slots →
    (∀ (ad' : Nat → Int → Nat) (H' : Heap) (locs' : List Loc) (ls' : Array Slot) (pc' : Nat), zz_Ex σ ad ad' → zz_Hd D n0 ad' τ s H' → (∀ q ∈ locs', n0 ≤ q.base) → zz_rd M pc' → W p l e R s m args below meth c H' locs' (cells + (zz_nc τ - zz_nc σ)) (slots + (zz_ns τ - zz_ns σ)) Q (F0 m pc' ls' (zz_rv M ad' r))) →
    W p l e R s m args below meth c H locs cells slots Q (F0 m pc ls (sk.map (zz_cv ad)))
section ZSTEP
variable {M : zz_M} {pc pc2 : Nat} {lv lv2 : List (Nat × zz_V)} {sk sk2 : List zz_V} {σ σ2 τ : zz_S} {r : Int}
theorem zz_At.step (hv : zz_vs σ → zz_vl σ lv → zz_vk σ sk → zz_vs σ2 ∧ zz_vl σ2 lv2 ∧ zz_vk σ2 sk2 ∧ zz_gr σ σ2 ∧ zz_fr (zm_sd M) σ σ2)
    (hm : zz_vs σ → zz_vl σ lv → zz_vk σ sk → ∀ (p : Program) (l : Launch) (e : Env) (R : Room) (s : State) (m : MethodId) (args : Array Value) (below : List Frame) (meth : Method) (c : Code), zz_Cx M p R s m args meth c → ∀ (D : va_G) (n0 : Nat) (ad : Nat → Int → Nat) (H : Heap) (locs : List Loc) (cells slots : Nat) (ls : Array Slot) (Q : State → Prop), zz_K D s → zz_Hd D n0 ad σ s H → zz_L ls (zm_l M) ad lv → (∀ q ∈ locs, n0 ≤ q.base) → cells + (zz_nc σ2 - zz_nc σ) ≤ R.cells → slots + (zz_ns σ2 - zz_ns σ) ≤ R.slots →
      (∀ (ad' : Nat → Int → Nat) (H' : Heap) (locs' : List Loc) (ls' : Array Slot), zz_Ex σ ad ad' → zz_Hd D n0 ad' σ2 s H' → zz_L ls' (zm_l M) ad' lv2 → (∀ q ∈ locs', n0 ≤ q.base) → W p l e R s m args below meth c H' locs' (cells + (zz_nc σ2 - zz_nc σ)) (slots + (zz_ns σ2 - zz_ns σ)) Q (F0 m pc2 ls' (sk2.map (zz_cv ad')))) →
      W p l e R s m args below meth c H locs cells slots Q (F0 m pc ls (sk.map (zz_cv ad))))
    (h : zz_At M pc2 lv2 sk2 σ2 r τ) : zz_At M pc lv sk σ r τ := by
  intro a1 a2 a3
  obtain ⟨b1, b2, b3, g1, f1⟩ := hv a1 a2 a3
  obtain ⟨⟨c1, c2, c3, c4, c5⟩, hW⟩ := h b1 b2 b3
  refine ⟨⟨c1, c2, c3, g1.tr c4, f1.tr c5⟩, ?_⟩
  intro p l e R s m args below meth c C D n0 ad H locs cells slots ls Q hK hH hL hlo hcl hsl k
  have n1 := g1.2.1
  have n2 := c4.2.1
  have n3 := g1.2.2
  have n4 := c4.2.2
  refine hm a1 a2 a3 p l e R s m args below meth c C D n0 ad H locs cells slots ls Q hK hH hL hlo (by omega) (by omega) ?_
  intro ad' H' locs' ls' hex hH' hL' hlo'
  refine hW p l e R s m args below meth c C D n0 ad' H' locs' _ _ ls' Q hK hH' hL' hlo' (by omega) (by omega) ?_
  intro ad2 H2 locs2 ls2 pc' hex2 hH2 hlo2 hrd
  have e1 : cells + (zz_nc σ2 - zz_nc σ) + (zz_nc τ - zz_nc σ2) = cells + (zz_nc τ - zz_nc σ) := by omega
  have e2 : slots + (zz_ns σ2 - zz_ns σ) + (zz_ns τ - zz_ns σ2) = slots + (zz_ns τ - zz_ns σ) := by omega
  rw [e1, e2]
  exact k ad2 H2 locs2 ls2 pc' (hex.tr g1 hex2) hH2 hlo2 hrd
/-- nothing but the place and the stack changes -/
theorem zz_At.pure (hv : zz_vs σ → zz_vl σ lv → zz_vk σ sk → zz_vk σ sk2)
    (hm : zz_vs σ → zz_vl σ lv → zz_vk σ sk → ∀ (p : Program) (l : Launch) (e : Env) (R : Room) (s : State) (m : MethodId) (args : Array Value) (below : List Frame) (meth : Method) (c : Code), zz_Cx M p R s m args meth c → ∀ (D : va_G) (n0 : Nat) (ad : Nat → Int → Nat) (H : Heap) (locs : List Loc) (cells slots : Nat) (ls : Array Slot) (Q : State → Prop), zz_K D s → zz_Hd D n0 ad σ s H → zz_L ls (zm_l M) ad lv →
      W p l e R s m args below meth c H locs cells slots Q (F0 m pc2 ls (sk2.map (zz_cv ad))) →
      W p l e R s m args below meth c H locs cells slots Q (F0 m pc ls (sk.map (zz_cv ad))))
    (h : zz_At M pc2 lv sk2 σ r τ) : zz_At M pc lv sk σ r τ := by
  refine zz_At.step (fun a b c => ⟨a, b, hv a b c, zz_gr.rf, zz_fr.rf⟩) ?_ h
  intro a1 a2 a3 p l e R s m args below meth c C D n0 ad H locs cells slots ls Q hK hH hL hlo hcl hsl k
  have k := k ad H locs ls zz_Ex.rf hH hL hlo
  rw [Nat.sub_self, Nat.sub_self] at k
  exact hm a1 a2 a3 p l e R s m args below meth c C D n0 ad H locs cells slots ls Q hK hH hL k
/-- nothing but the place and the locals changes -/
theorem zz_At.loc (hv : zz_vs σ → zz_vl σ lv → zz_vk σ sk → zz_vl σ lv2 ∧ zz_vk σ sk2)
    (hm : zz_vs σ → zz_vl σ lv → zz_vk σ sk → ∀ (p : Program) (l : Launch) (e : Env) (R : Room) (s : State) (m : MethodId) (args : Array Value) (below : List Frame) (meth : Method) (c : Code), zz_Cx M p R s m args meth c → ∀ (ad : Nat → Int → Nat) (H : Heap) (locs : List Loc) (cells slots : Nat) (ls : Array Slot) (Q : State → Prop), zz_L ls (zm_l M) ad lv →
      (∀ ls', zz_L ls' (zm_l M) ad lv2 → W p l e R s m args below meth c H locs cells slots Q (F0 m pc2 ls' (sk2.map (zz_cv ad)))) →
      W p l e R s m args below meth c H locs cells slots Q (F0 m pc ls (sk.map (zz_cv ad))))
    (h : zz_At M pc2 lv2 sk2 σ r τ) : zz_At M pc lv sk σ r τ := by
  refine zz_At.step (fun a b c => ⟨a, (hv a b c).1, (hv a b c).2, zz_gr.rf, zz_fr.rf⟩) ?_ h
  intro a1 a2 a3 p l e R s m args below meth c C D n0 ad H locs cells slots ls Q hK hH hL hlo hcl hsl k
  refine hm a1 a2 a3 p l e R s m args below meth c C ad H locs cells slots ls Q hL fun ls' hL' => ?_
  have k := k ad H locs ls' zz_Ex.rf hH hL' hlo
  rw [Nat.sub_self, Nat.sub_self] at k
  exact k
end ZSTEP
-- numbers
theorem zz_rng (x : Int32) : -2147483648 ≤ x.toInt ∧ x.toInt < 2147483648 := by
  have h1 := Int32.le_toInt x
  have h2 := Int32.toInt_lt x
  omega
theorem zz_rngL (x : Int64) : -9223372036854775808 ≤ x.toInt ∧ x.toInt < 9223372036854775808 := by
  have h1 := Int64.le_toInt x
  have h2 := Int64.toInt_lt x
  omega
theorem zz_toI {z : Int} (h : -2147483648 ≤ z ∧ z < 2147483648) : (Int32.ofInt z).toInt = z := by
  have e : ((Int32.size : Nat) : Int) = 4294967296 := rfl
  rw [Int32.toInt_ofInt, Int.bmod_eq_of_le (by omega) (by omega)]
theorem zz_toL {z : Int} (h : -9223372036854775808 ≤ z ∧ z < 9223372036854775808) : (Int64.ofInt z).toInt = z := by
  have e : ((Int64.size : Nat) : Int) = 18446744073709551616 := rfl
  rw [Int64.toInt_ofInt, Int.bmod_eq_of_le (by omega) (by omega)]
theorem zz_ok_t {σ : zz_S} (x : Int32) : zz_ok σ (0, x.toInt) := zz_ok_i.mpr (zz_rng x)
theorem zz_ok_tL {σ : zz_S} (x : Int64) : zz_ok σ (1, x.toInt) := zz_ok_l.mpr (zz_rngL x)
theorem zz_lt {x y : Int} (hx : -2147483648 ≤ x ∧ x < 2147483648) (hy : -2147483648 ≤ y ∧ y < 2147483648) : Int32.ofInt x < Int32.ofInt y ↔ x < y := by
  rw [Int32.lt_iff_toInt_lt, zz_toI hx, zz_toI hy]
theorem zz_le {x y : Int} (hx : -2147483648 ≤ x ∧ x < 2147483648) (hy : -2147483648 ≤ y ∧ y < 2147483648) : Int32.ofInt x ≤ Int32.ofInt y ↔ x ≤ y := by
  rw [Int32.le_iff_toInt_le, zz_toI hx, zz_toI hy]
theorem zz_eq {x y : Int} (hx : -2147483648 ≤ x ∧ x < 2147483648) (hy : -2147483648 ≤ y ∧ y < 2147483648) : Int32.ofInt x = Int32.ofInt y ↔ x = y := by
  rw [← Int32.toInt_inj, zz_toI hx, zz_toI hy]
theorem zz_eq0 {x : Int} (hx : -2147483648 ≤ x ∧ x < 2147483648) : Int32.ofInt x = 0 ↔ x = 0 := zz_eq hx (y := 0) ⟨by omega, by omega⟩
theorem zz_of32 (x : Int32) : Int32.ofInt x.toInt = x := Int32.ofInt_toInt x
theorem zz_of64 (x : Int64) : Int64.ofInt x.toInt = x := Int64.ofInt_toInt x
theorem zz_lcv {x y : Int} (hx : -9223372036854775808 ≤ x ∧ x < 9223372036854775808) (hy : -9223372036854775808 ≤ y ∧ y < 9223372036854775808) : lg_cmp (Int64.ofInt x) (Int64.ofInt y) = Int32.ofInt (zz_lc x y) := by
  unfold lg_cmp zz_lc
  have e1 : Int64.ofInt x > Int64.ofInt y ↔ y < x := by
    show Int64.ofInt y < Int64.ofInt x ↔ _
    rw [Int64.lt_iff_toInt_lt, zz_toL hx, zz_toL hy]
  have e2 : Int64.ofInt x = Int64.ofInt y ↔ x = y := by rw [← Int64.toInt_inj, zz_toL hx, zz_toL hy]
  by_cases h1 : y < x
  · rw [if_pos (e1.mpr h1), if_neg (by omega), if_neg (by omega)]
    rfl
  · rw [if_neg (fun z => h1 (e1.mp z))]
    by_cases h2 : x = y
    · rw [if_pos (e2.mpr h2), if_neg (by omega), if_pos h2]
      rfl
    · rw [if_neg (fun z => h2 (e2.mp z)), if_pos (by omega)]
      rfl
theorem zz_clamp {x : Int} (h0 : 0 ≤ x) (h1 : x < 2147483648) : ¬ Int32.ofInt x < 0 ∧ (Int32.ofInt x).toNatClampNeg = x.toNat := by
  have e := zz_toI (z := x) ⟨by omega, h1⟩
  refine ⟨fun h => ?_, ?_⟩
  · rw [Int32.lt_iff_toInt_lt, e] at h
    have : (0 : Int32).toInt = 0 := rfl
    omega
  · show (Int32.ofInt x).toInt.toNat = _
    rw [e]
