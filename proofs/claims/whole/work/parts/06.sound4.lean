section ZROWS
variable {M : zz_M} {pc : Nat} {lv : List (Nat × zz_V)} {sk : List zz_V} {σ τ : zz_S} {r : Int}
theorem zz_vk_c {v : zz_V} : zz_vk σ (v :: sk) ↔ zz_ok σ v ∧ zz_vk σ sk := List.forall_mem_cons
theorem zz_v0 {v : zz_V} (h : zz_ok σ v) (_ : zz_vs σ) (_ : zz_vl σ lv) (k : zz_vk σ sk) : zz_vk σ (v :: sk) := zz_vk_c.mpr ⟨h, k⟩
theorem zz_v1 {v a : zz_V} (h : zz_ok σ v) (_ : zz_vs σ) (_ : zz_vl σ lv) (k : zz_vk σ (a :: sk)) : zz_vk σ (v :: sk) := zz_vk_c.mpr ⟨h, (zz_vk_c.mp k).2⟩
theorem zz_v2 {v a b : zz_V} (h : zz_ok σ v) (_ : zz_vs σ) (_ : zz_vl σ lv) (k : zz_vk σ (a :: b :: sk)) : zz_vk σ (v :: sk) := zz_vk_c.mpr ⟨h, (zz_vk_c.mp (zz_vk_c.mp k).2).2⟩
theorem zz_vd1 {a : zz_V} (_ : zz_vs σ) (_ : zz_vl σ lv) (k : zz_vk σ (a :: sk)) : zz_vk σ sk := (zz_vk_c.mp k).2
theorem zz_vd2 {a b : zz_V} (_ : zz_vs σ) (_ : zz_vl σ lv) (k : zz_vk σ (a :: b :: sk)) : zz_vk σ sk := (zz_vk_c.mp (zz_vk_c.mp k).2).2
theorem zz_cv_ref (ad : Nat → Int → Nat) {t : Nat} {x : Int} (h : 2 ≤ t) (hx : ¬ x = 0) : ∃ q : Nat, zz_cv ad (t, x) = .ref q := by
  unfold zz_cv
  rw [if_neg (show ¬ (t, x).1 = 0 from (by show ¬ t = 0; omega)), if_neg (show ¬ (t, x).1 = 1 from (by show ¬ t = 1; omega)), if_neg (show ¬ (t, x).2 = 0 from hx)]
  exact ⟨_, rfl⟩
theorem zs_null (hd : decode (zm_b M) pc = .ok (.aconst_null, 1)) (h : zz_At M (pc + 1) lv ((3000, 0) :: sk) σ r τ) : zz_At M pc lv sk σ r τ :=
  zz_At.pure (sk2 := ((3000, 0) :: sk)) (zz_v0 (by rfl)) (fun a1 a2 a3 p l e R s m args below meth c C D n0 ad H locs cells slots ls Q hK hH hL k => lv_null C.1 C.2.1 hd k) h
theorem zs_iconst {i : Int} (hd : decode (zm_b M) pc = .ok (.iconst i, 1)) (hi : -2147483648 ≤ i ∧ i < 2147483648) (h : zz_At M (pc + 1) lv ((0, i) :: sk) σ r τ) : zz_At M pc lv sk σ r τ :=
  zz_At.pure (sk2 := ((0, i) :: sk)) (zz_v0 (zz_ok_i.mpr hi)) (fun a1 a2 a3 p l e R s m args below meth c C D n0 ad H locs cells slots ls Q hK hH hL k => lv_iconst (v := Int32.ofInt i) C.1 C.2.1 hd rfl k) h
theorem zs_bipush {i : Int} (hd : decode (zm_b M) pc = .ok (.bipush i, 2)) (hi : -2147483648 ≤ i ∧ i < 2147483648) (he : (Int8.ofInt i).toInt32 = Int32.ofInt i) (h : zz_At M (pc + 2) lv ((0, i) :: sk) σ r τ) : zz_At M pc lv sk σ r τ :=
  zz_At.pure (sk2 := ((0, i) :: sk)) (zz_v0 (zz_ok_i.mpr hi)) (fun a1 a2 a3 p l e R s m args below meth c C D n0 ad H locs cells slots ls Q hK hH hL k => lv_bipush (v := Int32.ofInt i) C.1 C.2.1 hd he k) h
theorem zs_sipush {i : Int} (hd : decode (zm_b M) pc = .ok (.sipush i, 3)) (hi : -2147483648 ≤ i ∧ i < 2147483648) (he : (Int16.ofInt i).toInt32 = Int32.ofInt i) (h : zz_At M (pc + 3) lv ((0, i) :: sk) σ r τ) : zz_At M pc lv sk σ r τ :=
  zz_At.pure (sk2 := ((0, i) :: sk)) (zz_v0 (zz_ok_i.mpr hi)) (fun a1 a2 a3 p l e R s m args below meth c C D n0 ad H locs cells slots ls Q hK hH hL k => lv_sipush (v := Int32.ofInt i) C.1 C.2.1 hd he k) h
theorem zs_lconst {i : Fin 2} {v : Int} (hd : decode (zm_b M) pc = .ok (.lconst i, 1)) (hi : -9223372036854775808 ≤ v ∧ v < 9223372036854775808) (he : Int64.ofNat (i : Nat) = Int64.ofInt v) (h : zz_At M (pc + 1) lv ((1, v) :: sk) σ r τ) : zz_At M pc lv sk σ r τ :=
  zz_At.pure (sk2 := ((1, v) :: sk)) (zz_v0 (zz_ok_l.mpr hi)) (fun a1 a2 a3 p l e R s m args below meth c C D n0 ad H locs cells slots ls Q hK hH hL k => lv_lconst (v := Int64.ofInt v) C.1 C.2.1 hd he k) h
theorem zs_ldc {i : Nat} {v : Int} (hd : decode (zm_b M) pc = .ok (.ldc i, 2)) (hi : -2147483648 ≤ v ∧ v < 2147483648) (hw : Jvm.Cond.constant (zm_own M) i (Int32.ofInt v) ∈ zz_tb) (h : zz_At M (pc + 2) lv ((0, v) :: sk) σ r τ) : zz_At M pc lv sk σ r τ :=
  zz_At.pure (sk2 := ((0, v) :: sk)) (zz_v0 (zz_ok_i.mpr hi)) (fun a1 a2 a3 p l e R s m args below meth c C D n0 ad H locs cells slots ls Q hK hH hL k => lv_ldc C.1 C.2.1 C.2.2.2.1 (C.2.2.2.2.1 _ hw) hd k) h
theorem zs_ldcw {i : Nat} {v : Int} (hd : decode (zm_b M) pc = .ok (.ldc_w i, 3)) (hi : -2147483648 ≤ v ∧ v < 2147483648) (hw : Jvm.Cond.constant (zm_own M) i (Int32.ofInt v) ∈ zz_tb) (h : zz_At M (pc + 3) lv ((0, v) :: sk) σ r τ) : zz_At M pc lv sk σ r τ :=
  zz_At.pure (sk2 := ((0, v) :: sk)) (zz_v0 (zz_ok_i.mpr hi)) (fun a1 a2 a3 p l e R s m args below meth c C D n0 ad H locs cells slots ls Q hK hH hL k => lv_ldcw C.1 C.2.1 C.2.2.2.1 (C.2.2.2.2.1 _ hw) hd k) h
theorem zs_ldc2 {i : Nat} {v : Int} (hd : decode (zm_b M) pc = .ok (.ldc2_w i, 3)) (hi : -9223372036854775808 ≤ v ∧ v < 9223372036854775808) (hw : Jvm.Cond.constantLong (zm_own M) i (Int64.ofInt v) ∈ zz_tb) (h : zz_At M (pc + 3) lv ((1, v) :: sk) σ r τ) : zz_At M pc lv sk σ r τ :=
  zz_At.pure (sk2 := ((1, v) :: sk)) (zz_v0 (zz_ok_l.mpr hi)) (fun a1 a2 a3 p l e R s m args below meth c C D n0 ad H locs cells slots ls Q hK hH hL k => lv_ldc2 C.1 C.2.1 C.2.2.2.1 (C.2.2.2.2.1 _ hw) hd k) h
theorem zz_L.at {ls : Array Slot} {nL : Nat} {ad : Nat → Int → Nat} {i t : Nat} {x : Int} (h : zz_L ls nL ad lv) (e : zz_lk lv i = (t, x)) (ht : t ≠ 1) : ls[i]? = some (.val (zz_cv ad (t, x))) := by
  have := h.2 i (by rw [e]; exact ht)
  rwa [e] at this
theorem zz_vl_at {i t : Nat} {x : Int} (e : zz_lk lv i = (t, x)) (_ : zz_vs σ) (a : zz_vl σ lv) (k : zz_vk σ sk) : zz_vk σ ((t, x) :: sk) := zz_vk_c.mpr ⟨by have := a i; rwa [e] at this, k⟩
theorem zs_iload {i : Nat} {x : Int} (hd : decode (zm_b M) pc = .ok (.iload i, 2)) (he : zz_lk lv i = (0, x)) (h : zz_At M (pc + 2) lv ((0, x) :: sk) σ r τ) : zz_At M pc lv sk σ r τ :=
  zz_At.pure (sk2 := ((0, x) :: sk)) (zz_vl_at he) (fun a1 a2 a3 p l e R s m args below meth c C D n0 ad H locs cells slots ls Q hK hH hL k => lv_iload C.1 C.2.1 hd (hL.at he (by decide)) k) h
theorem zs_iloadn {i : Fin 4} {x : Int} (hd : decode (zm_b M) pc = .ok (.iload_n i, 1)) (he : zz_lk lv i.val = (0, x)) (h : zz_At M (pc + 1) lv ((0, x) :: sk) σ r τ) : zz_At M pc lv sk σ r τ :=
  zz_At.pure (sk2 := ((0, x) :: sk)) (zz_vl_at he) (fun a1 a2 a3 p l e R s m args below meth c C D n0 ad H locs cells slots ls Q hK hH hL k => lv_iload_n C.1 C.2.1 hd rfl (hL.at he (by decide)) k) h
theorem zs_aload {i : Nat} {t : Nat} {x : Int} (hd : decode (zm_b M) pc = .ok (.aload i, 2)) (he : zz_lk lv i = (t, x)) (ht : 2 ≤ t) (h : zz_At M (pc + 2) lv ((t, x) :: sk) σ r τ) : zz_At M pc lv sk σ r τ := by
  refine zz_At.pure (zz_vl_at he) (fun a1 a2 a3 p l e R s m args below meth c C D n0 ad H locs cells slots ls Q hK hH hL k => ?_) h
  have hl := hL.at he (by omega)
  by_cases hx : x = 0
  · subst hx
    rw [zz_cv_0 ad ht] at hl
    rw [List.map_cons, zz_cv_0 ad ht] at k
    exact lv_aloadN C.1 C.2.1 hd hl k
  · obtain ⟨q, hq⟩ := zz_cv_ref ad ht hx
    rw [hq] at hl
    rw [List.map_cons, hq] at k
    exact lv_aload C.1 C.2.1 hd hl k
theorem zs_aloadn {i : Fin 4} {t : Nat} {x : Int} (hd : decode (zm_b M) pc = .ok (.aload_n i, 1)) (he : zz_lk lv i.val = (t, x)) (ht : 2 ≤ t) (h : zz_At M (pc + 1) lv ((t, x) :: sk) σ r τ) : zz_At M pc lv sk σ r τ := by
  refine zz_At.pure (zz_vl_at he) (fun a1 a2 a3 p l e R s m args below meth c C D n0 ad H locs cells slots ls Q hK hH hL k => ?_) h
  have hl := hL.at he (by omega)
  by_cases hx : x = 0
  · subst hx
    rw [zz_cv_0 ad ht] at hl
    rw [List.map_cons, zz_cv_0 ad ht] at k
    exact lv_aload_nN C.1 C.2.1 hd rfl hl k
  · obtain ⟨q, hq⟩ := zz_cv_ref ad ht hx
    rw [hq] at hl
    rw [List.map_cons, hq] at k
    exact lv_aload_n C.1 C.2.1 hd rfl hl k
def zz_ll (lv : List (Nat × zz_V)) (ad : Nat → Int → Nat) (n : Nat) : List (Nat × Value) := (List.range n).filterMap fun j => if (zz_lk lv j).1 = 1 then none else some (j, zz_cv ad (zz_lk lv j))
theorem zz_ll_mem {ad : Nat → Int → Nat} {n : Nat} {q : Nat × Value} : q ∈ zz_ll lv ad n ↔ q.1 < n ∧ (zz_lk lv q.1).1 ≠ 1 ∧ q.2 = zz_cv ad (zz_lk lv q.1) := by
  unfold zz_ll
  rw [List.mem_filterMap]
  constructor
  · rintro ⟨j, hj, e⟩
    split at e
    · cases e
    · cases e
      exact ⟨List.mem_range.mp hj, by assumption, rfl⟩
  · rintro ⟨h1, h2, h3⟩
    refine ⟨q.1, List.mem_range.mpr h1, ?_⟩
    rw [if_neg h2, ← h3]
theorem zz_nb {i j : Nat} (e : ¬ i = j) : Nat.beq i j = false := by
  cases hb : Nat.beq i j with
  | false => rfl
  | true => exact absurd (Nat.eq_of_beq_eq_true hb) e
theorem zz_L.all {ls : Array Slot} {nL : Nat} {ad : Nat → Int → Nat} (h : zz_L ls nL ad lv) : lv_has ls nL (zz_ll lv ad nL) := by
  refine ⟨h.1.1, h.1.2.1, fun q hq => ?_⟩
  obtain ⟨-, h2, h3⟩ := zz_ll_mem.mp hq
  rw [h3]
  exact h.2 _ h2
theorem zz_L.set {ls ls' : Array Slot} {nL : Nat} {ad : Nat → Int → Nat} {i t : Nat} {x : Int} (h : zz_L ls nL ad lv) (ht : t ≠ 1) (h' : lv_has ls' nL ((i, zz_cv ad (t, x)) :: (zz_ll lv ad nL).filter (fun q => !(q.1 == i) && !(q.1 + 1 == i && q.2.category == 2)))) : zz_L ls' nL ad ((i, t, x) :: lv) := by
  refine ⟨⟨h'.1, h'.2.1, fun q hq => by cases hq⟩, fun j hj => ?_⟩
  by_cases e : i = j
  · subst e
    have e2 : zz_lk ((i, t, x) :: lv) i = (t, x) := by simp [zz_lk]
    rw [e2]
    exact h'.2.2 _ List.mem_cons_self
  · have e2 : zz_lk ((i, t, x) :: lv) j = zz_lk lv j := by simp [zz_lk, zz_nb e]
    rw [e2] at hj ⊢
    have hl := h.2 j hj
    refine h'.2.2 (j, zz_cv ad (zz_lk lv j)) (List.mem_cons_of_mem _ (List.mem_filter.mpr ⟨zz_ll_mem.mpr ⟨?_, hj, rfl⟩, ?_⟩))
    · have := (Array.getElem?_eq_some_iff.mp hl).1
      rw [h.1.1] at this
      exact this
    · have hc := zz_cat ad (t := (zz_lk lv j).1) (x := (zz_lk lv j).2) hj
      have e3 : ¬ j = i := fun z => e z.symm
      have hc : (zz_cv ad (zz_lk lv j)).category = 1 := hc
      simp [e3, hc]
theorem zz_vl_set {i : Nat} {v : zz_V} (a : zz_vl σ lv) (hv : zz_ok σ v) : zz_vl σ ((i, v) :: lv) := by
  intro j
  by_cases e : i = j
  · subst e
    have : zz_lk ((i, v) :: lv) i = v := by simp [zz_lk]
    rw [this]
    exact hv
  · have : zz_lk ((i, v) :: lv) j = zz_lk lv j := by simp [zz_lk, zz_nb e]
    rw [this]
    exact a j
theorem zs_istore {i : Nat} {x : Int} (hd : decode (zm_b M) pc = .ok (.istore i, 2)) (hn : i < zm_l M) (h : zz_At M (pc + 2) ((i, 0, x) :: lv) sk σ r τ) : zz_At M pc lv ((0, x) :: sk) σ r τ :=
  zz_At.loc (fun _ b c => ⟨zz_vl_set b (zz_vk_c.mp c).1, (zz_vk_c.mp c).2⟩) (fun a1 a2 a3 p l e R s m args below meth c C ad H locs cells slots ls Q hL k => lv_istore (lv := zz_ll lv ad (zm_l M)) (nL := zm_l M) C.1 C.2.1 hd hL.all hn rfl (fun ls' hl' => k ls' (hL.set (by decide) hl'))) h
theorem zs_istoren {i : Fin 4} {x : Int} (hd : decode (zm_b M) pc = .ok (.istore_n i, 1)) (hn : i.val < zm_l M) (h : zz_At M (pc + 1) ((i.val, 0, x) :: lv) sk σ r τ) : zz_At M pc lv ((0, x) :: sk) σ r τ :=
  zz_At.loc (fun _ b c => ⟨zz_vl_set b (zz_vk_c.mp c).1, (zz_vk_c.mp c).2⟩) (fun a1 a2 a3 p l e R s m args below meth c C ad H locs cells slots ls Q hL k => lv_istore_n (lv := zz_ll lv ad (zm_l M)) (nL := zm_l M) C.1 C.2.1 hd rfl hL.all hn rfl (fun ls' hl' => k ls' (hL.set (by decide) hl'))) h
theorem zs_astore {i : Nat} {t : Nat} {x : Int} (hd : decode (zm_b M) pc = .ok (.astore i, 2)) (hn : i < zm_l M) (ht : 2 ≤ t) (h : zz_At M (pc + 2) ((i, t, x) :: lv) sk σ r τ) : zz_At M pc lv ((t, x) :: sk) σ r τ := by
  refine zz_At.loc (fun _ b c => ⟨zz_vl_set b (zz_vk_c.mp c).1, (zz_vk_c.mp c).2⟩) (fun a1 a2 a3 p l e R s m args below meth c C ad H locs cells slots ls Q hL k => ?_) h
  rw [List.map_cons]
  by_cases hx : x = 0
  · have e1 : zz_cv ad (t, x) = .null := by rw [hx]; exact zz_cv_0 ad ht
    rw [e1]
    exact lv_astoreN (lv := zz_ll lv ad (zm_l M)) (nL := zm_l M) C.1 C.2.1 hd hL.all hn rfl (fun ls' hl' => k ls' (hL.set (by omega) (by rw [e1]; exact hl')))
  · obtain ⟨q, hq⟩ := zz_cv_ref ad ht hx
    rw [hq]
    exact lv_astore (lv := zz_ll lv ad (zm_l M)) (nL := zm_l M) C.1 C.2.1 hd hL.all hn rfl (fun ls' hl' => k ls' (hL.set (by omega) (by rw [hq]; exact hl')))
theorem zs_astoren {i : Fin 4} {t : Nat} {x : Int} (hd : decode (zm_b M) pc = .ok (.astore_n i, 1)) (hn : i.val < zm_l M) (ht : 2 ≤ t) (h : zz_At M (pc + 1) ((i.val, t, x) :: lv) sk σ r τ) : zz_At M pc lv ((t, x) :: sk) σ r τ := by
  refine zz_At.loc (fun _ b c => ⟨zz_vl_set b (zz_vk_c.mp c).1, (zz_vk_c.mp c).2⟩) (fun a1 a2 a3 p l e R s m args below meth c C ad H locs cells slots ls Q hL k => ?_) h
  rw [List.map_cons]
  by_cases hx : x = 0
  · have e1 : zz_cv ad (t, x) = .null := by rw [hx]; exact zz_cv_0 ad ht
    rw [e1]
    exact lv_astore_nN (lv := zz_ll lv ad (zm_l M)) (nL := zm_l M) C.1 C.2.1 hd rfl hL.all hn rfl (fun ls' hl' => k ls' (hL.set (by omega) (by rw [e1]; exact hl')))
  · obtain ⟨q, hq⟩ := zz_cv_ref ad ht hx
    rw [hq]
    exact lv_astore_n (lv := zz_ll lv ad (zm_l M)) (nL := zm_l M) C.1 C.2.1 hd rfl hL.all hn rfl (fun ls' hl' => k ls' (hL.set (by omega) (by rw [hq]; exact hl')))
theorem zz_e_add (x y : Int) : Int32.ofInt (zz_r (x + y)) = Int32.ofInt x + Int32.ofInt y := by
  unfold zz_r
  rw [Int32.ofInt_toInt, Int32.ofInt_add]
theorem zz_e_sub (x y : Int) : Int32.ofInt (zz_r (x - y)) = Int32.ofInt x - Int32.ofInt y := by
  unfold zz_r
  rw [Int32.ofInt_toInt, Int32.ofInt_sub]
theorem zz_e_mul (x y : Int) : Int32.ofInt (zz_r (x * y)) = Int32.ofInt x * Int32.ofInt y := by
  unfold zz_r
  rw [Int32.ofInt_toInt, Int32.ofInt_mul]
theorem zs_iinc {i : Nat} {n x : Int} (hd : decode (zm_b M) pc = .ok (.iinc i n, 3)) (he : zz_lk lv i = (0, x)) (hn : i < zm_l M) (h : zz_At M (pc + 3) ((i, 0, zz_r (x + n)) :: lv) sk σ r τ) : zz_At M pc lv sk σ r τ := by
  refine zz_At.loc (fun _ b c => ⟨zz_vl_set b (zz_ok_t _), c⟩) (fun a1 a2 a3 p l e R s m args below meth c C ad H locs cells slots ls Q hL k => ?_) h
  have hm : (i, zz_cv ad (0, x)) ∈ zz_ll lv ad (zm_l M) := zz_ll_mem.mpr ⟨hn, by rw [he]; show (0 : Nat) ≠ 1; decide, by rw [he]⟩
  obtain ⟨j, hj⟩ := List.getElem?_of_mem hm
  exact lv_iinc (lv := zz_ll lv ad (zm_l M)) (nL := zm_l M) (k := j) C.1 C.2.1 hd hL.all hj (zz_e_add x n).symm hn rfl (fun ls' hl' => k ls' (hL.set (by decide) hl'))
theorem zs_iadd {x y : Int} (hd : decode (zm_b M) pc = .ok (.iadd, 1)) (h : zz_At M (pc + 1) lv ((0, zz_r (x + y)) :: sk) σ r τ) : zz_At M pc lv ((0, y) :: (0, x) :: sk) σ r τ :=
  zz_At.pure (sk2 := ((0, zz_r (x + y)) :: sk)) (zz_v2 (zz_ok_t _)) (fun a1 a2 a3 p l e R s m args below meth c C D n0 ad H locs cells slots ls Q hK hH hL k => lv_iadd C.1 C.2.1 hd (by have k := k; rw [List.map_cons, zz_cv_i, show Int32.ofInt (zz_r (x + y)) = _ from zz_e_add x y] at k; exact k)) h
theorem zs_isub {x y : Int} (hd : decode (zm_b M) pc = .ok (.isub, 1)) (h : zz_At M (pc + 1) lv ((0, zz_r (x - y)) :: sk) σ r τ) : zz_At M pc lv ((0, y) :: (0, x) :: sk) σ r τ :=
  zz_At.pure (sk2 := ((0, zz_r (x - y)) :: sk)) (zz_v2 (zz_ok_t _)) (fun a1 a2 a3 p l e R s m args below meth c C D n0 ad H locs cells slots ls Q hK hH hL k => lv_isub C.1 C.2.1 hd (by have k := k; rw [List.map_cons, zz_cv_i, show Int32.ofInt (zz_r (x - y)) = _ from zz_e_sub x y] at k; exact k)) h
theorem zs_imul {x y : Int} (hd : decode (zm_b M) pc = .ok (.imul, 1)) (h : zz_At M (pc + 1) lv ((0, zz_r (x * y)) :: sk) σ r τ) : zz_At M pc lv ((0, y) :: (0, x) :: sk) σ r τ :=
  zz_At.pure (sk2 := ((0, zz_r (x * y)) :: sk)) (zz_v2 (zz_ok_t _)) (fun a1 a2 a3 p l e R s m args below meth c C D n0 ad H locs cells slots ls Q hK hH hL k => lv_imul C.1 C.2.1 hd (by have k := k; rw [List.map_cons, zz_cv_i, show Int32.ofInt (zz_r (x * y)) = _ from zz_e_mul x y] at k; exact k)) h
theorem zs_iand {x y : Int} (hd : decode (zm_b M) pc = .ok (.iand, 1)) (h : zz_At M (pc + 1) lv ((0, zz_and x y) :: sk) σ r τ) : zz_At M pc lv ((0, y) :: (0, x) :: sk) σ r τ :=
  zz_At.pure (sk2 := ((0, zz_and x y) :: sk)) (zz_v2 (zz_ok_t _)) (fun a1 a2 a3 p l e R s m args below meth c C D n0 ad H locs cells slots ls Q hK hH hL k => lv_iand C.1 C.2.1 hd (by have k := k; rw [List.map_cons, zz_cv_i, show Int32.ofInt (zz_and x y) = _ from zz_of32 _] at k; exact k)) h
theorem zs_ior {x y : Int} (hd : decode (zm_b M) pc = .ok (.ior, 1)) (h : zz_At M (pc + 1) lv ((0, zz_or x y) :: sk) σ r τ) : zz_At M pc lv ((0, y) :: (0, x) :: sk) σ r τ :=
  zz_At.pure (sk2 := ((0, zz_or x y) :: sk)) (zz_v2 (zz_ok_t _)) (fun a1 a2 a3 p l e R s m args below meth c C D n0 ad H locs cells slots ls Q hK hH hL k => lv_ior C.1 C.2.1 hd (by have k := k; rw [List.map_cons, zz_cv_i, show Int32.ofInt (zz_or x y) = _ from zz_of32 _] at k; exact k)) h
theorem zs_ixor {x y : Int} (hd : decode (zm_b M) pc = .ok (.ixor, 1)) (h : zz_At M (pc + 1) lv ((0, zz_xor x y) :: sk) σ r τ) : zz_At M pc lv ((0, y) :: (0, x) :: sk) σ r τ :=
  zz_At.pure (sk2 := ((0, zz_xor x y) :: sk)) (zz_v2 (zz_ok_t _)) (fun a1 a2 a3 p l e R s m args below meth c C D n0 ad H locs cells slots ls Q hK hH hL k => lv_ixor C.1 C.2.1 hd (by have k := k; rw [List.map_cons, zz_cv_i, show Int32.ofInt (zz_xor x y) = _ from zz_of32 _] at k; exact k)) h
theorem zs_ishl {x y : Int} (hd : decode (zm_b M) pc = .ok (.ishl, 1)) (h : zz_At M (pc + 1) lv ((0, zz_shl x y) :: sk) σ r τ) : zz_At M pc lv ((0, y) :: (0, x) :: sk) σ r τ :=
  zz_At.pure (sk2 := ((0, zz_shl x y) :: sk)) (zz_v2 (zz_ok_t _)) (fun a1 a2 a3 p l e R s m args below meth c C D n0 ad H locs cells slots ls Q hK hH hL k => lv_ishl C.1 C.2.1 hd (by have k := k; rw [List.map_cons, zz_cv_i, show Int32.ofInt (zz_shl x y) = _ from zz_of32 _] at k; exact k)) h
theorem zs_ishr {x y : Int} (hd : decode (zm_b M) pc = .ok (.ishr, 1)) (h : zz_At M (pc + 1) lv ((0, zz_shr x y) :: sk) σ r τ) : zz_At M pc lv ((0, y) :: (0, x) :: sk) σ r τ :=
  zz_At.pure (sk2 := ((0, zz_shr x y) :: sk)) (zz_v2 (zz_ok_t _)) (fun a1 a2 a3 p l e R s m args below meth c C D n0 ad H locs cells slots ls Q hK hH hL k => lv_ishr C.1 C.2.1 hd (by have k := k; rw [List.map_cons, zz_cv_i, show Int32.ofInt (zz_shr x y) = _ from zz_of32 _] at k; exact k)) h
theorem zs_idiv {x y : Int} (hd : decode (zm_b M) pc = .ok (.idiv, 1)) (hy : ¬ y = 0) (h : zz_At M (pc + 1) lv ((0, zz_div x y) :: sk) σ r τ) : zz_At M pc lv ((0, y) :: (0, x) :: sk) σ r τ :=
  zz_At.pure (sk2 := ((0, zz_div x y) :: sk)) (zz_v2 (zz_ok_t _)) (fun a1 a2 a3 p l e R s m args below meth c C D n0 ad H locs cells slots ls Q hK hH hL k => lv_idiv C.1 C.2.1 hd (by exact fun z => hy ((zz_eq0 (zz_ok_i.mp (zz_vk_c.mp a3).1)).mp z)) (by have k := k; rw [List.map_cons, zz_cv_i, show Int32.ofInt (zz_div x y) = _ from zz_of32 _] at k; exact k)) h
theorem zs_irem {x y : Int} (hd : decode (zm_b M) pc = .ok (.irem, 1)) (hy : ¬ y = 0) (h : zz_At M (pc + 1) lv ((0, zz_rem x y) :: sk) σ r τ) : zz_At M pc lv ((0, y) :: (0, x) :: sk) σ r τ :=
  zz_At.pure (sk2 := ((0, zz_rem x y) :: sk)) (zz_v2 (zz_ok_t _)) (fun a1 a2 a3 p l e R s m args below meth c C D n0 ad H locs cells slots ls Q hK hH hL k => lv_irem C.1 C.2.1 hd (by exact fun z => hy ((zz_eq0 (zz_ok_i.mp (zz_vk_c.mp a3).1)).mp z)) (by have k := k; rw [List.map_cons, zz_cv_i, show Int32.ofInt (zz_rem x y) = _ from zz_of32 _] at k; exact k)) h
theorem zs_land {x y : Int} (hd : decode (zm_b M) pc = .ok (.land, 1)) (h : zz_At M (pc + 1) lv ((1, zz_land x y) :: sk) σ r τ) : zz_At M pc lv ((1, y) :: (1, x) :: sk) σ r τ :=
  zz_At.pure (sk2 := ((1, zz_land x y) :: sk)) (zz_v2 (zz_ok_tL _)) (fun a1 a2 a3 p l e R s m args below meth c C D n0 ad H locs cells slots ls Q hK hH hL k => lv_land C.1 C.2.1 hd (by have k := k; rw [List.map_cons, zz_cv_l, show Int64.ofInt (zz_land x y) = _ from zz_of64 _] at k; exact k)) h
theorem zs_lshl {x y : Int} (hd : decode (zm_b M) pc = .ok (.lshl, 1)) (h : zz_At M (pc + 1) lv ((1, zz_lshl x y) :: sk) σ r τ) : zz_At M pc lv ((0, y) :: (1, x) :: sk) σ r τ :=
  zz_At.pure (sk2 := ((1, zz_lshl x y) :: sk)) (zz_v2 (zz_ok_tL _)) (fun a1 a2 a3 p l e R s m args below meth c C D n0 ad H locs cells slots ls Q hK hH hL k => lv_lshl C.1 C.2.1 hd rfl (by have k := k; rw [List.map_cons, zz_cv_l, show Int64.ofInt (zz_lshl x y) = _ from zz_of64 _] at k; exact k)) h
theorem zs_lshr {x y : Int} (hd : decode (zm_b M) pc = .ok (.lshr, 1)) (h : zz_At M (pc + 1) lv ((1, zz_lshr x y) :: sk) σ r τ) : zz_At M pc lv ((0, y) :: (1, x) :: sk) σ r τ :=
  zz_At.pure (sk2 := ((1, zz_lshr x y) :: sk)) (zz_v2 (zz_ok_tL _)) (fun a1 a2 a3 p l e R s m args below meth c C D n0 ad H locs cells slots ls Q hK hH hL k => lv_lshr C.1 C.2.1 hd rfl (by have k := k; rw [List.map_cons, zz_cv_l, show Int64.ofInt (zz_lshr x y) = _ from zz_of64 _] at k; exact k)) h
theorem zz_lc_ok {x y : Int} : zz_ok σ (0, zz_lc x y) := by
  unfold zz_lc
  refine zz_ok_i.mpr ?_
  split
  · omega
  · split <;> omega
theorem zs_lcmp {x y : Int} (hd : decode (zm_b M) pc = .ok (.lcmp, 1)) (h : zz_At M (pc + 1) lv ((0, zz_lc x y) :: sk) σ r τ) : zz_At M pc lv ((1, y) :: (1, x) :: sk) σ r τ :=
  zz_At.pure (sk2 := ((0, zz_lc x y) :: sk)) (zz_v2 zz_lc_ok) (fun a1 a2 a3 p l e R s m args below meth c C D n0 ad H locs cells slots ls Q hK hH hL k => W.lcmp C.1 C.2.1 hd (by have k := k; rw [List.map_cons, zz_cv_i, ← zz_lcv (zz_ok_l.mp (zz_vk_c.mp (zz_vk_c.mp a3).2).1) (zz_ok_l.mp (zz_vk_c.mp a3).1)] at k; exact k)) h
theorem zs_dup {v : zz_V} (hd : decode (zm_b M) pc = .ok (.dup, 1)) (hv : v.1 ≠ 1) (h : zz_At M (pc + 1) lv (v :: v :: sk) σ r τ) : zz_At M pc lv (v :: sk) σ r τ :=
  zz_At.pure (fun _ _ k => zz_vk_c.mpr ⟨(zz_vk_c.mp k).1, k⟩) (fun a1 a2 a3 p l e R s m args below meth c C D n0 ad H locs cells slots ls Q hK hH hL k => lv_dup C.1 C.2.1 hd (zz_cat ad hv) k) h
theorem zs_dup_x1 {v w : zz_V} (hd : decode (zm_b M) pc = .ok (.dup_x1, 1)) (hv : v.1 ≠ 1) (hw : w.1 ≠ 1) (h : zz_At M (pc + 1) lv (v :: w :: v :: sk) σ r τ) : zz_At M pc lv (v :: w :: sk) σ r τ :=
  zz_At.pure (fun _ _ k => by have h1 := zz_vk_c.mp k; have h2 := zz_vk_c.mp h1.2; exact zz_vk_c.mpr ⟨h1.1, zz_vk_c.mpr ⟨h2.1, zz_vk_c.mpr ⟨h1.1, h2.2⟩⟩⟩) (fun a1 a2 a3 p l e R s m args below meth c C D n0 ad H locs cells slots ls Q hK hH hL k => lv_dup_x1 C.1 C.2.1 hd (zz_cat ad hv) (zz_cat ad hw) k) h
theorem zs_dup_x2 {v w u : zz_V} (hd : decode (zm_b M) pc = .ok (.dup_x2, 1)) (hv : v.1 ≠ 1) (hw : w.1 ≠ 1) (hu : u.1 ≠ 1) (h : zz_At M (pc + 1) lv (v :: w :: u :: v :: sk) σ r τ) : zz_At M pc lv (v :: w :: u :: sk) σ r τ :=
  zz_At.pure (fun _ _ k => by have h1 := zz_vk_c.mp k; have h2 := zz_vk_c.mp h1.2; have h3 := zz_vk_c.mp h2.2; exact zz_vk_c.mpr ⟨h1.1, zz_vk_c.mpr ⟨h2.1, zz_vk_c.mpr ⟨h3.1, zz_vk_c.mpr ⟨h1.1, h3.2⟩⟩⟩⟩) (fun a1 a2 a3 p l e R s m args below meth c C D n0 ad H locs cells slots ls Q hK hH hL k => lv_dup_x2 C.1 C.2.1 hd (zz_cat ad hv) (zz_cat ad hw) (zz_cat ad hu) k) h
theorem zs_dup2 {v w : zz_V} (hd : decode (zm_b M) pc = .ok (.dup2, 1)) (hv : v.1 ≠ 1) (hw : w.1 ≠ 1) (h : zz_At M (pc + 1) lv (v :: w :: v :: w :: sk) σ r τ) : zz_At M pc lv (v :: w :: sk) σ r τ :=
  zz_At.pure (fun _ _ k => by have h1 := zz_vk_c.mp k; have h2 := zz_vk_c.mp h1.2; exact zz_vk_c.mpr ⟨h1.1, zz_vk_c.mpr ⟨h2.1, k⟩⟩) (fun a1 a2 a3 p l e R s m args below meth c C D n0 ad H locs cells slots ls Q hK hH hL k => lv_dup2_11 C.1 C.2.1 hd (zz_cat ad hv) (zz_cat ad hw) k) h
theorem zs_goto {off : Int} {tgt : Nat} (hd : decode (zm_b M) pc = .ok (.goto off, 3)) (ht : (pc : Int) + off = (tgt : Int)) (h : zz_At M tgt lv sk σ r τ) : zz_At M pc lv sk σ r τ :=
  zz_At.pure (fun _ _ k => k) (fun a1 a2 a3 p l e R s m args below meth c C D n0 ad H locs cells slots ls Q hK hH hL k => lv_goto C.1 C.2.1 hd ht k) h
theorem zs_if_eq {x off : Int} {tgt : Nat} (hd : decode (zm_b M) pc = .ok (.ifCond .eq off, 3)) (ht : (pc : Int) + off = (tgt : Int)) (h1 : x = 0 → zz_At M tgt lv sk σ r τ) (h2 : ¬ x = 0 → zz_At M (pc + 3) lv sk σ r τ) : zz_At M pc lv ((0, x) :: sk) σ r τ := by
  by_cases hc : x = 0
  · refine zz_At.pure zz_vd1 (fun a1 a2 a3 p l e R s m args below meth c C D n0 ad H locs cells slots ls Q hK hH hL k => ?_) (h1 hc)
    have hm := (zz_eq (zz_ok_i.mp (zz_vk_c.mp a3).1) (y := 0) ⟨by omega, by omega⟩).mpr hc
    exact lv_if_eq C.1 C.2.1 hd ht (fun z => by first | exact k | exact absurd hm z | exact absurd hm (by simpa using z)) (fun z => by first | exact k | exact absurd hm z | exact absurd hm (by simpa using z))
  · refine zz_At.pure zz_vd1 (fun a1 a2 a3 p l e R s m args below meth c C D n0 ad H locs cells slots ls Q hK hH hL k => ?_) (h2 hc)
    have hm := fun z => hc ((zz_eq (zz_ok_i.mp (zz_vk_c.mp a3).1) (y := 0) ⟨by omega, by omega⟩).mp z)
    exact lv_if_eq C.1 C.2.1 hd ht (fun z => by first | exact k | exact absurd z hm | exact absurd (by simpa using z) hm) (fun z => by first | exact k | exact absurd z hm | exact absurd (by simpa using z) hm)
theorem zs_icmp_eq {x y off : Int} {tgt : Nat} (hd : decode (zm_b M) pc = .ok (.if_icmp .eq off, 3)) (ht : (pc : Int) + off = (tgt : Int)) (h1 : x = y → zz_At M tgt lv sk σ r τ) (h2 : ¬ x = y → zz_At M (pc + 3) lv sk σ r τ) : zz_At M pc lv ((0, y) :: (0, x) :: sk) σ r τ := by
  by_cases hc : x = y
  · refine zz_At.pure zz_vd2 (fun a1 a2 a3 p l e R s m args below meth c C D n0 ad H locs cells slots ls Q hK hH hL k => ?_) (h1 hc)
    have hm := (zz_eq (zz_ok_i.mp (zz_vk_c.mp (zz_vk_c.mp a3).2).1) (zz_ok_i.mp (zz_vk_c.mp a3).1)).mpr hc
    exact lv_icmp_eq C.1 C.2.1 hd ht (fun z => by first | exact k | exact absurd hm z | exact absurd hm (by simpa using z)) (fun z => by first | exact k | exact absurd hm z | exact absurd hm (by simpa using z))
  · refine zz_At.pure zz_vd2 (fun a1 a2 a3 p l e R s m args below meth c C D n0 ad H locs cells slots ls Q hK hH hL k => ?_) (h2 hc)
    have hm := fun z => hc ((zz_eq (zz_ok_i.mp (zz_vk_c.mp (zz_vk_c.mp a3).2).1) (zz_ok_i.mp (zz_vk_c.mp a3).1)).mp z)
    exact lv_icmp_eq C.1 C.2.1 hd ht (fun z => by first | exact k | exact absurd z hm | exact absurd (by simpa using z) hm) (fun z => by first | exact k | exact absurd z hm | exact absurd (by simpa using z) hm)
theorem zs_if_ne {x off : Int} {tgt : Nat} (hd : decode (zm_b M) pc = .ok (.ifCond .ne off, 3)) (ht : (pc : Int) + off = (tgt : Int)) (h1 : x = 0 → zz_At M (pc + 3) lv sk σ r τ) (h2 : ¬ x = 0 → zz_At M tgt lv sk σ r τ) : zz_At M pc lv ((0, x) :: sk) σ r τ := by
  by_cases hc : x = 0
  · refine zz_At.pure zz_vd1 (fun a1 a2 a3 p l e R s m args below meth c C D n0 ad H locs cells slots ls Q hK hH hL k => ?_) (h1 hc)
    have hm := (zz_eq (zz_ok_i.mp (zz_vk_c.mp a3).1) (y := 0) ⟨by omega, by omega⟩).mpr hc
    exact lv_if_ne C.1 C.2.1 hd ht (fun z => by first | exact k | exact absurd hm z | exact absurd hm (by simpa using z)) (fun z => by first | exact k | exact absurd hm z | exact absurd hm (by simpa using z))
  · refine zz_At.pure zz_vd1 (fun a1 a2 a3 p l e R s m args below meth c C D n0 ad H locs cells slots ls Q hK hH hL k => ?_) (h2 hc)
    have hm := fun z => hc ((zz_eq (zz_ok_i.mp (zz_vk_c.mp a3).1) (y := 0) ⟨by omega, by omega⟩).mp z)
    exact lv_if_ne C.1 C.2.1 hd ht (fun z => by first | exact k | exact absurd z hm | exact absurd (by simpa using z) hm) (fun z => by first | exact k | exact absurd z hm | exact absurd (by simpa using z) hm)
theorem zs_icmp_ne {x y off : Int} {tgt : Nat} (hd : decode (zm_b M) pc = .ok (.if_icmp .ne off, 3)) (ht : (pc : Int) + off = (tgt : Int)) (h1 : x = y → zz_At M (pc + 3) lv sk σ r τ) (h2 : ¬ x = y → zz_At M tgt lv sk σ r τ) : zz_At M pc lv ((0, y) :: (0, x) :: sk) σ r τ := by
  by_cases hc : x = y
  · refine zz_At.pure zz_vd2 (fun a1 a2 a3 p l e R s m args below meth c C D n0 ad H locs cells slots ls Q hK hH hL k => ?_) (h1 hc)
    have hm := (zz_eq (zz_ok_i.mp (zz_vk_c.mp (zz_vk_c.mp a3).2).1) (zz_ok_i.mp (zz_vk_c.mp a3).1)).mpr hc
    exact lv_icmp_ne C.1 C.2.1 hd ht (fun z => by first | exact k | exact absurd hm z | exact absurd hm (by simpa using z)) (fun z => by first | exact k | exact absurd hm z | exact absurd hm (by simpa using z))
  · refine zz_At.pure zz_vd2 (fun a1 a2 a3 p l e R s m args below meth c C D n0 ad H locs cells slots ls Q hK hH hL k => ?_) (h2 hc)
    have hm := fun z => hc ((zz_eq (zz_ok_i.mp (zz_vk_c.mp (zz_vk_c.mp a3).2).1) (zz_ok_i.mp (zz_vk_c.mp a3).1)).mp z)
    exact lv_icmp_ne C.1 C.2.1 hd ht (fun z => by first | exact k | exact absurd z hm | exact absurd (by simpa using z) hm) (fun z => by first | exact k | exact absurd z hm | exact absurd (by simpa using z) hm)
theorem zs_if_lt {x off : Int} {tgt : Nat} (hd : decode (zm_b M) pc = .ok (.ifCond .lt off, 3)) (ht : (pc : Int) + off = (tgt : Int)) (h1 : x < 0 → zz_At M tgt lv sk σ r τ) (h2 : ¬ x < 0 → zz_At M (pc + 3) lv sk σ r τ) : zz_At M pc lv ((0, x) :: sk) σ r τ := by
  by_cases hc : x < 0
  · refine zz_At.pure zz_vd1 (fun a1 a2 a3 p l e R s m args below meth c C D n0 ad H locs cells slots ls Q hK hH hL k => ?_) (h1 hc)
    have hm := (zz_lt (zz_ok_i.mp (zz_vk_c.mp a3).1) (y := 0) ⟨by omega, by omega⟩).mpr hc
    exact lv_if_lt C.1 C.2.1 hd ht (fun z => by first | exact k | exact absurd hm z | exact absurd hm (by simpa using z)) (fun z => by first | exact k | exact absurd hm z | exact absurd hm (by simpa using z))
  · refine zz_At.pure zz_vd1 (fun a1 a2 a3 p l e R s m args below meth c C D n0 ad H locs cells slots ls Q hK hH hL k => ?_) (h2 hc)
    have hm := fun z => hc ((zz_lt (zz_ok_i.mp (zz_vk_c.mp a3).1) (y := 0) ⟨by omega, by omega⟩).mp z)
    exact lv_if_lt C.1 C.2.1 hd ht (fun z => by first | exact k | exact absurd z hm | exact absurd (by simpa using z) hm) (fun z => by first | exact k | exact absurd z hm | exact absurd (by simpa using z) hm)
theorem zs_icmp_lt {x y off : Int} {tgt : Nat} (hd : decode (zm_b M) pc = .ok (.if_icmp .lt off, 3)) (ht : (pc : Int) + off = (tgt : Int)) (h1 : x < y → zz_At M tgt lv sk σ r τ) (h2 : ¬ x < y → zz_At M (pc + 3) lv sk σ r τ) : zz_At M pc lv ((0, y) :: (0, x) :: sk) σ r τ := by
  by_cases hc : x < y
  · refine zz_At.pure zz_vd2 (fun a1 a2 a3 p l e R s m args below meth c C D n0 ad H locs cells slots ls Q hK hH hL k => ?_) (h1 hc)
    have hm := (zz_lt (zz_ok_i.mp (zz_vk_c.mp (zz_vk_c.mp a3).2).1) (zz_ok_i.mp (zz_vk_c.mp a3).1)).mpr hc
    exact lv_icmp_lt C.1 C.2.1 hd ht (fun z => by first | exact k | exact absurd hm z | exact absurd hm (by simpa using z)) (fun z => by first | exact k | exact absurd hm z | exact absurd hm (by simpa using z))
  · refine zz_At.pure zz_vd2 (fun a1 a2 a3 p l e R s m args below meth c C D n0 ad H locs cells slots ls Q hK hH hL k => ?_) (h2 hc)
    have hm := fun z => hc ((zz_lt (zz_ok_i.mp (zz_vk_c.mp (zz_vk_c.mp a3).2).1) (zz_ok_i.mp (zz_vk_c.mp a3).1)).mp z)
    exact lv_icmp_lt C.1 C.2.1 hd ht (fun z => by first | exact k | exact absurd z hm | exact absurd (by simpa using z) hm) (fun z => by first | exact k | exact absurd z hm | exact absurd (by simpa using z) hm)
theorem zs_if_ge {x off : Int} {tgt : Nat} (hd : decode (zm_b M) pc = .ok (.ifCond .ge off, 3)) (ht : (pc : Int) + off = (tgt : Int)) (h1 : x < 0 → zz_At M (pc + 3) lv sk σ r τ) (h2 : ¬ x < 0 → zz_At M tgt lv sk σ r τ) : zz_At M pc lv ((0, x) :: sk) σ r τ := by
  by_cases hc : x < 0
  · refine zz_At.pure zz_vd1 (fun a1 a2 a3 p l e R s m args below meth c C D n0 ad H locs cells slots ls Q hK hH hL k => ?_) (h1 hc)
    have hm := (zz_lt (zz_ok_i.mp (zz_vk_c.mp a3).1) (y := 0) ⟨by omega, by omega⟩).mpr hc
    exact lv_if_ge C.1 C.2.1 hd ht (fun z => by first | exact k | exact absurd hm z | exact absurd hm (by simpa using z)) (fun z => by first | exact k | exact absurd hm z | exact absurd hm (by simpa using z))
  · refine zz_At.pure zz_vd1 (fun a1 a2 a3 p l e R s m args below meth c C D n0 ad H locs cells slots ls Q hK hH hL k => ?_) (h2 hc)
    have hm := fun z => hc ((zz_lt (zz_ok_i.mp (zz_vk_c.mp a3).1) (y := 0) ⟨by omega, by omega⟩).mp z)
    exact lv_if_ge C.1 C.2.1 hd ht (fun z => by first | exact k | exact absurd z hm | exact absurd (by simpa using z) hm) (fun z => by first | exact k | exact absurd z hm | exact absurd (by simpa using z) hm)
theorem zs_icmp_ge {x y off : Int} {tgt : Nat} (hd : decode (zm_b M) pc = .ok (.if_icmp .ge off, 3)) (ht : (pc : Int) + off = (tgt : Int)) (h1 : x < y → zz_At M (pc + 3) lv sk σ r τ) (h2 : ¬ x < y → zz_At M tgt lv sk σ r τ) : zz_At M pc lv ((0, y) :: (0, x) :: sk) σ r τ := by
  by_cases hc : x < y
  · refine zz_At.pure zz_vd2 (fun a1 a2 a3 p l e R s m args below meth c C D n0 ad H locs cells slots ls Q hK hH hL k => ?_) (h1 hc)
    have hm := (zz_lt (zz_ok_i.mp (zz_vk_c.mp (zz_vk_c.mp a3).2).1) (zz_ok_i.mp (zz_vk_c.mp a3).1)).mpr hc
    exact lv_icmp_ge C.1 C.2.1 hd ht (fun z => by first | exact k | exact absurd hm z | exact absurd hm (by simpa using z)) (fun z => by first | exact k | exact absurd hm z | exact absurd hm (by simpa using z))
  · refine zz_At.pure zz_vd2 (fun a1 a2 a3 p l e R s m args below meth c C D n0 ad H locs cells slots ls Q hK hH hL k => ?_) (h2 hc)
    have hm := fun z => hc ((zz_lt (zz_ok_i.mp (zz_vk_c.mp (zz_vk_c.mp a3).2).1) (zz_ok_i.mp (zz_vk_c.mp a3).1)).mp z)
    exact lv_icmp_ge C.1 C.2.1 hd ht (fun z => by first | exact k | exact absurd z hm | exact absurd (by simpa using z) hm) (fun z => by first | exact k | exact absurd z hm | exact absurd (by simpa using z) hm)
theorem zs_if_le {x off : Int} {tgt : Nat} (hd : decode (zm_b M) pc = .ok (.ifCond .le off, 3)) (ht : (pc : Int) + off = (tgt : Int)) (h1 : x ≤ 0 → zz_At M tgt lv sk σ r τ) (h2 : ¬ x ≤ 0 → zz_At M (pc + 3) lv sk σ r τ) : zz_At M pc lv ((0, x) :: sk) σ r τ := by
  by_cases hc : x ≤ 0
  · refine zz_At.pure zz_vd1 (fun a1 a2 a3 p l e R s m args below meth c C D n0 ad H locs cells slots ls Q hK hH hL k => ?_) (h1 hc)
    have hm := (zz_le (zz_ok_i.mp (zz_vk_c.mp a3).1) (y := 0) ⟨by omega, by omega⟩).mpr hc
    exact lv_if_le C.1 C.2.1 hd ht (fun z => by first | exact k | exact absurd hm z | exact absurd hm (by simpa using z)) (fun z => by first | exact k | exact absurd hm z | exact absurd hm (by simpa using z))
  · refine zz_At.pure zz_vd1 (fun a1 a2 a3 p l e R s m args below meth c C D n0 ad H locs cells slots ls Q hK hH hL k => ?_) (h2 hc)
    have hm := fun z => hc ((zz_le (zz_ok_i.mp (zz_vk_c.mp a3).1) (y := 0) ⟨by omega, by omega⟩).mp z)
    exact lv_if_le C.1 C.2.1 hd ht (fun z => by first | exact k | exact absurd z hm | exact absurd (by simpa using z) hm) (fun z => by first | exact k | exact absurd z hm | exact absurd (by simpa using z) hm)
theorem zs_icmp_le {x y off : Int} {tgt : Nat} (hd : decode (zm_b M) pc = .ok (.if_icmp .le off, 3)) (ht : (pc : Int) + off = (tgt : Int)) (h1 : x ≤ y → zz_At M tgt lv sk σ r τ) (h2 : ¬ x ≤ y → zz_At M (pc + 3) lv sk σ r τ) : zz_At M pc lv ((0, y) :: (0, x) :: sk) σ r τ := by
  by_cases hc : x ≤ y
  · refine zz_At.pure zz_vd2 (fun a1 a2 a3 p l e R s m args below meth c C D n0 ad H locs cells slots ls Q hK hH hL k => ?_) (h1 hc)
    have hm := (zz_le (zz_ok_i.mp (zz_vk_c.mp (zz_vk_c.mp a3).2).1) (zz_ok_i.mp (zz_vk_c.mp a3).1)).mpr hc
    exact lv_icmp_le C.1 C.2.1 hd ht (fun z => by first | exact k | exact absurd hm z | exact absurd hm (by simpa using z)) (fun z => by first | exact k | exact absurd hm z | exact absurd hm (by simpa using z))
  · refine zz_At.pure zz_vd2 (fun a1 a2 a3 p l e R s m args below meth c C D n0 ad H locs cells slots ls Q hK hH hL k => ?_) (h2 hc)
    have hm := fun z => hc ((zz_le (zz_ok_i.mp (zz_vk_c.mp (zz_vk_c.mp a3).2).1) (zz_ok_i.mp (zz_vk_c.mp a3).1)).mp z)
    exact lv_icmp_le C.1 C.2.1 hd ht (fun z => by first | exact k | exact absurd z hm | exact absurd (by simpa using z) hm) (fun z => by first | exact k | exact absurd z hm | exact absurd (by simpa using z) hm)
theorem zs_if_gt {x off : Int} {tgt : Nat} (hd : decode (zm_b M) pc = .ok (.ifCond .gt off, 3)) (ht : (pc : Int) + off = (tgt : Int)) (h1 : x ≤ 0 → zz_At M (pc + 3) lv sk σ r τ) (h2 : ¬ x ≤ 0 → zz_At M tgt lv sk σ r τ) : zz_At M pc lv ((0, x) :: sk) σ r τ := by
  by_cases hc : x ≤ 0
  · refine zz_At.pure zz_vd1 (fun a1 a2 a3 p l e R s m args below meth c C D n0 ad H locs cells slots ls Q hK hH hL k => ?_) (h1 hc)
    have hm := (zz_le (zz_ok_i.mp (zz_vk_c.mp a3).1) (y := 0) ⟨by omega, by omega⟩).mpr hc
    exact lv_if_gt C.1 C.2.1 hd ht (fun z => by first | exact k | exact absurd hm z | exact absurd hm (by simpa using z)) (fun z => by first | exact k | exact absurd hm z | exact absurd hm (by simpa using z))
  · refine zz_At.pure zz_vd1 (fun a1 a2 a3 p l e R s m args below meth c C D n0 ad H locs cells slots ls Q hK hH hL k => ?_) (h2 hc)
    have hm := fun z => hc ((zz_le (zz_ok_i.mp (zz_vk_c.mp a3).1) (y := 0) ⟨by omega, by omega⟩).mp z)
    exact lv_if_gt C.1 C.2.1 hd ht (fun z => by first | exact k | exact absurd z hm | exact absurd (by simpa using z) hm) (fun z => by first | exact k | exact absurd z hm | exact absurd (by simpa using z) hm)
theorem zs_icmp_gt {x y off : Int} {tgt : Nat} (hd : decode (zm_b M) pc = .ok (.if_icmp .gt off, 3)) (ht : (pc : Int) + off = (tgt : Int)) (h1 : x ≤ y → zz_At M (pc + 3) lv sk σ r τ) (h2 : ¬ x ≤ y → zz_At M tgt lv sk σ r τ) : zz_At M pc lv ((0, y) :: (0, x) :: sk) σ r τ := by
  by_cases hc : x ≤ y
  · refine zz_At.pure zz_vd2 (fun a1 a2 a3 p l e R s m args below meth c C D n0 ad H locs cells slots ls Q hK hH hL k => ?_) (h1 hc)
    have hm := (zz_le (zz_ok_i.mp (zz_vk_c.mp (zz_vk_c.mp a3).2).1) (zz_ok_i.mp (zz_vk_c.mp a3).1)).mpr hc
    exact lv_icmp_gt C.1 C.2.1 hd ht (fun z => by first | exact k | exact absurd hm z | exact absurd hm (by simpa using z)) (fun z => by first | exact k | exact absurd hm z | exact absurd hm (by simpa using z))
  · refine zz_At.pure zz_vd2 (fun a1 a2 a3 p l e R s m args below meth c C D n0 ad H locs cells slots ls Q hK hH hL k => ?_) (h2 hc)
    have hm := fun z => hc ((zz_le (zz_ok_i.mp (zz_vk_c.mp (zz_vk_c.mp a3).2).1) (zz_ok_i.mp (zz_vk_c.mp a3).1)).mp z)
    exact lv_icmp_gt C.1 C.2.1 hd ht (fun z => by first | exact k | exact absurd z hm | exact absurd (by simpa using z) hm) (fun z => by first | exact k | exact absurd z hm | exact absurd (by simpa using z) hm)
theorem zs_ifnull {t : Nat} {x off : Int} {tgt : Nat} (hd : decode (zm_b M) pc = .ok (.ifnull off, 3)) (ht : (pc : Int) + off = (tgt : Int)) (ht2 : 2 ≤ t) (h1 : x = 0 → zz_At M tgt lv sk σ r τ) (h2 : ¬ x = 0 → zz_At M (pc + 3) lv sk σ r τ) : zz_At M pc lv ((t, x) :: sk) σ r τ := by
  by_cases hc : x = 0
  · refine zz_At.pure zz_vd1 (fun a1 a2 a3 p l e R s m args below meth c C D n0 ad H locs cells slots ls Q hK hH hL k => ?_) (h1 hc)
    rw [List.map_cons, hc, zz_cv_0 ad ht2]
    exact lv_ifnullN C.1 C.2.1 hd ht k
  · refine zz_At.pure zz_vd1 (fun a1 a2 a3 p l e R s m args below meth c C D n0 ad H locs cells slots ls Q hK hH hL k => ?_) (h2 hc)
    obtain ⟨q, hq⟩ := zz_cv_ref ad ht2 hc
    rw [List.map_cons, hq]
    exact lv_ifnull C.1 C.2.1 hd k
theorem zs_ifnonnull {t : Nat} {x off : Int} {tgt : Nat} (hd : decode (zm_b M) pc = .ok (.ifnonnull off, 3)) (ht : (pc : Int) + off = (tgt : Int)) (ht2 : 2 ≤ t) (h1 : x = 0 → zz_At M (pc + 3) lv sk σ r τ) (h2 : ¬ x = 0 → zz_At M tgt lv sk σ r τ) : zz_At M pc lv ((t, x) :: sk) σ r τ := by
  by_cases hc : x = 0
  · refine zz_At.pure zz_vd1 (fun a1 a2 a3 p l e R s m args below meth c C D n0 ad H locs cells slots ls Q hK hH hL k => ?_) (h1 hc)
    rw [List.map_cons, hc, zz_cv_0 ad ht2]
    exact lv_ifnonnullN C.1 C.2.1 hd k
  · refine zz_At.pure zz_vd1 (fun a1 a2 a3 p l e R s m args below meth c C D n0 ad H locs cells slots ls Q hK hH hL k => ?_) (h2 hc)
    obtain ⟨q, hq⟩ := zz_cv_ref ad ht2 hc
    rw [List.map_cons, hq]
    exact lv_ifnonnull C.1 C.2.1 hd ht k
theorem zz_cv_rf (ad : Nat → Int → Nat) {k : Nat} {x : Int} (h2 : k ≤ 900) : zz_cv ad (2 + k, x) = va_rf (if x = 0 then none else some (ad k x)) := by
  by_cases hx : x = 0
  · rw [if_pos hx, hx, zz_cv_0 ad (by omega)]
    rfl
  · rw [if_neg hx, zz_cv_r ad h2 hx]
    rfl
theorem zz_inj {D : va_G} {n0 : Nat} {ad : Nat → Int → Nat} {s : State} {H : Heap} (hs : zz_vs σ) (hH : zz_Hd D n0 ad σ s H) {k : Nat} (h3 : 3 ≤ k) (h2 : k ≤ 900) {x y : Int} (hx : zz_ok σ (2 + k, x)) (hy : zz_ok σ (2 + k, y)) : (if x = 0 then none else some (ad k x)) = (if y = 0 then none else some (ad k y)) ↔ x = y := by
  have e : 2 + k - 2 = k := by omega
  have hx := (zz_ok_r (by omega) (by omega)).mp hx
  have hy := (zz_ok_r (by omega) (by omega)).mp hy
  rw [e] at hx hy
  have hm := hs.2.2.1 k
  constructor
  · intro h
    by_cases h0 : x = 0 <;> by_cases h1 : y = 0
    · omega
    · rw [if_pos h0, if_neg h1] at h
      cases h
    · rw [if_neg h0, if_pos h1] at h
      cases h
    · rw [if_neg h0, if_neg h1] at h
      exact (hH.2.2.1 k x k y h3 h3 ⟨by omega, by omega⟩ ⟨by omega, by omega⟩ (Option.some.inj h)).2
  · intro h
    rw [h]
theorem zs_acmp_eq {k : Nat} {x y off : Int} {tgt : Nat} (hd : decode (zm_b M) pc = .ok (.if_acmp .eq off, 3)) (ht : (pc : Int) + off = (tgt : Int)) (h3 : 3 ≤ k) (h9 : k ≤ 900) (h1 : x = y → zz_At M tgt lv sk σ r τ) (h2 : ¬ x = y → zz_At M (pc + 3) lv sk σ r τ) : zz_At M pc lv ((2 + k, y) :: (2 + k, x) :: sk) σ r τ := by
  by_cases hc : x = y
  · refine zz_At.pure zz_vd2 (fun a1 a2 a3 p l e R s m args below meth c C D n0 ad H locs cells slots ls Q hK hH hL kk => ?_) (h1 hc)
    have hm := (zz_inj a1 hH h3 h9 (zz_vk_c.mp (zz_vk_c.mp a3).2).1 (zz_vk_c.mp a3).1).mpr hc
    rw [List.map_cons, List.map_cons, zz_cv_rf ad h9, zz_cv_rf ad h9]
    exact lv_acmp_eq C.1 C.2.1 hd ht (fun z => by first | exact kk | exact absurd hm z | exact absurd hm (by simpa using z)) (fun z => by first | exact kk | exact absurd hm z | exact absurd hm (by simpa using z))
  · refine zz_At.pure zz_vd2 (fun a1 a2 a3 p l e R s m args below meth c C D n0 ad H locs cells slots ls Q hK hH hL kk => ?_) (h2 hc)
    have hm := fun z => hc ((zz_inj a1 hH h3 h9 (zz_vk_c.mp (zz_vk_c.mp a3).2).1 (zz_vk_c.mp a3).1).mp z)
    rw [List.map_cons, List.map_cons, zz_cv_rf ad h9, zz_cv_rf ad h9]
    exact lv_acmp_eq C.1 C.2.1 hd ht (fun z => by first | exact kk | exact absurd z hm | exact absurd (by simpa using z) hm) (fun z => by first | exact kk | exact absurd z hm | exact absurd (by simpa using z) hm)
theorem zs_acmp_ne {k : Nat} {x y off : Int} {tgt : Nat} (hd : decode (zm_b M) pc = .ok (.if_acmp .ne off, 3)) (ht : (pc : Int) + off = (tgt : Int)) (h3 : 3 ≤ k) (h9 : k ≤ 900) (h1 : x = y → zz_At M (pc + 3) lv sk σ r τ) (h2 : ¬ x = y → zz_At M tgt lv sk σ r τ) : zz_At M pc lv ((2 + k, y) :: (2 + k, x) :: sk) σ r τ := by
  by_cases hc : x = y
  · refine zz_At.pure zz_vd2 (fun a1 a2 a3 p l e R s m args below meth c C D n0 ad H locs cells slots ls Q hK hH hL kk => ?_) (h1 hc)
    have hm := (zz_inj a1 hH h3 h9 (zz_vk_c.mp (zz_vk_c.mp a3).2).1 (zz_vk_c.mp a3).1).mpr hc
    rw [List.map_cons, List.map_cons, zz_cv_rf ad h9, zz_cv_rf ad h9]
    exact lv_acmp_ne C.1 C.2.1 hd ht (fun z => by first | exact kk | exact absurd hm z | exact absurd hm (by simpa using z)) (fun z => by first | exact kk | exact absurd hm z | exact absurd hm (by simpa using z))
  · refine zz_At.pure zz_vd2 (fun a1 a2 a3 p l e R s m args below meth c C D n0 ad H locs cells slots ls Q hK hH hL kk => ?_) (h2 hc)
    have hm := fun z => hc ((zz_inj a1 hH h3 h9 (zz_vk_c.mp (zz_vk_c.mp a3).2).1 (zz_vk_c.mp a3).1).mp z)
    rw [List.map_cons, List.map_cons, zz_cv_rf ad h9, zz_cv_rf ad h9]
    exact lv_acmp_ne C.1 C.2.1 hd ht (fun z => by first | exact kk | exact absurd z hm | exact absurd (by simpa using z) hm) (fun z => by first | exact kk | exact absurd z hm | exact absurd (by simpa using z) hm)
theorem zs_switch {x d lo hi : Int} {offs : Array Int} {len : Nat} (hd : decode (zm_b M) pc = .ok (.tableswitch d lo hi offs, len))
    (h : (x < lo ∨ hi < x → ∃ tgt : Nat, (pc : Int) + d = (tgt : Int) ∧ zz_At M tgt lv sk σ r τ) ∧ (¬ x < lo → ¬ hi < x → ∃ (off : Int) (tgt : Nat), offs[(x - lo).toNat]? = some off ∧ (pc : Int) + off = (tgt : Int) ∧ zz_At M tgt lv sk σ r τ)) : zz_At M pc lv ((0, x) :: sk) σ r τ := by
  by_cases hc : x < lo ∨ hi < x
  · obtain ⟨tgt, ht, h⟩ := h.1 hc
    refine zz_At.pure zz_vd1 (fun a1 a2 a3 p l e R s m args below meth c C D n0 ad H locs cells slots ls Q hK hH hL k => ?_) h
    have e := zz_toI (zz_ok_i.mp (zz_vk_c.mp a3).1)
    exact lv_tableOut C.1 C.2.1 hd (by rw [e]; exact hc) ht k
  · obtain ⟨off, tgt, ho, ht, h⟩ := h.2 (fun z => hc (Or.inl z)) (fun z => hc (Or.inr z))
    refine zz_At.pure zz_vd1 (fun a1 a2 a3 p l e R s m args below meth c C D n0 ad H locs cells slots ls Q hK hH hL k => ?_) h
    have e := zz_toI (zz_ok_i.mp (zz_vk_c.mp a3).1)
    exact lv_tableIn C.1 C.2.1 hd (by rw [e]; exact fun z => hc (Or.inl z)) (by rw [e]; exact fun z => hc (Or.inr z)) (by rw [e]; exact ho) ht k
end ZROWS
