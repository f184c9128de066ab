section ZCALLS
variable {M M' : zz_M} {pc : Nat} {lv : List (Nat × zz_V)} {sk rest : List zz_V} {σ σ2 τ : zz_S} {r q : Int} {y : MethodName} {pt : List Nat} {vs : List Int}
theorem zz_null_ok {x : Int} (h : zz_ok σ (3000, x)) : x = 0 := h
theorem zz_ta_spec : ∀ (us : List Nat) (sk : List zz_V) (acc : List Int) (vs : List Int) (rest : List zz_V), zz_ta us sk acc = some (vs, rest) → ∃ ws : List Int, vs = ws ++ acc ∧ ws.length = us.length ∧ (zz_vs σ → zz_vk σ sk → zz_vk σ (us.reverse.zip ws) ∧ zz_vk σ rest ∧ ∀ ad, sk.map (zz_cv ad) = ((us.reverse.zip ws).map (zz_cv ad)).reverse ++ rest.map (zz_cv ad))
  | [], sk, acc, vs, rest, h => by
    cases h
    exact ⟨[], rfl, rfl, fun _ k => ⟨fun v hv => (by cases hv), k, fun _ => rfl⟩⟩
  | u :: us, [], acc, vs, rest, h => by cases h
  | u :: us, (t, x) :: sk, acc, vs, rest, h => by
    unfold zz_ta at h
    cases hb : (Nat.beq t u || (Nat.beq t 3000 && (Nat.ble 2 u && Nat.ble u 999))) with
    | false => rw [hb] at h; cases h
    | true =>
      rw [hb] at h
      obtain ⟨ws, e1, e2, e3⟩ := zz_ta_spec us sk (x :: acc) vs rest h
      refine ⟨ws ++ [x], by rw [e1]; simp, by simp [e2], fun a1 k => ?_⟩
      obtain ⟨k1, k2⟩ := zz_vk_c.mp k
      obtain ⟨f1, f2, f3⟩ := e3 a1 k2
      have ht : zz_ok σ (u, x) ∧ ∀ ad, zz_cv ad (t, x) = zz_cv ad (u, x) := by
        rw [Bool.or_eq_true] at hb
        rcases hb with hb | hb
        · have := Nat.eq_of_beq_eq_true hb
          subst this
          exact ⟨k1, fun _ => rfl⟩
        · rw [Bool.and_eq_true, Bool.and_eq_true] at hb
          obtain ⟨b1, b2, b3⟩ := hb
          have := Nat.eq_of_beq_eq_true b1
          subst this
          have b2 := Nat.le_of_ble_eq_true b2
          have b3 := Nat.le_of_ble_eq_true b3
          have := zz_null_ok k1
          subst this
          exact ⟨zz_ok_0 a1.2.2.1 b3, fun ad => by rw [zz_cv_0 ad (by omega), zz_cv_0 ad b2]⟩
      rw [List.reverse_cons, List.zip_append (by rw [List.length_reverse, e2])]
      refine ⟨fun v hv => ?_, f2, fun ad => ?_⟩
      · rcases List.mem_append.mp hv with hv | hv
        · exact f1 v hv
        · rw [List.mem_singleton.mp hv]
          exact ht.1
      · rw [List.map_append, List.reverse_append]
        show zz_cv ad (t, x) :: sk.map (zz_cv ad) = zz_cv ad (u, x) :: (_ ++ _)
        rw [ht.2 ad, f3 ad]
        rfl
theorem zz_sum {l : List zz_V} {ad : Nat → Int → Nat} (h : l.length ≤ 4) : ((l.map (zz_cv ad)).map fun v => v.category).sum ≤ 8 := by
  have : ∀ l : List zz_V, ((l.map (zz_cv ad)).map fun v => v.category).sum ≤ 2 * l.length := by
    intro l
    induction l with
    | nil => exact Nat.le_refl _
    | cons a l ih =>
      rw [List.map_cons, List.map_cons, List.sum_cons, List.length_cons]
      have := zz_catle (zz_cv ad a)
      omega
  have := this l
  omega
/-- the room of a call, and the words that a call hands on -/
theorem zz_room {R : Room} (h1 : zm_h M' + 1 ≤ zm_h M) (h2 : zm_l M' ≤ 7) (hf : zm_h M ≤ R.frames) (hl : 26 * zm_h M ≤ R.locals) : (zz_rm M' σ σ2).frames + 1 ≤ R.frames ∧ 8 + (zm_l M' + 11) + (zz_rm M' σ σ2).locals ≤ R.locals := by
  show zm_h M' + 1 ≤ _ ∧ 8 + (zm_l M' + 11) + 26 * zm_h M' ≤ _
  omega
theorem zz_gws (hc : Jvm.Cond.code y (zm_b M') (zm_l M') (zm_ret M') ∈ zz_tb) : GoodIn zz_tb (Jvm.Cond.code y (zm_b M') (zm_l M') (zm_ret M') :: zz_tb) := by
  intro w hw
  rcases List.mem_cons.mp hw with rfl | hw
  · exact ⟨hc, zz_tb_good hc⟩
  · exact ⟨hw, zz_tb_good hw⟩
def zz_cd (M M' : zz_M) (y : MethodName) (pt : List Nat) (n : Nat) : Prop := zm_h M' + 1 ≤ zm_h M ∧ zm_l M' ≤ 7 ∧ Jvm.Cond.code y (zm_b M') (zm_l M') (zm_ret M') ∈ zz_tb ∧ Jvm.Cond.initialized y.cls ∈ zz_tb ∧ y.cls ≠ "java/lang/invoke/MethodHandle" ∧ y.cls ≠ "java/lang/invoke/VarHandle" ∧ (parseMethodDescriptor y.desc).map (fun d => d.parameters.length) = some n
theorem zz_callB {R : Room} {s : State} {args : Array Value} {p : Program} {m : MethodId} {meth : Method} {c : Code} {n i : Nat} (C : zz_Cx M p R s m args meth c) (hd : zz_cd M M' y pt n) (hl : Jvm.Cond.methodLink (zm_own M) i y ∈ zz_tb) : CallB R s args (zm_own M) i y (zm_b M') (zm_l M') (zm_ret M') (Jvm.Cond.code y (zm_b M') (zm_l M') (zm_ret M') :: zz_tb) (zz_rm M' σ σ2) (zz_nc σ2 - zz_nc σ) (zz_ns σ2 - zz_ns σ) n :=
  callB_of n C.2.2.2.2.1 (zz_gws hd.2.2.1) rfl rfl rfl (C.2.2.2.2.1 _ hd.2.2.2.1) (C.2.2.2.2.1 _ hl) ⟨hd.2.2.2.2.1, hd.2.2.2.2.2.1, hd.2.2.2.2.2.2⟩ (zz_room hd.1 hd.2.1 C.2.2.2.2.2.2.2.1 C.2.2.2.2.2.2.2.2.1)
theorem zz_callN {R : Room} {s : State} {args : Array Value} {p : Program} {m : MethodId} {meth : Method} {c : Code} {n i : Nat} {D : va_G} {host : String} (C : zz_Cx M p R s m args meth c) (hK : zz_K D s) (hd : zz_cd M M' y pt n) (hl : (zm_own M, i, y, host) ∈ zz_nm) : va_CN R s args (zm_own M) i y host (zm_b M') (zm_l M') (zm_ret M') (Jvm.Cond.code y (zm_b M') (zm_l M') (zm_ret M') :: zz_tb) (zz_rm M' σ σ2) (zz_nc σ2 - zz_nc σ) (zz_ns σ2 - zz_ns σ) n :=
  va_cnB n C.2.2.2.2.1 (zz_gws hd.2.2.1) rfl rfl rfl (hK.2.2 _ hl) (C.2.2.2.2.1 _ hd.2.2.2.1) ⟨hd.2.2.2.2.1, hd.2.2.2.2.2.1, hd.2.2.2.2.2.2⟩ (zz_room hd.1 hd.2.1 C.2.2.2.2.2.2.2.1 C.2.2.2.2.2.2.2.2.1)
theorem zz_fix {R : Room} {s : State} {args : Array Value} {p : Program} {m : MethodId} {meth : Method} {c : Code} (C : zz_Cx M p R s m args meth c) : CallFix p m c (zm_b M) (zm_l M) s args zz_tb (zm_own M) := ⟨C.1, C.2.1, C.2.2.1, C.2.2.2.1, C.2.2.2.2.1⟩
/-- what is on the stack behind a call -/
theorem zz_s2 (hrr : zz_rr M') (a1 : zz_vs σ) (hr0 : zz_vk σ rest) (hz : zz_go M' σ q σ2) : zz_vk σ2 (if zm_rt M' = 999 then rest else (zm_rt M', q) :: rest) ∧ ∀ ad ad', zz_Ex σ ad ad' → (if zm_rt M' = 999 then rest else (zm_rt M', q) :: rest).map (zz_cv ad') = (zz_rv M' ad' q).head?.toList ++ rest.map (zz_cv ad) := by
  have hrest := hr0.mono hz.2.2.2.1
  unfold zz_rv
  split
  · rename_i e
    exact ⟨hrest, fun ad ad' hex => by rw [zz_map_ex a1 hr0 hex]; rfl⟩
  · rename_i e
    exact ⟨zz_vk_c.mpr ⟨hz.2.1 e, hrest⟩, fun ad ad' hex => by rw [List.map_cons, zz_map_ex a1 hr0 hex]; rfl⟩
theorem zs_static {i n : Nat} (hM : zz_MOK y M' pt vs σ q σ2) (hsd : zm_sd M' = zm_sd M ∨ zm_sd M = 2) (hrr : zz_rr M') (hta : zz_ta pt.reverse sk [] = some (vs, rest)) (hr4 : rest.length ≤ 4) (hcd : zz_cd M M' y pt n) (hn : n = pt.length) (hst : Jvm.Cond.static y ∈ zz_tb) (hl : Jvm.Cond.methodLink (zm_own M) i y ∈ zz_tb ∨ ∃ host, (zm_own M, i, y, host) ∈ zz_nm) (hd : decode (zm_b M) pc = .ok (.invokestatic i, 3)) (h : zz_At M (pc + 3) lv (if zm_rt M' = 999 then rest else (zm_rt M', q) :: rest) σ2 r τ) : zz_At M pc lv sk σ r τ := by
  obtain ⟨ws, e1, e2, e3⟩ := zz_ta_spec (σ := σ) _ _ _ _ _ hta
  rw [List.append_nil] at e1
  subst e1
  rw [List.reverse_reverse] at e3
  rw [List.length_reverse] at e2
  refine zs_call hM e2 hsd hrr (fun a1 a3 => ⟨(e3 a1 a3).1, (e3 a1 a3).2.1⟩) (fun a1 a3 hz => zz_s2 hrr a1 (e3 a1 a3).2.1 hz) (fun a1 a3 hz p l e R s m args below meth c C D n0 ad H locs cells slots ls hK hH hls hcl hsl => ?_) h
  obtain ⟨f1, f2, f3⟩ := e3 a1 a3
  obtain ⟨-, hMet⟩ := hM e2 a1 f1
  have hp : PreS s H (zz_Pc D n0 ad σ (pt.zip vs)) ((pt.zip vs).map (zz_cv ad)) := ⟨zz_Pc_blind, fun U hU hW => ⟨rfl, hK.warm hW, by rw [hU]; exact hH.moved hW.alike⟩⟩
  have hlen : ((pt.zip vs).map (zz_cv ad)).length = n := by
    rw [List.length_map, List.length_zip, hn]
    omega
  rcases hl with hl | ⟨host, hl⟩
  · exact ⟨_, va_runS (As := (pt.zip vs).map (zz_cv ad)) (rest := rest.map (zz_cv ad)) (zz_fix C) (hMet l D n0 ad) ⟨zz_callB C hcd hl, C.2.2.2.2.1 _ hst⟩ hp rfl hlen hls (f3 ad) (lv_room (zz_sum hr4)) hd ⟨hcl, hsl⟩⟩
  · exact ⟨_, va_runSN (As := (pt.zip vs).map (zz_cv ad)) (rest := rest.map (zz_cv ad)) (zz_fix C) (hMet l D n0 ad) ⟨zz_callN C hK hcd hl, C.2.2.2.2.1 _ hst, trivial⟩ hp rfl hlen hls (f3 ad) (lv_room (zz_sum hr4)) hd ⟨hcl, hsl⟩⟩
theorem zs_virtual {i n k : Nat} {x : Int} {us : List Nat} {xs : List Int} {Cq : vw_C} (hpt : pt = (2 + k) :: us) (hvs : vs = x :: xs) (hx : ¬ x = 0) (hq : zz_ob k Cq) (hy : y.cls = Cq.1) (hM : zz_MOK y M' pt vs σ q σ2) (hsd : zm_sd M' = zm_sd M ∨ zm_sd M = 2) (hrr : zz_rr M') (hta : zz_ta pt.reverse sk [] = some (vs, rest)) (hr4 : rest.length ≤ 4) (hcd : zz_cd M M' y pt n) (hn : n + 1 = pt.length) (hin : Jvm.Cond.instanceMethod y ∈ zz_tb) (hse : ∀ (s : State) (args : Array Value), (∀ w ∈ zz_tb, w.before args s = true) → (Jvm.Cond.selects y.cls y y).before args s = true) (hl : Jvm.Cond.methodLink (zm_own M) i y ∈ zz_tb) (hd : decode (zm_b M) pc = .ok (.invokevirtual i, 3)) (h : zz_At M (pc + 3) lv (if zm_rt M' = 999 then rest else (zm_rt M', q) :: rest) σ2 r τ) : zz_At M pc lv sk σ r τ := by
  obtain ⟨ws, e1, e2, e3⟩ := zz_ta_spec (σ := σ) _ _ _ _ _ hta
  rw [List.append_nil] at e1
  subst e1
  rw [List.reverse_reverse] at e3
  rw [List.length_reverse] at e2
  refine zs_call hM e2 hsd hrr (fun a1 a3 => ⟨(e3 a1 a3).1, (e3 a1 a3).2.1⟩) (fun a1 a3 hz => zz_s2 hrr a1 (e3 a1 a3).2.1 hz) (fun a1 a3 hz p l e R s m args below meth c C D n0 ad H locs cells slots ls hK hH hls hcl hsl => ?_) h
  obtain ⟨f1, f2, f3⟩ := e3 a1 a3
  obtain ⟨-, hMet⟩ := hM e2 a1 f1
  subst hpt
  subst hvs
  have hok : zz_ok σ (2 + k, x) := f1 _ (by simp)
  obtain ⟨i1, i2, -⟩ := zz_kid a1 hq.2.2.2 hok hx
  obtain ⟨⟨cell, g1, g2⟩, -⟩ := hH.2.1 k x i1 i2
  have hz1 : (((2 + k) :: us).zip (x :: xs)).map (zz_cv ad) = .ref (ad k x) :: (us.zip xs).map (zz_cv ad) := by
    rw [List.zip_cons_cons, List.map_cons, zz_cv_r ad hq.2.2.2 hx]
  have hp : PreV s H y.cls (ad k x) (zz_Pc D n0 ad σ (((2 + k) :: us).zip (x :: xs))) ((us.zip xs).map (zz_cv ad)) := by
    refine ⟨zz_Pc_blind, ⟨cell, g1, ?_⟩, fun U hU hW => ⟨by rw [hz1], hK.warm hW, by rw [hU]; exact hH.moved hW.alike⟩⟩
    rcases g2 with ⟨-, w1, w2, -⟩ | ⟨w0, -⟩
    · obtain ⟨-, hfc, -⟩ := hK.1 _ _ hq.2.1
      exact ⟨by rw [w2]; rfl, by rw [w1, hy]; exact hfc⟩
    · exact absurd hq.1 w0
  have hlen : ((us.zip xs).map (zz_cv ad)).length = n := by
    simp only [List.length_cons] at e2 hn
    rw [List.length_map, List.length_zip]
    omega
  exact ⟨_, va_runV (As := (us.zip xs).map (zz_cv ad)) (rest := rest.map (zz_cv ad)) (zz_fix C) (hMet l D n0 ad) ⟨zz_callB C hcd hl, C.2.2.2.2.1 _ hin, hse s args C.2.2.2.2.1⟩ hp rfl hlen hls (by rw [f3 ad, hz1]; simp) (lv_room (zz_sum hr4)) hd ⟨hcl, hsl⟩⟩
theorem zz_un_vk {k : Nat} (hk : k ≤ 900) (hm : ∀ x, zz_ok σ (1000 + k, x) → zz_ok σ (2 + k, x)) : ∀ l : List zz_V, zz_vk σ l → zz_vk σ (zz_un (1000 + k) l)
  | [], h => h
  | (u, x) :: l, h => by
    obtain ⟨h1, h2⟩ := zz_vk_c.mp h
    refine zz_vk_c.mpr ⟨?_, zz_un_vk hk hm l h2⟩
    cases hb : Nat.beq u (1000 + k) with
    | false => exact h1
    | true =>
      have := Nat.eq_of_beq_eq_true hb
      subst this
      show zz_ok σ (1000 + k - 998, x)
      rw [show 1000 + k - 998 = 2 + k by omega]
      exact hm x h1
theorem zz_un_cv {k : Nat} (hk : k ≤ 900) (ad : Nat → Int → Nat) : ∀ l : List zz_V, (zz_un (1000 + k) l).map (zz_cv ad) = l.map (zz_cv ad)
  | [] => rfl
  | (u, x) :: l => by
    show zz_cv ad (cond (Nat.beq u (1000 + k)) (1000 + k - 998) u, x) :: (zz_un (1000 + k) l).map (zz_cv ad) = zz_cv ad (u, x) :: l.map (zz_cv ad)
    rw [zz_un_cv hk ad l]
    congr 1
    cases hb : Nat.beq u (1000 + k) with
    | false => rfl
    | true =>
      have := Nat.eq_of_beq_eq_true hb
      subst this
      show zz_cv ad (1000 + k - 998, x) = _
      rw [show 1000 + k - 998 = 2 + k by omega]
      by_cases hx : x = 0
      · subst hx
        rw [zz_cv_0 ad (by omega), zz_cv_0 ad (by omega)]
      · rw [zz_cv_r ad hk hx, zz_cv_w ad hx]
theorem zs_special {i n k : Nat} {x : Int} {us : List Nat} {xs : List Int} (hpt : pt = (1000 + k) :: us) (hvs : vs = x :: xs) (hk : k ≤ 900) (hall : zz_c σ2 k = zz_m σ2 k) (hM : zz_MOK y M' pt vs σ q σ2) (hsd : zm_sd M' = zm_sd M ∨ zm_sd M = 2) (hrr : zz_rr M') (hrt : zm_rt M' = 999) (hta : zz_ta pt.reverse sk [] = some (vs, rest)) (hr4 : rest.length ≤ 4) (hcd : zz_cd M M' y pt n) (hn : n + 1 = pt.length) (hin : Jvm.Cond.instanceMethod y ∈ zz_tb) (hy : y.name = "<init>") (hret : zm_ret M' = none) (hl : Jvm.Cond.methodLink (zm_own M) i y ∈ zz_tb ∨ ∃ host, (zm_own M, i, y, host) ∈ zz_nm) (hd : decode (zm_b M) pc = .ok (.invokespecial i, 3)) (h : zz_At M (pc + 3) lv (zz_un (1000 + k) rest) σ2 r τ) : zz_At M pc lv sk σ r τ := by
  obtain ⟨ws, e1, e2, e3⟩ := zz_ta_spec (σ := σ) _ _ _ _ _ hta
  rw [List.append_nil] at e1
  subst e1
  rw [List.reverse_reverse] at e3
  rw [List.length_reverse] at e2
  have hs2 : zz_vs σ → zz_vk σ sk → zz_go M' σ q σ2 → zz_vk σ2 (zz_un (1000 + k) rest) ∧ ∀ ad ad', zz_Ex σ ad ad' → (zz_un (1000 + k) rest).map (zz_cv ad') = (zz_rv M' ad' q).head?.toList ++ rest.map (zz_cv ad) := by
    intro a1 a3 hz
    obtain ⟨f1, f2, f3⟩ := e3 a1 a3
    refine ⟨zz_un_vk hk (fun x hx => ?_) _ (f2.mono hz.2.2.2.1), fun ad ad' hex => ?_⟩
    · have := zz_wid hk hx
      refine (zz_ok_r (by omega) (by omega)).mpr ?_
      rw [show 2 + k - 2 = k by omega]
      omega
    · rw [zz_un_cv hk, zz_map_ex a1 f2 hex]
      unfold zz_rv
      rw [if_pos hrt]
      rfl
  refine zs_call hM e2 hsd hrr (fun a1 a3 => ⟨(e3 a1 a3).1, (e3 a1 a3).2.1⟩) hs2 (fun a1 a3 hz p l e R s m args below meth c C D n0 ad H locs cells slots ls hK hH hls hcl hsl => ?_) h
  obtain ⟨f1, f2, f3⟩ := e3 a1 a3
  obtain ⟨-, hMet⟩ := hM e2 a1 f1
  subst hpt
  subst hvs
  have hok : zz_ok σ (1000 + k, x) := f1 _ (by simp)
  obtain ⟨i1, i2⟩ := zz_wid hk hok
  have hz1 : (((1000 + k) :: us).zip (x :: xs)).map (zz_cv ad) = .ref (ad k x) :: (us.zip xs).map (zz_cv ad) := by
    rw [List.zip_cons_cons, List.map_cons, zz_cv_w ad (by omega)]
  have hp : PreS s H (zz_Pc D n0 ad σ (((1000 + k) :: us).zip (x :: xs))) (.ref (ad k x) :: (us.zip xs).map (zz_cv ad)) := ⟨zz_Pc_blind, fun U hU hW => ⟨by rw [hz1], hK.warm hW, by rw [hU]; exact hH.moved hW.alike⟩⟩
  have hlen : ((us.zip xs).map (zz_cv ad)).length = n := by
    simp only [List.length_cons] at e2 hn
    rw [List.length_map, List.length_zip]
    omega
  rcases hl with hl | ⟨host, hl⟩
  · have cb := zz_callB (σ := σ) (σ2 := σ2) C hcd hl
    have hm := hMet l D n0 ad
    rw [hret] at cb hm
    exact ⟨_, va_runI (As := (us.zip xs).map (zz_cv ad)) (rest := rest.map (zz_cv ad)) (zz_fix C) hm ⟨cb, hy, C.2.2.2.2.1 _ hin⟩ hp rfl hlen hls (by rw [f3 ad, hz1]; simp) (lv_room (zz_sum hr4)) hd ⟨hcl, hsl⟩⟩
  · have cb := zz_callN (σ := σ) (σ2 := σ2) C hK hcd hl
    have hm := hMet l D n0 ad
    rw [hret] at cb hm
    exact ⟨_, va_runIN (As := (us.zip xs).map (zz_cv ad)) (rest := rest.map (zz_cv ad)) (zz_fix C) hm ⟨cb, hy, C.2.2.2.2.1 _ hin⟩ hp rfl hlen hls (by rw [f3 ad, hz1]; simp) (lv_room (zz_sum hr4)) hd ⟨hcl, hsl⟩⟩
theorem zs_objinit {i u : Nat} {x : Int} (hu : 1000 ≤ u ∧ u ≤ 1900) (hr4 : rest.length ≤ 4) (hh : 1 ≤ zm_h M) (hl : Jvm.Cond.methodLink (zm_own M) i objectInit ∈ zz_tb) (hin : Jvm.Cond.instanceMethod objectInit ∈ zz_tb) (hc : Jvm.Cond.code objectInit ⟨#[0xb1]⟩ 1 none ∈ zz_tb) (hd : decode (zm_b M) pc = .ok (.invokespecial i, 3)) (h : zz_At M (pc + 3) lv rest σ r τ) : zz_At M pc lv ((u, x) :: rest) σ r τ := by
  refine zz_At.pure zz_vd1 (fun a1 a2 a3 p l e R s m args below meth c C D n0 ad H locs cells slots ls Q hK hH hL kk => ?_) h
  have hok := (zz_vk_c.mp a3).1
  obtain ⟨k, rfl⟩ : ∃ k, u = 1000 + k := ⟨u - 1000, by omega⟩
  have := zz_wid (k := k) (by omega) hok
  rw [List.map_cons, zz_cv_w ad (by omega)]
  have hs := zz_sum (l := rest) (ad := ad) hr4
  refine W.objInit C.1 C.2.1 C.2.2.2.1 (C.2.2.2.2.1 _ hl) (C.2.2.2.2.1 _ hin) (C.2.2.2.2.1 _ hc) rfl (by rw [C.2.2.1]; exact hL.1.1) rfl hd (by have := C.2.2.2.2.2.2.2.1; omega) ?_ kk
  have := C.2.2.2.2.2.2.2.2.1
  show 2 * 0 + _ + 12 ≤ _
  omega
end ZCALLS
