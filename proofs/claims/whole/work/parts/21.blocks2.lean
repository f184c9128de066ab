def zk_xP_placeOf : List zz_E := [(0, false, .iconst 0, 1, 0, (0, 0, 0, 0), 0, []),
  (1, false, .istore_n 3, 1, 0, (0, 0, 0, 0), 0, []),
  (2, true, .iload_n 3, 1, 0, (0, 0, 0, 0), 0, []),
  (3, false, .aload_n 0, 1, 0, (0, 0, 0, 0), 0, []),
  (4, false, .getfield 21, 3, 152, (6, 3, 0, 0), 0, []),
  (7, false, .if_icmp .ge 31, 3, 0, (38, 0, 0, 0), 0, []),
  (10, false, .aload_n 0, 1, 0, (0, 0, 0, 0), 0, []),
  (11, false, .getfield 9, 3, 149, (6, 0, 27, 1), 0, []),
  (14, false, .iload_n 3, 1, 0, (0, 0, 0, 0), 0, []),
  (15, false, .iaload, 1, 0, (25, 0, 0, 0), 0, []),
  (16, false, .iload_n 1, 1, 0, (0, 0, 0, 0), 0, []),
  (17, false, .if_icmp .ne 15, 3, 0, (32, 0, 0, 0), 0, []),
  (20, false, .aload_n 0, 1, 0, (0, 0, 0, 0), 0, []),
  (21, false, .getfield 15, 3, 150, (6, 1, 28, 1), 0, []),
  (24, false, .iload_n 3, 1, 0, (0, 0, 0, 0), 0, []),
  (25, false, .iaload, 1, 0, (26, 0, 0, 0), 0, []),
  (26, false, .iload_n 2, 1, 0, (0, 0, 0, 0), 0, []),
  (27, false, .if_icmp .ne 5, 3, 0, (32, 0, 0, 0), 0, []),
  (30, false, .iload_n 3, 1, 0, (0, 0, 0, 0), 0, []),
  (31, false, .ireturn, 1, 0, (0, 0, 0, 0), 0, []),
  (32, false, .iinc 3 1, 3, 0, (0, 0, 0, 0), 0, []),
  (35, false, .goto (-33), 3, 0, (2, 0, 0, 0), 0, []),
  (38, false, .aload_n 0, 1, 0, (0, 0, 0, 0), 0, []),
  (39, false, .getfield 21, 3, 152, (6, 3, 0, 0), 0, []),
  (42, false, .ireturn, 1, 0, (0, 0, 0, 0), 0, [])]
theorem zc_xP_placeOf : zk_xP_placeOf.all (zz_ck zz_inf zM_xP_placeOf) = true ∧ zz_ch zk_xP_placeOf = true := ⟨by decide +kernel, by decide +kernel⟩
noncomputable def xP_placeOf_2 : Nat → Int → Int → Int → zz_S → zz_R
  | 0, _, _, _, _ => none
  | n + 1, v1, v2, v3, σ => (if v3 < (zz_h σ 6 1 3) then (if zz_b σ 25 1 v3 then (if (zz_h σ 25 1 v3) = v1 then (if zz_b σ 26 1 v3 then (if (zz_h σ 26 1 v3) = v2 then (some (v3, σ)) else (xP_placeOf_2 n v1 v2 (zz_r (v3 + 1)) σ)) else none) else (xP_placeOf_2 n v1 v2 (zz_r (v3 + 1)) σ)) else none) else (some ((zz_h σ 6 1 3), σ)))
set_option maxRecDepth 100000 in
set_option maxHeartbeats 4000000 in
theorem ze_xP_placeOf_2 (n : Nat) (v1 v2 v3 : Int) (σ : zz_S) : xP_placeOf_2 (n + 1) v1 v2 v3 σ = zz_ev (zz_CE []) (zz_KE [(2, [(0, 8, true), (1, 0, false), (2, 0, false), (3, 0, false)], zz_f3 (xP_placeOf_2 n))]) zk_xP_placeOf 0 false 0 0 400 true (zz_sk zk_xP_placeOf 2) [(0, 8, 1), (1, 0, v1), (2, 0, v2), (3, 0, v3)] [] σ := rfl
theorem zo_xP_placeOf_2 : ∀ n : Nat, zz_okb zM_xP_placeOf 2 [(0, 8, true), (1, 0, false), (2, 0, false), (3, 0, false)] (zz_f3 (xP_placeOf_2 n))
  | 0 => fun vs σ r τ h => by
    obtain ⟨v1, v2, v3, rfl, h⟩ := zz_f3_ok h
    exact nomatch (show (none : zz_R) = some (r, τ) from h)
  | n + 1 => by
    have ih := zo_xP_placeOf_2 n
    exact fun vs σ r τ h => by
        obtain ⟨v1, v2, v3, rfl, h⟩ := zz_f3_ok h
        exact zz_from zc_xP_placeOf zz_oc0 (zz_olc ih zz_ol0) ((ze_xP_placeOf_2 n v1 v2 v3 σ).symm.trans h)
noncomputable def xP_placeOf (v1 v2 : Int) (σ : zz_S) : zz_R := (xP_placeOf_2 zz_fu v1 v2 0 σ)
set_option maxRecDepth 100000 in
set_option maxHeartbeats 4000000 in
theorem ze_xP_placeOf (v1 v2 : Int) (σ : zz_S) : xP_placeOf v1 v2 σ = zz_ev (zz_CE []) (zz_KE [(2, [(0, 8, true), (1, 0, false), (2, 0, false), (3, 0, false)], zz_f3 (xP_placeOf_2 zz_fu))]) zk_xP_placeOf 0 false 0 0 400 true (zz_sk zk_xP_placeOf 0) [(0, 8, 1), (1, 0, v1), (2, 0, v2)] [] σ := rfl
theorem zo_xP_placeOf : zz_okb zM_xP_placeOf 0 [(0, 8, true), (1, 0, false), (2, 0, false)] (zz_f2 xP_placeOf) :=
  fun vs σ r τ h => by
    obtain ⟨v1, v2, rfl, h⟩ := zz_f2_ok h
    exact zz_from zc_xP_placeOf zz_oc0 (zz_olc (zo_xP_placeOf_2 zz_fu) zz_ol0) ((ze_xP_placeOf v1 v2 σ).symm.trans h)
noncomputable def zw_xP_placeOf : List Int → zz_S → zz_R := zz_f3 fun a0 a1 a2 σ => if a0 = 1 then xP_placeOf a1 a2 σ else none
theorem zo_m_xP_placeOf : zz_okm zz_inf 84 zw_xP_placeOf := fun vs σ r τ h => by
  obtain ⟨a0, a1, a2, rfl, h⟩ := zz_f3_ok h
  obtain ⟨e, h⟩ := zz_it h
  subst e
  exact zz_meth zi_xP_placeOf zy_xP_placeOf (zo_xP_placeOf [a1, a2] σ r τ h)
def zk_j_max : List zz_E := [(0, false, .iload_n 0, 1, 0, (0, 0, 0, 0), 0, []),
  (1, false, .iload_n 1, 1, 0, (0, 0, 0, 0), 0, []),
  (2, false, .if_icmp .lt 7, 3, 0, (9, 0, 0, 0), 0, []),
  (5, false, .iload_n 0, 1, 0, (0, 0, 0, 0), 0, []),
  (6, false, .goto 4, 3, 0, (10, 0, 0, 0), 0, []),
  (9, false, .iload_n 1, 1, 0, (0, 0, 0, 0), 0, []),
  (10, false, .ireturn, 1, 0, (0, 0, 0, 0), 0, [])]
theorem zc_j_max : zk_j_max.all (zz_ck zz_inf zM_j_max) = true ∧ zz_ch zk_j_max = true := ⟨by decide +kernel, by decide +kernel⟩
noncomputable def j_max (v0 v1 : Int) (σ : zz_S) : zz_R := (if v0 < v1 then (some (v1, σ)) else (some (v0, σ)))
set_option maxRecDepth 100000 in
set_option maxHeartbeats 4000000 in
theorem ze_j_max (v0 v1 : Int) (σ : zz_S) : j_max v0 v1 σ = zz_ev (zz_CE []) (zz_KE []) zk_j_max 0 false 0 0 400 true (zz_sk zk_j_max 0) [(0, 0, v0), (1, 0, v1)] [] σ := rfl
theorem zo_j_max : zz_okb zM_j_max 0 [(0, 0, false), (1, 0, false)] (zz_f2 j_max) :=
  fun vs σ r τ h => by
    obtain ⟨v0, v1, rfl, h⟩ := zz_f2_ok h
    exact zz_from zc_j_max zz_oc0 zz_ol0 ((ze_j_max v0 v1 σ).symm.trans h)
noncomputable def zw_j_max : List Int → zz_S → zz_R := zz_f2 fun a0 a1 σ => j_max a0 a1 σ
theorem zo_m_j_max : zz_okm zz_inf 168 zw_j_max := fun vs σ r τ h => by
  obtain ⟨a0, a1, rfl, h⟩ := zz_f2_ok h
  exact zz_meth zi_j_max zy_j_max (zo_j_max [a0, a1] σ r τ h)
def zk_xP_put : List zz_E := [(0, false, .aload_n 0, 1, 0, (0, 0, 0, 0), 0, []),
  (1, false, .iload_n 1, 1, 0, (0, 0, 0, 0), 0, []),
  (2, false, .iload_n 2, 1, 0, (0, 0, 0, 0), 0, []),
  (3, false, .invokevirtual 25, 3, 441, (84, 3, 0, 0), 0, [0, 0, 8]),
  (6, false, .istore 4, 2, 0, (0, 0, 0, 0), 0, []),
  (8, false, .iload 4, 2, 0, (0, 0, 0, 0), 0, []),
  (10, false, .bipush 40, 2, 0, (0, 0, 0, 0), 0, []),
  (12, false, .if_icmp .lt 5, 3, 0, (17, 0, 0, 0), 0, []),
  (15, false, .iconst 0, 1, 0, (0, 0, 0, 0), 0, []),
  (16, false, .ireturn, 1, 0, (0, 0, 0, 0), 0, []),
  (17, false, .aload_n 0, 1, 0, (0, 0, 0, 0), 0, []),
  (18, false, .getfield 9, 3, 149, (6, 0, 27, 1), 0, []),
  (21, false, .iload 4, 2, 0, (0, 0, 0, 0), 0, []),
  (23, false, .iload_n 1, 1, 0, (0, 0, 0, 0), 0, []),
  (24, false, .iastore, 1, 0, (25, 0, 0, 0), 0, []),
  (25, false, .aload_n 0, 1, 0, (0, 0, 0, 0), 0, []),
  (26, false, .getfield 15, 3, 150, (6, 1, 28, 1), 0, []),
  (29, false, .iload 4, 2, 0, (0, 0, 0, 0), 0, []),
  (31, false, .iload_n 2, 1, 0, (0, 0, 0, 0), 0, []),
  (32, false, .iastore, 1, 0, (26, 0, 0, 0), 0, []),
  (33, false, .aload_n 0, 1, 0, (0, 0, 0, 0), 0, []),
  (34, false, .getfield 18, 3, 151, (6, 2, 29, 1), 0, []),
  (37, false, .iload 4, 2, 0, (0, 0, 0, 0), 0, []),
  (39, false, .iload_n 3, 1, 0, (0, 0, 0, 0), 0, []),
  (40, false, .iastore, 1, 0, (27, 0, 0, 0), 0, []),
  (41, false, .aload_n 0, 1, 0, (0, 0, 0, 0), 0, []),
  (42, false, .aload_n 0, 1, 0, (0, 0, 0, 0), 0, []),
  (43, false, .getfield 21, 3, 152, (6, 3, 0, 0), 0, []),
  (46, false, .iload 4, 2, 0, (0, 0, 0, 0), 0, []),
  (48, false, .iconst 1, 1, 0, (0, 0, 0, 0), 0, []),
  (49, false, .iadd, 1, 0, (0, 0, 0, 0), 0, []),
  (50, false, .invokestatic 29, 3, 445, (168, 2, 0, 0), 0, [0, 0]),
  (53, false, .putfield 21, 3, 152, (6, 3, 0, 0), 0, []),
  (56, false, .iconst 1, 1, 0, (0, 0, 0, 0), 0, []),
  (57, false, .ireturn, 1, 0, (0, 0, 0, 0), 0, [])]
theorem zc_xP_put : zk_xP_put.all (zz_ck zz_inf zM_xP_put) = true ∧ zz_ch zk_xP_put = true := ⟨by decide +kernel, by decide +kernel⟩
noncomputable def xP_put (v1 v2 v3 : Int) (σ : zz_S) : zz_R := ((xP_placeOf v1 v2 σ).bind fun q1 => (if q1.1 < 40 then (if zz_b q1.2 25 1 q1.1 then (let s2 := zz_w q1.2 25 1 q1.1 v1; (if zz_b s2 26 1 q1.1 then (let s3 := zz_w s2 26 1 q1.1 v2; (if zz_b s3 27 1 q1.1 then (let s4 := zz_w s3 27 1 q1.1 v3; ((j_max (zz_h s4 6 1 3) (zz_r (q1.1 + 1)) s4).bind fun q5 => (let s6 := zz_w q5.2 6 1 3 q5.1; (some (1, s6))))) else none)) else none)) else none) else (some (0, q1.2))))
set_option maxRecDepth 100000 in
set_option maxHeartbeats 4000000 in
theorem ze_xP_put (v1 v2 v3 : Int) (σ : zz_S) : xP_put v1 v2 v3 σ = zz_ev (zz_CE [(84, zw_xP_placeOf), (168, zw_j_max)]) (zz_KE []) zk_xP_put 0 true 0 0 400 true (zz_sk zk_xP_put 0) [(0, 8, 1), (1, 0, v1), (2, 0, v2), (3, 0, v3)] [] σ := rfl
theorem zo_xP_put : zz_okb zM_xP_put 0 [(0, 8, true), (1, 0, false), (2, 0, false), (3, 0, false)] (zz_f3 xP_put) :=
  fun vs σ r τ h => by
    obtain ⟨v1, v2, v3, rfl, h⟩ := zz_f3_ok h
    exact zz_from zc_xP_put (zz_occ zo_m_xP_placeOf (zz_occ zo_m_j_max zz_oc0)) zz_ol0 ((ze_xP_put v1 v2 v3 σ).symm.trans h)
noncomputable def zw_xP_put : List Int → zz_S → zz_R := zz_f4 fun a0 a1 a2 a3 σ => if a0 = 1 then xP_put a1 a2 a3 σ else none
theorem zo_m_xP_put : zz_okm zz_inf 85 zw_xP_put := fun vs σ r τ h => by
  obtain ⟨a0, a1, a2, a3, rfl, h⟩ := zz_f4_ok h
  obtain ⟨e, h⟩ := zz_it h
  subst e
  exact zz_meth zi_xP_put zy_xP_put (zo_xP_put [a1, a2, a3] σ r τ h)
def zk_x_plan : List zz_E := [(0, false, .aload_n 0, 1, 0, (0, 0, 0, 0), 0, []),
  (1, false, .iload_n 1, 1, 0, (0, 0, 0, 0), 0, []),
  (2, false, .invokevirtual 100, 3, 385, (73, 2, 9, 0), 0, [0, 5]),
  (5, false, .ifnull 13, 3, 0, (18, 0, 0, 0), 0, []),
  (8, false, .iload_n 2, 1, 0, (0, 0, 0, 0), 0, []),
  (9, false, .iconst 1, 1, 0, (0, 0, 0, 0), 0, []),
  (10, false, .bipush 50, 2, 0, (0, 0, 0, 0), 0, []),
  (12, false, .invokestatic 91, 3, 228, (72, 3, 0, 0), 0, [0, 0, 0]),
  (15, false, .ifCond .ne 6, 3, 0, (21, 0, 0, 0), 0, []),
  (18, false, .bipush (-2), 2, 0, (0, 0, 0, 0), 0, []),
  (20, false, .ireturn, 1, 0, (0, 0, 0, 0), 0, []),
  (21, false, .iload_n 3, 1, 0, (0, 0, 0, 0), 0, []),
  (22, false, .iconst 0, 1, 0, (0, 0, 0, 0), 0, []),
  (23, false, .bipush 15, 2, 0, (0, 0, 0, 0), 0, []),
  (25, false, .invokestatic 91, 3, 228, (72, 3, 0, 0), 0, [0, 0, 0]),
  (28, false, .ifCond .ne 6, 3, 0, (34, 0, 0, 0), 0, []),
  (31, false, .bipush (-2), 2, 0, (0, 0, 0, 0), 0, []),
  (33, false, .ireturn, 1, 0, (0, 0, 0, 0), 0, []),
  (34, false, .aload_n 0, 1, 0, (0, 0, 0, 0), 0, []),
  (35, false, .getfield 41, 3, 168, (3, 5, 8, 1), 0, []),
  (38, false, .iload_n 1, 1, 0, (0, 0, 0, 0), 0, []),
  (39, false, .iload_n 2, 1, 0, (0, 0, 0, 0), 0, []),
  (40, false, .iload_n 3, 1, 0, (0, 0, 0, 0), 0, []),
  (41, false, .invokevirtual 168, 3, 437, (85, 4, 0, 0), 0, [0, 0, 0, 8]),
  (44, false, .ifCond .eq 13, 3, 0, (57, 0, 0, 0), 0, []),
  (47, false, .aload_n 0, 1, 0, (0, 0, 0, 0), 0, []),
  (48, false, .getfield 41, 3, 168, (3, 5, 8, 1), 0, []),
  (51, false, .getfield 171, 3, 153, (6, 3, 0, 0), 0, []),
  (54, false, .goto 5, 3, 0, (59, 0, 0, 0), 0, []),
  (57, false, .bipush (-4), 2, 0, (0, 0, 0, 0), 0, []),
  (59, false, .ireturn, 1, 0, (0, 0, 0, 0), 0, [])]
theorem zc_x_plan : zk_x_plan.all (zz_ck zz_inf zM_x_plan) = true ∧ zz_ch zk_x_plan = true := ⟨by decide +kernel, by decide +kernel⟩
noncomputable def x_plan (v1 v2 v3 : Int) (σ : zz_S) : zz_R := ((x_taskAt v1 σ).bind fun q1 => (if q1.1 = 0 then (some ((-2), q1.2)) else ((x_isWithin v2 1 50 q1.2).bind fun q2 => (if q2.1 = 0 then (some ((-2), q2.2)) else ((x_isWithin v3 0 15 q2.2).bind fun q3 => (if q3.1 = 0 then (some ((-2), q3.2)) else ((xP_put v1 v2 v3 q3.2).bind fun q4 => (if q4.1 = 0 then (some ((-4), q4.2)) else (some ((zz_h q4.2 6 1 3), q4.2))))))))))
set_option maxRecDepth 100000 in
set_option maxHeartbeats 4000000 in
theorem ze_x_plan (v1 v2 v3 : Int) (σ : zz_S) : x_plan v1 v2 v3 σ = zz_ev (zz_CE [(72, zw_x_isWithin), (73, zw_x_taskAt), (85, zw_xP_put)]) (zz_KE []) zk_x_plan 0 false 0 0 400 true (zz_sk zk_x_plan 0) [(0, 5, 1), (1, 0, v1), (2, 0, v2), (3, 0, v3)] [] σ := rfl
theorem zo_x_plan : zz_okb zM_x_plan 0 [(0, 5, true), (1, 0, false), (2, 0, false), (3, 0, false)] (zz_f3 x_plan) :=
  fun vs σ r τ h => by
    obtain ⟨v1, v2, v3, rfl, h⟩ := zz_f3_ok h
    exact zz_from zc_x_plan (zz_occ zo_m_x_isWithin (zz_occ zo_m_x_taskAt (zz_occ zo_m_xP_put zz_oc0))) zz_ol0 ((ze_x_plan v1 v2 v3 σ).symm.trans h)
noncomputable def zw_x_plan : List Int → zz_S → zz_R := zz_f4 fun a0 a1 a2 a3 σ => if a0 = 1 then x_plan a1 a2 a3 σ else none
theorem zo_m_x_plan : zz_okm zz_inf 22 zw_x_plan := fun vs σ r τ h => by
  obtain ⟨a0, a1, a2, a3, rfl, h⟩ := zz_f4_ok h
  obtain ⟨e, h⟩ := zz_it h
  subst e
  exact zz_meth zi_x_plan zy_x_plan (zo_x_plan [a1, a2, a3] σ r τ h)
def zk_x_clearPlan : List zz_E := [(0, false, .aload_n 0, 1, 0, (0, 0, 0, 0), 0, []),
  (1, false, .getfield 41, 3, 168, (3, 5, 8, 1), 0, []),
  (4, false, .getfield 171, 3, 153, (6, 3, 0, 0), 0, []),
  (7, false, .istore_n 1, 1, 0, (0, 0, 0, 0), 0, []),
  (8, false, .aload_n 0, 1, 0, (0, 0, 0, 0), 0, []),
  (9, false, .getfield 41, 3, 168, (3, 5, 8, 1), 0, []),
  (12, false, .iconst 0, 1, 0, (0, 0, 0, 0), 0, []),
  (13, false, .putfield 171, 3, 153, (6, 3, 0, 0), 0, []),
  (16, false, .iload_n 1, 1, 0, (0, 0, 0, 0), 0, []),
  (17, false, .ireturn, 1, 0, (0, 0, 0, 0), 0, [])]
theorem zc_x_clearPlan : zk_x_clearPlan.all (zz_ck zz_inf zM_x_clearPlan) = true ∧ zz_ch zk_x_clearPlan = true := ⟨by decide +kernel, by decide +kernel⟩
noncomputable def x_clearPlan (σ : zz_S) : zz_R := (let s1 := zz_w σ 6 1 3 0; (some ((zz_h σ 6 1 3), s1)))
set_option maxRecDepth 100000 in
set_option maxHeartbeats 4000000 in
theorem ze_x_clearPlan (σ : zz_S) : x_clearPlan σ = zz_ev (zz_CE []) (zz_KE []) zk_x_clearPlan 0 false 0 0 400 true (zz_sk zk_x_clearPlan 0) [(0, 5, 1)] [] σ := rfl
theorem zo_x_clearPlan : zz_okb zM_x_clearPlan 0 [(0, 5, true)] (zz_f0 x_clearPlan) :=
  fun vs σ r τ h => by
    obtain ⟨rfl, h⟩ := zz_f0_ok h
    exact zz_from zc_x_clearPlan zz_oc0 zz_ol0 ((ze_x_clearPlan σ).symm.trans h)
noncomputable def zw_x_clearPlan : List Int → zz_S → zz_R := zz_f1 fun a0 σ => if a0 = 1 then x_clearPlan σ else none
theorem zo_m_x_clearPlan : zz_okm zz_inf 23 zw_x_clearPlan := fun vs σ r τ h => by
  obtain ⟨a0, rfl, h⟩ := zz_f1_ok h
  obtain ⟨e, h⟩ := zz_it h
  subst e
  exact zz_meth zi_x_clearPlan zy_x_clearPlan (zo_x_clearPlan [] σ r τ h)
def zk_j_min : List zz_E := [(0, false, .iload_n 0, 1, 0, (0, 0, 0, 0), 0, []),
  (1, false, .iload_n 1, 1, 0, (0, 0, 0, 0), 0, []),
  (2, false, .if_icmp .gt 7, 3, 0, (9, 0, 0, 0), 0, []),
  (5, false, .iload_n 0, 1, 0, (0, 0, 0, 0), 0, []),
  (6, false, .goto 4, 3, 0, (10, 0, 0, 0), 0, []),
  (9, false, .iload_n 1, 1, 0, (0, 0, 0, 0), 0, []),
  (10, false, .ireturn, 1, 0, (0, 0, 0, 0), 0, [])]
theorem zc_j_min : zk_j_min.all (zz_ck zz_inf zM_j_min) = true ∧ zz_ch zk_j_min = true := ⟨by decide +kernel, by decide +kernel⟩
noncomputable def j_min (v0 v1 : Int) (σ : zz_S) : zz_R := (if v0 ≤ v1 then (some (v0, σ)) else (some (v1, σ)))
set_option maxRecDepth 100000 in
set_option maxHeartbeats 4000000 in
theorem ze_j_min (v0 v1 : Int) (σ : zz_S) : j_min v0 v1 σ = zz_ev (zz_CE []) (zz_KE []) zk_j_min 0 false 0 0 400 true (zz_sk zk_j_min 0) [(0, 0, v0), (1, 0, v1)] [] σ := rfl
theorem zo_j_min : zz_okb zM_j_min 0 [(0, 0, false), (1, 0, false)] (zz_f2 j_min) :=
  fun vs σ r τ h => by
    obtain ⟨v0, v1, rfl, h⟩ := zz_f2_ok h
    exact zz_from zc_j_min zz_oc0 zz_ol0 ((ze_j_min v0 v1 σ).symm.trans h)
noncomputable def zw_j_min : List Int → zz_S → zz_R := zz_f2 fun a0 a1 σ => j_min a0 a1 σ
theorem zo_m_j_min : zz_okm zz_inf 169 zw_j_min := fun vs σ r τ h => by
  obtain ⟨a0, a1, rfl, h⟩ := zz_f2_ok h
  exact zz_meth zi_j_min zy_j_min (zo_j_min [a0, a1] σ r τ h)
def zk_x_firstEnding : List zz_E := [(0, false, .iconst 0, 1, 0, (0, 0, 0, 0), 0, []),
  (1, false, .istore_n 1, 1, 0, (0, 0, 0, 0), 0, []),
  (2, true, .iload_n 1, 1, 0, (0, 0, 0, 0), 0, []),
  (3, false, .aload_n 0, 1, 0, (0, 0, 0, 0), 0, []),
  (4, false, .getfield 69, 3, 176, (3, 13, 0, 0), 0, []),
  (7, false, .if_icmp .ge 33, 3, 0, (40, 0, 0, 0), 0, []),
  (10, false, .aload_n 0, 1, 0, (0, 0, 0, 0), 0, []),
  (11, false, .getfield 21, 3, 165, (3, 2, 15, 1), 0, []),
  (14, false, .iload_n 1, 1, 0, (0, 0, 0, 0), 0, []),
  (15, false, .aaload, 1, 0, (13, 0, 12, 0), 0, []),
  (16, false, .astore_n 2, 1, 0, (0, 0, 0, 0), 0, []),
  (17, false, .aload_n 2, 1, 0, (0, 0, 0, 0), 0, []),
  (18, false, .ifnull 16, 3, 0, (34, 0, 0, 0), 0, []),
  (21, false, .aload_n 2, 1, 0, (0, 0, 0, 0), 0, []),
  (22, false, .getfield 200, 3, 644, (10, 5, 0, 0), 0, []),
  (25, false, .aload_n 0, 1, 0, (0, 0, 0, 0), 0, []),
  (26, false, .getfield 78, 3, 179, (3, 16, 0, 0), 0, []),
  (29, false, .if_icmp .ne 5, 3, 0, (34, 0, 0, 0), 0, []),
  (32, false, .aload_n 2, 1, 0, (0, 0, 0, 0), 0, []),
  (33, false, .areturn, 1, 0, (0, 0, 0, 0), 0, []),
  (34, false, .iinc 1 1, 3, 0, (0, 0, 0, 0), 0, []),
  (37, false, .goto (-35), 3, 0, (2, 0, 0, 0), 0, []),
  (40, false, .aconst_null, 1, 0, (0, 0, 0, 0), 0, []),
  (41, false, .areturn, 1, 0, (0, 0, 0, 0), 0, [])]
theorem zc_x_firstEnding : zk_x_firstEnding.all (zz_ck zz_inf zM_x_firstEnding) = true ∧ zz_ch zk_x_firstEnding = true := ⟨by decide +kernel, by decide +kernel⟩
noncomputable def x_firstEnding_2 : Nat → Int → zz_S → zz_R
  | 0, _, _ => none
  | n + 1, v1, σ => (if v1 < (zz_h σ 3 1 13) then (if zz_b σ 13 1 v1 then (if (zz_h σ 13 1 v1) = 0 then (x_firstEnding_2 n (zz_r (v1 + 1)) σ) else (if (zz_h σ 13 1 v1) = 0 then none else (if (zz_h σ 10 (zz_h σ 13 1 v1) 5) = (zz_h σ 3 1 16) then (some ((zz_h σ 13 1 v1), σ)) else (x_firstEnding_2 n (zz_r (v1 + 1)) σ)))) else none) else (some (0, σ)))
set_option maxRecDepth 100000 in
set_option maxHeartbeats 4000000 in
theorem ze_x_firstEnding_2 (n : Nat) (v1 : Int) (σ : zz_S) : x_firstEnding_2 (n + 1) v1 σ = zz_ev (zz_CE []) (zz_KE [(2, [(0, 5, true), (1, 0, false)], zz_f1 (x_firstEnding_2 n))]) zk_x_firstEnding 12 false 0 0 400 true (zz_sk zk_x_firstEnding 2) [(0, 5, 1), (1, 0, v1)] [] σ := rfl
theorem zo_x_firstEnding_2 : ∀ n : Nat, zz_okb zM_x_firstEnding 2 [(0, 5, true), (1, 0, false)] (zz_f1 (x_firstEnding_2 n))
  | 0 => fun vs σ r τ h => by
    obtain ⟨v1, rfl, h⟩ := zz_f1_ok h
    exact nomatch (show (none : zz_R) = some (r, τ) from h)
  | n + 1 => by
    have ih := zo_x_firstEnding_2 n
    exact fun vs σ r τ h => by
        obtain ⟨v1, rfl, h⟩ := zz_f1_ok h
        exact zz_from zc_x_firstEnding zz_oc0 (zz_olc ih zz_ol0) ((ze_x_firstEnding_2 n v1 σ).symm.trans h)
noncomputable def x_firstEnding (σ : zz_S) : zz_R := (x_firstEnding_2 zz_fu 0 σ)
set_option maxRecDepth 100000 in
set_option maxHeartbeats 4000000 in
theorem ze_x_firstEnding (σ : zz_S) : x_firstEnding σ = zz_ev (zz_CE []) (zz_KE [(2, [(0, 5, true), (1, 0, false)], zz_f1 (x_firstEnding_2 zz_fu))]) zk_x_firstEnding 12 false 0 0 400 true (zz_sk zk_x_firstEnding 0) [(0, 5, 1)] [] σ := rfl
theorem zo_x_firstEnding : zz_okb zM_x_firstEnding 0 [(0, 5, true)] (zz_f0 x_firstEnding) :=
  fun vs σ r τ h => by
    obtain ⟨rfl, h⟩ := zz_f0_ok h
    exact zz_from zc_x_firstEnding zz_oc0 (zz_olc (zo_x_firstEnding_2 zz_fu) zz_ol0) ((ze_x_firstEnding σ).symm.trans h)
noncomputable def zw_x_firstEnding : List Int → zz_S → zz_R := zz_f1 fun a0 σ => if a0 = 1 then x_firstEnding σ else none
theorem zo_m_x_firstEnding : zz_okm zz_inf 27 zw_x_firstEnding := fun vs σ r τ h => by
  obtain ⟨a0, rfl, h⟩ := zz_f1_ok h
  obtain ⟨e, h⟩ := zz_it h
  subst e
  exact zz_meth zi_x_firstEnding zy_x_firstEnding (zo_x_firstEnding [] σ r τ h)
def zk_xP_kindOf : List zz_E := [(0, false, .aload_n 0, 1, 0, (0, 0, 0, 0), 0, []),
  (1, false, .iload_n 1, 1, 0, (0, 0, 0, 0), 0, []),
  (2, false, .iload_n 2, 1, 0, (0, 0, 0, 0), 0, []),
  (3, false, .invokevirtual 25, 3, 441, (84, 3, 0, 0), 0, [0, 0, 8]),
  (6, false, .istore_n 3, 1, 0, (0, 0, 0, 0), 0, []),
  (7, false, .iload_n 3, 1, 0, (0, 0, 0, 0), 0, []),
  (8, false, .aload_n 0, 1, 0, (0, 0, 0, 0), 0, []),
  (9, false, .getfield 21, 3, 152, (6, 3, 0, 0), 0, []),
  (12, false, .if_icmp .ge 12, 3, 0, (24, 0, 0, 0), 0, []),
  (15, false, .aload_n 0, 1, 0, (0, 0, 0, 0), 0, []),
  (16, false, .getfield 18, 3, 151, (6, 2, 29, 1), 0, []),
  (19, false, .iload_n 3, 1, 0, (0, 0, 0, 0), 0, []),
  (20, false, .iaload, 1, 0, (27, 0, 0, 0), 0, []),
  (21, false, .goto 4, 3, 0, (25, 0, 0, 0), 0, []),
  (24, false, .iconst (-1), 1, 0, (0, 0, 0, 0), 0, []),
  (25, false, .ireturn, 1, 0, (0, 0, 0, 0), 0, [])]
theorem zc_xP_kindOf : zk_xP_kindOf.all (zz_ck zz_inf zM_xP_kindOf) = true ∧ zz_ch zk_xP_kindOf = true := ⟨by decide +kernel, by decide +kernel⟩
noncomputable def xP_kindOf (v1 v2 : Int) (σ : zz_S) : zz_R := ((xP_placeOf v1 v2 σ).bind fun q1 => (if q1.1 < (zz_h q1.2 6 1 3) then (if zz_b q1.2 27 1 q1.1 then (some ((zz_h q1.2 27 1 q1.1), q1.2)) else none) else (some ((-1), q1.2))))
set_option maxRecDepth 100000 in
set_option maxHeartbeats 4000000 in
theorem ze_xP_kindOf (v1 v2 : Int) (σ : zz_S) : xP_kindOf v1 v2 σ = zz_ev (zz_CE [(84, zw_xP_placeOf)]) (zz_KE []) zk_xP_kindOf 0 false 0 0 400 true (zz_sk zk_xP_kindOf 0) [(0, 8, 1), (1, 0, v1), (2, 0, v2)] [] σ := rfl
theorem zo_xP_kindOf : zz_okb zM_xP_kindOf 0 [(0, 8, true), (1, 0, false), (2, 0, false)] (zz_f2 xP_kindOf) :=
  fun vs σ r τ h => by
    obtain ⟨v1, v2, rfl, h⟩ := zz_f2_ok h
    exact zz_from zc_xP_kindOf (zz_occ zo_m_xP_placeOf zz_oc0) zz_ol0 ((ze_xP_kindOf v1 v2 σ).symm.trans h)
noncomputable def zw_xP_kindOf : List Int → zz_S → zz_R := zz_f3 fun a0 a1 a2 σ => if a0 = 1 then xP_kindOf a1 a2 σ else none
theorem zo_m_xP_kindOf : zz_okm zz_inf 86 zw_xP_kindOf := fun vs σ r τ h => by
  obtain ⟨a0, a1, a2, rfl, h⟩ := zz_f3_ok h
  obtain ⟨e, h⟩ := zz_it h
  subst e
  exact zz_meth zi_xP_kindOf zy_xP_kindOf (zo_xP_kindOf [a1, a2] σ r τ h)
def zk_xT_isActive : List zz_E := [(0, false, .aload_n 0, 1, 0, (0, 0, 0, 0), 0, []),
  (1, false, .getfield 39, 3, 320, (7, 10, 0, 0), 0, []),
  (4, false, .ifCond .ne 7, 3, 0, (11, 0, 0, 0), 0, []),
  (7, false, .iconst 1, 1, 0, (0, 0, 0, 0), 0, []),
  (8, false, .goto 4, 3, 0, (12, 0, 0, 0), 0, []),
  (11, false, .iconst 0, 1, 0, (0, 0, 0, 0), 0, []),
  (12, false, .ireturn, 1, 0, (0, 0, 0, 0), 0, [])]
theorem zc_xT_isActive : zk_xT_isActive.all (zz_ck zz_inf zM_xT_isActive) = true ∧ zz_ch zk_xT_isActive = true := ⟨by decide +kernel, by decide +kernel⟩
noncomputable def xT_isActive (v0 : Int) (σ : zz_S) : zz_R := (if v0 = 0 then none else (if (zz_h σ 7 v0 10) = 0 then (some (1, σ)) else (some (0, σ))))
set_option maxRecDepth 100000 in
set_option maxHeartbeats 4000000 in
theorem ze_xT_isActive (v0 : Int) (σ : zz_S) : xT_isActive v0 σ = zz_ev (zz_CE []) (zz_KE []) zk_xT_isActive 0 true 0 0 400 true (zz_sk zk_xT_isActive 0) [(0, 9, v0)] [] σ := rfl
theorem zo_xT_isActive : zz_okb zM_xT_isActive 0 [(0, 9, false)] (zz_f1 xT_isActive) :=
  fun vs σ r τ h => by
    obtain ⟨v0, rfl, h⟩ := zz_f1_ok h
    exact zz_from zc_xT_isActive zz_oc0 zz_ol0 ((ze_xT_isActive v0 σ).symm.trans h)
noncomputable def zw_xT_isActive : List Int → zz_S → zz_R := zz_f1 fun a0 σ => xT_isActive a0 σ
theorem zo_m_xT_isActive : zz_okm zz_inf 88 zw_xT_isActive := fun vs σ r τ h => by
  obtain ⟨a0, rfl, h⟩ := zz_f1_ok h
  exact zz_meth zi_xT_isActive zy_xT_isActive (zo_xT_isActive [a0] σ r τ h)
def zk_xD_removeAll : List zz_E := [(0, false, .iconst 0, 1, 0, (0, 0, 0, 0), 0, []),
  (1, false, .istore_n 2, 1, 0, (0, 0, 0, 0), 0, []),
  (2, false, .iconst 0, 1, 0, (0, 0, 0, 0), 0, []),
  (3, false, .istore_n 3, 1, 0, (0, 0, 0, 0), 0, []),
  (4, true, .iload_n 3, 1, 0, (0, 0, 0, 0), 0, []),
  (5, false, .aload_n 0, 1, 0, (0, 0, 0, 0), 0, []),
  (6, false, .getfield 25, 3, 107, (4, 3, 0, 0), 0, []),
  (9, false, .if_icmp .ge 58, 3, 0, (67, 0, 0, 0), 0, []),
  (12, false, .aload_n 0, 1, 0, (0, 0, 0, 0), 0, []),
  (13, false, .getfield 11, 3, 101, (4, 0, 21, 1), 0, []),
  (16, false, .iload_n 3, 1, 0, (0, 0, 0, 0), 0, []),
  (17, false, .aaload, 1, 0, (19, 0, 9, 0), 0, []),
  (18, false, .aload_n 1, 1, 0, (0, 0, 0, 0), 0, []),
  (19, false, .if_acmp .eq 42, 3, 0, (61, 0, 0, 0), 0, []),
  (22, false, .aload_n 0, 1, 0, (0, 0, 0, 0), 0, []),
  (23, false, .getfield 11, 3, 101, (4, 0, 21, 1), 0, []),
  (26, false, .iload_n 2, 1, 0, (0, 0, 0, 0), 0, []),
  (27, false, .aload_n 0, 1, 0, (0, 0, 0, 0), 0, []),
  (28, false, .getfield 11, 3, 101, (4, 0, 21, 1), 0, []),
  (31, false, .iload_n 3, 1, 0, (0, 0, 0, 0), 0, []),
  (32, false, .aaload, 1, 0, (19, 0, 9, 0), 0, []),
  (33, false, .aastore, 1, 0, (19, 0, 9, 0), 0, []),
  (34, false, .aload_n 0, 1, 0, (0, 0, 0, 0), 0, []),
  (35, false, .getfield 17, 3, 103, (4, 1, 22, 1), 0, []),
  (38, false, .iload_n 2, 1, 0, (0, 0, 0, 0), 0, []),
  (39, false, .aload_n 0, 1, 0, (0, 0, 0, 0), 0, []),
  (40, false, .getfield 17, 3, 103, (4, 1, 22, 1), 0, []),
  (43, false, .iload_n 3, 1, 0, (0, 0, 0, 0), 0, []),
  (44, false, .iaload, 1, 0, (20, 0, 0, 0), 0, []),
  (45, false, .iastore, 1, 0, (20, 0, 0, 0), 0, []),
  (46, false, .aload_n 0, 1, 0, (0, 0, 0, 0), 0, []),
  (47, false, .getfield 21, 3, 105, (4, 2, 23, 1), 0, []),
  (50, false, .iload_n 2, 1, 0, (0, 0, 0, 0), 0, []),
  (51, false, .aload_n 0, 1, 0, (0, 0, 0, 0), 0, []),
  (52, false, .getfield 21, 3, 105, (4, 2, 23, 1), 0, []),
  (55, false, .iload_n 3, 1, 0, (0, 0, 0, 0), 0, []),
  (56, false, .baload, 1, 0, (21, 0, 0, 0), 0, []),
  (57, false, .bastore, 1, 0, (21, 0, 0, 0), 0, []),
  (58, false, .iinc 2 1, 3, 0, (0, 0, 0, 0), 0, []),
  (61, false, .iinc 3 1, 3, 0, (0, 0, 0, 0), 0, []),
  (64, false, .goto (-60), 3, 0, (4, 0, 0, 0), 0, []),
  (67, false, .aload_n 0, 1, 0, (0, 0, 0, 0), 0, []),
  (68, false, .iload_n 2, 1, 0, (0, 0, 0, 0), 0, []),
  (69, false, .putfield 25, 3, 107, (4, 3, 0, 0), 0, []),
  (72, false, .aload_n 1, 1, 0, (0, 0, 0, 0), 0, []),
  (73, false, .iconst 0, 1, 0, (0, 0, 0, 0), 0, []),
  (74, false, .putfield 29, 3, 334, (7, 16, 0, 0), 0, []),
  (77, false, .return_, 1, 0, (0, 0, 0, 0), 0, [])]
theorem zc_xD_removeAll : zk_xD_removeAll.all (zz_ck zz_inf zM_xD_removeAll) = true ∧ zz_ch zk_xD_removeAll = true := ⟨by decide +kernel, by decide +kernel⟩
noncomputable def xD_removeAll_4 : Nat → Int → Int → Int → zz_S → zz_R
  | 0, _, _, _, _ => none
  | n + 1, v1, v2, v3, σ => (if v3 < (zz_h σ 4 1 3) then (if zz_b σ 19 1 v3 then (if (zz_h σ 19 1 v3) = v1 then (xD_removeAll_4 n v1 v2 (zz_r (v3 + 1)) σ) else (if zz_b σ 19 1 v3 then (if zz_b σ 19 1 v2 then (if (zz_h σ 19 1 v3) = 0 then none else (let s1 := zz_w σ 19 1 v2 (zz_h σ 19 1 v3); (if zz_b s1 20 1 v3 then (if zz_b s1 20 1 v2 then (let s2 := zz_w s1 20 1 v2 (zz_h s1 20 1 v3); (if zz_b s2 21 1 v3 then (if zz_b s2 21 1 v2 then (if zz_o (zz_h s2 21 1 v3) then (let s3 := zz_w s2 21 1 v2 (zz_h s2 21 1 v3); (xD_removeAll_4 n v1 (zz_r (v2 + 1)) (zz_r (v3 + 1)) s3)) else none) else none) else none)) else none) else none))) else none) else none)) else none) else (let s4 := zz_w σ 4 1 3 v2; (if v1 = 0 then none else (let s5 := zz_w s4 7 v1 16 0; (some (0, s5))))))
set_option maxRecDepth 100000 in
set_option maxHeartbeats 4000000 in
theorem ze_xD_removeAll_4 (n : Nat) (v1 v2 v3 : Int) (σ : zz_S) : xD_removeAll_4 (n + 1) v1 v2 v3 σ = zz_ev (zz_CE []) (zz_KE [(4, [(0, 6, true), (1, 9, false), (2, 0, false), (3, 0, false)], zz_f3 (xD_removeAll_4 n))]) zk_xD_removeAll 999 false 0 0 400 true (zz_sk zk_xD_removeAll 4) [(0, 6, 1), (1, 9, v1), (2, 0, v2), (3, 0, v3)] [] σ := rfl
theorem zo_xD_removeAll_4 : ∀ n : Nat, zz_okb zM_xD_removeAll 4 [(0, 6, true), (1, 9, false), (2, 0, false), (3, 0, false)] (zz_f3 (xD_removeAll_4 n))
  | 0 => fun vs σ r τ h => by
    obtain ⟨v1, v2, v3, rfl, h⟩ := zz_f3_ok h
    exact nomatch (show (none : zz_R) = some (r, τ) from h)
  | n + 1 => by
    have ih := zo_xD_removeAll_4 n
    exact fun vs σ r τ h => by
        obtain ⟨v1, v2, v3, rfl, h⟩ := zz_f3_ok h
        exact zz_from zc_xD_removeAll zz_oc0 (zz_olc ih zz_ol0) ((ze_xD_removeAll_4 n v1 v2 v3 σ).symm.trans h)
noncomputable def xD_removeAll (v1 : Int) (σ : zz_S) : zz_R := (xD_removeAll_4 zz_fu v1 0 0 σ)
set_option maxRecDepth 100000 in
set_option maxHeartbeats 4000000 in
theorem ze_xD_removeAll (v1 : Int) (σ : zz_S) : xD_removeAll v1 σ = zz_ev (zz_CE []) (zz_KE [(4, [(0, 6, true), (1, 9, false), (2, 0, false), (3, 0, false)], zz_f3 (xD_removeAll_4 zz_fu))]) zk_xD_removeAll 999 false 0 0 400 true (zz_sk zk_xD_removeAll 0) [(0, 6, 1), (1, 9, v1)] [] σ := rfl
theorem zo_xD_removeAll : zz_okb zM_xD_removeAll 0 [(0, 6, true), (1, 9, false)] (zz_f1 xD_removeAll) :=
  fun vs σ r τ h => by
    obtain ⟨v1, rfl, h⟩ := zz_f1_ok h
    exact zz_from zc_xD_removeAll zz_oc0 (zz_olc (zo_xD_removeAll_4 zz_fu) zz_ol0) ((ze_xD_removeAll v1 σ).symm.trans h)
noncomputable def zw_xD_removeAll : List Int → zz_S → zz_R := zz_f2 fun a0 a1 σ => if a0 = 1 then xD_removeAll a1 σ else none
theorem zo_m_xD_removeAll : zz_okm zz_inf 78 zw_xD_removeAll := fun vs σ r τ h => by
  obtain ⟨a0, a1, rfl, h⟩ := zz_f2_ok h
  obtain ⟨e, h⟩ := zz_it h
  subst e
  exact zz_meth zi_xD_removeAll zy_xD_removeAll (zo_xD_removeAll [a1] σ r τ h)
def zk_x_leave : List zz_E := [(0, false, .aload_n 1, 1, 0, (0, 0, 0, 0), 0, []),
  (1, false, .iload_n 2, 1, 0, (0, 0, 0, 0), 0, []),
  (2, false, .putfield 319, 3, 321, (7, 10, 0, 0), 0, []),
  (5, false, .aload_n 0, 1, 0, (0, 0, 0, 0), 0, []),
  (6, false, .getfield 27, 3, 166, (3, 3, 6, 1), 0, []),
  (9, false, .aload_n 1, 1, 0, (0, 0, 0, 0), 0, []),
  (10, false, .invokevirtual 383, 3, 491, (78, 2, 999, 0), 0, [9, 6]),
  (13, false, .return_, 1, 0, (0, 0, 0, 0), 0, [])]
theorem zc_x_leave : zk_x_leave.all (zz_ck zz_inf zM_x_leave) = true ∧ zz_ch zk_x_leave = true := ⟨by decide +kernel, by decide +kernel⟩
noncomputable def x_leave (v1 v2 : Int) (σ : zz_S) : zz_R := (if v1 = 0 then none else (let s1 := zz_w σ 7 v1 10 v2; ((xD_removeAll v1 s1).bind fun q2 => (some (0, q2.2)))))
set_option maxRecDepth 100000 in
set_option maxHeartbeats 4000000 in
theorem ze_x_leave (v1 v2 : Int) (σ : zz_S) : x_leave v1 v2 σ = zz_ev (zz_CE [(78, zw_xD_removeAll)]) (zz_KE []) zk_x_leave 999 false 0 0 400 true (zz_sk zk_x_leave 0) [(0, 5, 1), (1, 9, v1), (2, 0, v2)] [] σ := rfl
theorem zo_x_leave : zz_okb zM_x_leave 0 [(0, 5, true), (1, 9, false), (2, 0, false)] (zz_f2 x_leave) :=
  fun vs σ r τ h => by
    obtain ⟨v1, v2, rfl, h⟩ := zz_f2_ok h
    exact zz_from zc_x_leave (zz_occ zo_m_xD_removeAll zz_oc0) zz_ol0 ((ze_x_leave v1 v2 σ).symm.trans h)
noncomputable def zw_x_leave : List Int → zz_S → zz_R := zz_f3 fun a0 a1 a2 σ => if a0 = 1 then x_leave a1 a2 σ else none
theorem zo_m_x_leave : zz_okm zz_inf 52 zw_x_leave := fun vs σ r τ h => by
  obtain ⟨a0, a1, a2, rfl, h⟩ := zz_f3_ok h
  obtain ⟨e, h⟩ := zz_it h
  subst e
  exact zz_meth zi_x_leave zy_x_leave (zo_x_leave [a1, a2] σ r τ h)
def zk_xT_fireFor : List zz_E := [(0, false, .aload_n 0, 1, 0, (0, 0, 0, 0), 0, []),
  (1, false, .getfield 60, 3, 338, (7, 18, 0, 0), 0, []),
  (4, false, .iload_n 1, 1, 0, (0, 0, 0, 0), 0, []),
  (5, false, .if_icmp .ne 4, 3, 0, (9, 0, 0, 0), 0, []),
  (8, false, .return_, 1, 0, (0, 0, 0, 0), 0, []),
  (9, false, .aload_n 0, 1, 0, (0, 0, 0, 0), 0, []),
  (10, false, .aload_n 0, 1, 0, (0, 0, 0, 0), 0, []),
  (11, false, .getfield 60, 3, 338, (7, 18, 0, 0), 0, []),
  (14, false, .putfield 63, 3, 339, (7, 19, 0, 0), 0, []),
  (17, false, .aload_n 0, 1, 0, (0, 0, 0, 0), 0, []),
  (18, false, .iload_n 1, 1, 0, (0, 0, 0, 0), 0, []),
  (19, false, .putfield 60, 3, 338, (7, 18, 0, 0), 0, []),
  (22, false, .return_, 1, 0, (0, 0, 0, 0), 0, [])]
theorem zc_xT_fireFor : zk_xT_fireFor.all (zz_ck zz_inf zM_xT_fireFor) = true ∧ zz_ch zk_xT_fireFor = true := ⟨by decide +kernel, by decide +kernel⟩
noncomputable def xT_fireFor (v0 v1 : Int) (σ : zz_S) : zz_R := (if v0 = 0 then none else (if (zz_h σ 7 v0 18) = v1 then (some (0, σ)) else (if v0 = 0 then none else (if v0 = 0 then none else (let s1 := zz_w σ 7 v0 19 (zz_h σ 7 v0 18); (if v0 = 0 then none else (let s2 := zz_w s1 7 v0 18 v1; (some (0, s2)))))))))
set_option maxRecDepth 100000 in
set_option maxHeartbeats 4000000 in
theorem ze_xT_fireFor (v0 v1 : Int) (σ : zz_S) : xT_fireFor v0 v1 σ = zz_ev (zz_CE []) (zz_KE []) zk_xT_fireFor 999 false 0 0 400 true (zz_sk zk_xT_fireFor 0) [(0, 9, v0), (1, 0, v1)] [] σ := rfl
theorem zo_xT_fireFor : zz_okb zM_xT_fireFor 0 [(0, 9, false), (1, 0, false)] (zz_f2 xT_fireFor) :=
  fun vs σ r τ h => by
    obtain ⟨v0, v1, rfl, h⟩ := zz_f2_ok h
    exact zz_from zc_xT_fireFor zz_oc0 zz_ol0 ((ze_xT_fireFor v0 v1 σ).symm.trans h)
noncomputable def zw_xT_fireFor : List Int → zz_S → zz_R := zz_f2 fun a0 a1 σ => xT_fireFor a0 a1 σ
theorem zo_m_xT_fireFor : zz_okm zz_inf 89 zw_xT_fireFor := fun vs σ r τ h => by
  obtain ⟨a0, a1, rfl, h⟩ := zz_f2_ok h
  exact zz_meth zi_xT_fireFor zy_xT_fireFor (zo_xT_fireFor [a0, a1] σ r τ h)
def zk_x_act : List zz_E := [(0, false, .aload_n 1, 1, 0, (0, 0, 0, 0), 0, []),
  (1, false, .getfield 203, 3, 636, (10, 1, 9, 0), 0, []),
  (4, false, .getfield 136, 3, 317, (7, 8, 0, 0), 0, []),
  (7, false, .istore_n 2, 1, 0, (0, 0, 0, 0), 0, []),
  (8, false, .aload_n 1, 1, 0, (0, 0, 0, 0), 0, []),
  (9, false, .getfield 203, 3, 636, (10, 1, 9, 0), 0, []),
  (12, false, .getfield 139, 3, 319, (7, 9, 0, 0), 0, []),
  (15, false, .bipush 7, 2, 0, (0, 0, 0, 0), 0, []),
  (17, false, .iand, 1, 0, (0, 0, 0, 0), 0, []),
  (18, false, .istore_n 3, 1, 0, (0, 0, 0, 0), 0, []),
  (19, false, .aload_n 0, 1, 0, (0, 0, 0, 0), 0, []),
  (20, false, .iload_n 2, 1, 0, (0, 0, 0, 0), 0, []),
  (21, false, .invokevirtual 100, 3, 385, (73, 2, 9, 0), 0, [0, 5]),
  (24, false, .astore 4, 2, 0, (0, 0, 0, 0), 0, []),
  (26, false, .aload_n 1, 1, 0, (0, 0, 0, 0), 0, []),
  (27, false, .getfield 203, 3, 636, (10, 1, 9, 0), 0, []),
  (30, false, .getfield 133, 3, 315, (7, 7, 0, 0), 0, []),
  (33, false, .tableswitch 158 1 6 #[39, 51, 72, 92, 104, 129], 39, 0, (191, 0, 0, 0), 1, [72, 84, 105, 125, 137, 162]),
  (72, false, .aload_n 0, 1, 0, (0, 0, 0, 0), 0, []),
  (73, false, .getfield 56, 3, 172, (3, 9, 19, 1), 0, []),
  (76, false, .iload_n 3, 1, 0, (0, 0, 0, 0), 0, []),
  (77, false, .dup2, 1, 0, (0, 0, 0, 0), 0, []),
  (78, false, .iaload, 1, 0, (17, 0, 0, 0), 0, []),
  (79, false, .iload_n 2, 1, 0, (0, 0, 0, 0), 0, []),
  (80, false, .iadd, 1, 0, (0, 0, 0, 0), 0, []),
  (81, false, .iastore, 1, 0, (17, 0, 0, 0), 0, []),
  (82, false, .iconst (-1), 1, 0, (0, 0, 0, 0), 0, []),
  (83, false, .ireturn, 1, 0, (0, 0, 0, 0), 0, []),
  (84, false, .aload_n 0, 1, 0, (0, 0, 0, 0), 0, []),
  (85, false, .getfield 56, 3, 172, (3, 9, 19, 1), 0, []),
  (88, false, .iload_n 3, 1, 0, (0, 0, 0, 0), 0, []),
  (89, false, .iload_n 2, 1, 0, (0, 0, 0, 0), 0, []),
  (90, false, .aload_n 0, 1, 0, (0, 0, 0, 0), 0, []),
  (91, false, .getfield 56, 3, 172, (3, 9, 19, 1), 0, []),
  (94, false, .iload_n 3, 1, 0, (0, 0, 0, 0), 0, []),
  (95, false, .iaload, 1, 0, (17, 0, 0, 0), 0, []),
  (96, false, .imul, 1, 0, (0, 0, 0, 0), 0, []),
  (97, false, .aload_n 1, 1, 0, (0, 0, 0, 0), 0, []),
  (98, false, .getfield 237, 3, 634, (10, 0, 0, 0), 0, []),
  (101, false, .iadd, 1, 0, (0, 0, 0, 0), 0, []),
  (102, false, .iastore, 1, 0, (17, 0, 0, 0), 0, []),
  (103, false, .iconst (-1), 1, 0, (0, 0, 0, 0), 0, []),
  (104, false, .ireturn, 1, 0, (0, 0, 0, 0), 0, []),
  (105, false, .aload_n 0, 1, 0, (0, 0, 0, 0), 0, []),
  (106, false, .getfield 56, 3, 172, (3, 9, 19, 1), 0, []),
  (109, false, .iload_n 3, 1, 0, (0, 0, 0, 0), 0, []),
  (110, false, .iaload, 1, 0, (17, 0, 0, 0), 0, []),
  (111, false, .iconst 1, 1, 0, (0, 0, 0, 0), 0, []),
  (112, false, .iand, 1, 0, (0, 0, 0, 0), 0, []),
  (113, false, .ifCond .eq 10, 3, 0, (123, 0, 0, 0), 0, []),
  (116, false, .iload_n 2, 1, 0, (0, 0, 0, 0), 0, []),
  (117, false, .bipush 15, 2, 0, (0, 0, 0, 0), 0, []),
  (119, false, .iand, 1, 0, (0, 0, 0, 0), 0, []),
  (120, false, .goto 4, 3, 0, (124, 0, 0, 0), 0, []),
  (123, false, .iconst (-1), 1, 0, (0, 0, 0, 0), 0, []),
  (124, false, .ireturn, 1, 0, (0, 0, 0, 0), 0, []),
  (125, false, .aload_n 0, 1, 0, (0, 0, 0, 0), 0, []),
  (126, false, .getfield 56, 3, 172, (3, 9, 19, 1), 0, []),
  (129, false, .iload_n 3, 1, 0, (0, 0, 0, 0), 0, []),
  (130, false, .aload_n 0, 1, 0, (0, 0, 0, 0), 0, []),
  (131, false, .getfield 78, 3, 179, (3, 16, 0, 0), 0, []),
  (134, false, .iastore, 1, 0, (17, 0, 0, 0), 0, []),
  (135, false, .iconst (-1), 1, 0, (0, 0, 0, 0), 0, []),
  (136, false, .ireturn, 1, 0, (0, 0, 0, 0), 0, []),
  (137, false, .aload 4, 2, 0, (0, 0, 0, 0), 0, []),
  (139, false, .ifnull 11, 3, 0, (150, 0, 0, 0), 0, []),
  (142, false, .aload 4, 2, 0, (0, 0, 0, 0), 0, []),
  (144, false, .invokevirtual 226, 3, 483, (88, 1, 0, 0), 0, [9]),
  (147, false, .ifCond .ne 6, 3, 0, (153, 0, 0, 0), 0, []),
  (150, false, .bipush 14, 2, 0, (0, 0, 0, 0), 0, []),
  (152, false, .ireturn, 1, 0, (0, 0, 0, 0), 0, []),
  (153, false, .aload_n 0, 1, 0, (0, 0, 0, 0), 0, []),
  (154, false, .aload 4, 2, 0, (0, 0, 0, 0), 0, []),
  (156, false, .iconst 3, 1, 0, (0, 0, 0, 0), 0, []),
  (157, false, .invokevirtual 238, 3, 487, (52, 3, 999, 0), 0, [0, 9, 5]),
  (160, false, .iconst (-1), 1, 0, (0, 0, 0, 0), 0, []),
  (161, false, .ireturn, 1, 0, (0, 0, 0, 0), 0, []),
  (162, false, .aload 4, 2, 0, (0, 0, 0, 0), 0, []),
  (164, false, .ifnull 11, 3, 0, (175, 0, 0, 0), 0, []),
  (167, false, .aload 4, 2, 0, (0, 0, 0, 0), 0, []),
  (169, false, .invokevirtual 226, 3, 483, (88, 1, 0, 0), 0, [9]),
  (172, false, .ifCond .ne 6, 3, 0, (178, 0, 0, 0), 0, []),
  (175, false, .bipush 14, 2, 0, (0, 0, 0, 0), 0, []),
  (177, false, .ireturn, 1, 0, (0, 0, 0, 0), 0, []),
  (178, false, .aload 4, 2, 0, (0, 0, 0, 0), 0, []),
  (180, false, .aload_n 0, 1, 0, (0, 0, 0, 0), 0, []),
  (181, false, .getfield 78, 3, 179, (3, 16, 0, 0), 0, []),
  (184, false, .iconst 1, 1, 0, (0, 0, 0, 0), 0, []),
  (185, false, .iadd, 1, 0, (0, 0, 0, 0), 0, []),
  (186, false, .invokevirtual 242, 3, 495, (89, 2, 999, 0), 0, [0, 9]),
  (189, false, .iconst (-1), 1, 0, (0, 0, 0, 0), 0, []),
  (190, false, .ireturn, 1, 0, (0, 0, 0, 0), 0, []),
  (191, false, .iconst (-1), 1, 0, (0, 0, 0, 0), 0, []),
  (192, false, .ireturn, 1, 0, (0, 0, 0, 0), 0, [])]
theorem zc_x_act : zk_x_act.all (zz_ck zz_inf zM_x_act) = true ∧ zz_ch zk_x_act = true := ⟨by decide +kernel, by decide +kernel⟩
noncomputable def x_act (v1 : Int) (σ : zz_S) : zz_R := (if v1 = 0 then none else (if (zz_h σ 10 v1 1) = 0 then none else (if v1 = 0 then none else (if (zz_h σ 10 v1 1) = 0 then none else ((x_taskAt (zz_h σ 7 (zz_h σ 10 v1 1) 8) σ).bind fun q1 => (if v1 = 0 then none else (if (zz_h q1.2 10 v1 1) = 0 then none else (if (zz_h q1.2 7 (zz_h q1.2 10 v1 1) 7) = 1 then (if zz_b q1.2 17 1 (zz_and (zz_h σ 7 (zz_h σ 10 v1 1) 9) 7) then (if zz_b q1.2 17 1 (zz_and (zz_h σ 7 (zz_h σ 10 v1 1) 9) 7) then (let s8 := zz_w q1.2 17 1 (zz_and (zz_h σ 7 (zz_h σ 10 v1 1) 9) 7) (zz_r ((zz_h q1.2 17 1 (zz_and (zz_h σ 7 (zz_h σ 10 v1 1) 9) 7)) + (zz_h σ 7 (zz_h σ 10 v1 1) 8))); (some ((-1), s8))) else none) else none) else (if (zz_h q1.2 7 (zz_h q1.2 10 v1 1) 7) = 2 then (if zz_b q1.2 17 1 (zz_and (zz_h σ 7 (zz_h σ 10 v1 1) 9) 7) then (if v1 = 0 then none else (if zz_b q1.2 17 1 (zz_and (zz_h σ 7 (zz_h σ 10 v1 1) 9) 7) then (let s7 := zz_w q1.2 17 1 (zz_and (zz_h σ 7 (zz_h σ 10 v1 1) 9) 7) (zz_r ((zz_r ((zz_h σ 7 (zz_h σ 10 v1 1) 8) * (zz_h q1.2 17 1 (zz_and (zz_h σ 7 (zz_h σ 10 v1 1) 9) 7)))) + (zz_h q1.2 10 v1 0))); (some ((-1), s7))) else none)) else none) else (if (zz_h q1.2 7 (zz_h q1.2 10 v1 1) 7) = 3 then (if zz_b q1.2 17 1 (zz_and (zz_h σ 7 (zz_h σ 10 v1 1) 9) 7) then (if (zz_and (zz_h q1.2 17 1 (zz_and (zz_h σ 7 (zz_h σ 10 v1 1) 9) 7)) 1) = 0 then (some ((-1), q1.2)) else (some ((zz_and (zz_h σ 7 (zz_h σ 10 v1 1) 8) 15), q1.2))) else none) else (if (zz_h q1.2 7 (zz_h q1.2 10 v1 1) 7) = 4 then (if zz_b q1.2 17 1 (zz_and (zz_h σ 7 (zz_h σ 10 v1 1) 9) 7) then (let s6 := zz_w q1.2 17 1 (zz_and (zz_h σ 7 (zz_h σ 10 v1 1) 9) 7) (zz_h q1.2 3 1 16); (some ((-1), s6))) else none) else (if (zz_h q1.2 7 (zz_h q1.2 10 v1 1) 7) = 5 then (if q1.1 = 0 then (some (14, q1.2)) else (if q1.1 = 0 then none else ((xT_isActive q1.1 q1.2).bind fun q4 => (if q4.1 = 0 then (some (14, q4.2)) else ((x_leave q1.1 3 q4.2).bind fun q5 => (some ((-1), q5.2))))))) else (if (zz_h q1.2 7 (zz_h q1.2 10 v1 1) 7) = 6 then (if q1.1 = 0 then (some (14, q1.2)) else (if q1.1 = 0 then none else ((xT_isActive q1.1 q1.2).bind fun q2 => (if q2.1 = 0 then (some (14, q2.2)) else (if q1.1 = 0 then none else ((xT_fireFor q1.1 (zz_r ((zz_h q2.2 3 1 16) + 1)) q2.2).bind fun q3 => (some ((-1), q3.2)))))))) else (some ((-1), q1.2)))))))))))))))
set_option maxRecDepth 100000 in
set_option maxHeartbeats 4000000 in
theorem ze_x_act (v1 : Int) (σ : zz_S) : x_act v1 σ = zz_ev (zz_CE [(52, zw_x_leave), (73, zw_x_taskAt), (88, zw_xT_isActive), (89, zw_xT_fireFor)]) (zz_KE []) zk_x_act 0 false 0 0 400 true (zz_sk zk_x_act 0) [(0, 5, 1), (1, 12, v1)] [] σ := rfl
theorem zo_x_act : zz_okb zM_x_act 0 [(0, 5, true), (1, 12, false)] (zz_f1 x_act) :=
  fun vs σ r τ h => by
    obtain ⟨v1, rfl, h⟩ := zz_f1_ok h
    exact zz_from zc_x_act (zz_occ zo_m_x_leave (zz_occ zo_m_x_taskAt (zz_occ zo_m_xT_isActive (zz_occ zo_m_xT_fireFor zz_oc0)))) zz_ol0 ((ze_x_act v1 σ).symm.trans h)
noncomputable def zw_x_act : List Int → zz_S → zz_R := zz_f2 fun a0 a1 σ => if a0 = 1 then x_act a1 σ else none
theorem zo_m_x_act : zz_okm zz_inf 29 zw_x_act := fun vs σ r τ h => by
  obtain ⟨a0, a1, rfl, h⟩ := zz_f2_ok h
  obtain ⟨e, h⟩ := zz_it h
  subst e
  exact zz_meth zi_x_act zy_x_act (zo_x_act [a1] σ r τ h)
def zk_x_layDown : List zz_E := [(0, false, .iconst 0, 1, 0, (0, 0, 0, 0), 0, []),
  (1, false, .istore_n 3, 1, 0, (0, 0, 0, 0), 0, []),
  (2, false, .iconst 0, 1, 0, (0, 0, 0, 0), 0, []),
  (3, false, .istore 4, 2, 0, (0, 0, 0, 0), 0, []),
  (5, true, .iload 4, 2, 0, (0, 0, 0, 0), 0, []),
  (7, false, .aload_n 0, 1, 0, (0, 0, 0, 0), 0, []),
  (8, false, .getfield 69, 3, 176, (3, 13, 0, 0), 0, []),
  (11, false, .if_icmp .ge 36, 3, 0, (47, 0, 0, 0), 0, []),
  (14, false, .aload_n 0, 1, 0, (0, 0, 0, 0), 0, []),
  (15, false, .getfield 21, 3, 165, (3, 2, 15, 1), 0, []),
  (18, false, .iload 4, 2, 0, (0, 0, 0, 0), 0, []),
  (20, false, .aaload, 1, 0, (13, 0, 12, 0), 0, []),
  (21, false, .aload_n 1, 1, 0, (0, 0, 0, 0), 0, []),
  (22, false, .if_acmp .eq 19, 3, 0, (41, 0, 0, 0), 0, []),
  (25, false, .aload_n 0, 1, 0, (0, 0, 0, 0), 0, []),
  (26, false, .getfield 21, 3, 165, (3, 2, 15, 1), 0, []),
  (29, false, .iload_n 3, 1, 0, (0, 0, 0, 0), 0, []),
  (30, false, .aload_n 0, 1, 0, (0, 0, 0, 0), 0, []),
  (31, false, .getfield 21, 3, 165, (3, 2, 15, 1), 0, []),
  (34, false, .iload 4, 2, 0, (0, 0, 0, 0), 0, []),
  (36, false, .aaload, 1, 0, (13, 0, 12, 0), 0, []),
  (37, false, .aastore, 1, 0, (13, 0, 12, 0), 0, []),
  (38, false, .iinc 3 1, 3, 0, (0, 0, 0, 0), 0, []),
  (41, false, .iinc 4 1, 3, 0, (0, 0, 0, 0), 0, []),
  (44, false, .goto (-39), 3, 0, (5, 0, 0, 0), 0, []),
  (47, false, .aload_n 0, 1, 0, (0, 0, 0, 0), 0, []),
  (48, false, .iload_n 3, 1, 0, (0, 0, 0, 0), 0, []),
  (49, false, .putfield 69, 3, 176, (3, 13, 0, 0), 0, []),
  (52, false, .aload_n 0, 1, 0, (0, 0, 0, 0), 0, []),
  (53, false, .getfield 52, 3, 171, (3, 8, 18, 1), 0, []),
  (56, false, .aload_n 1, 1, 0, (0, 0, 0, 0), 0, []),
  (57, false, .getfield 261, 3, 646, (10, 6, 0, 0), 0, []),
  (60, false, .iconst 0, 1, 0, (0, 0, 0, 0), 0, []),
  (61, false, .bastore, 1, 0, (16, 0, 0, 0), 0, []),
  (62, false, .aload_n 1, 1, 0, (0, 0, 0, 0), 0, []),
  (63, false, .getfield 203, 3, 636, (10, 1, 9, 0), 0, []),
  (66, false, .dup, 1, 0, (0, 0, 0, 0), 0, []),
  (67, false, .getfield 264, 3, 332, (7, 15, 0, 0), 0, []),
  (70, false, .iconst 1, 1, 0, (0, 0, 0, 0), 0, []),
  (71, false, .isub, 1, 0, (0, 0, 0, 0), 0, []),
  (72, false, .putfield 264, 3, 332, (7, 15, 0, 0), 0, []),
  (75, false, .aload_n 1, 1, 0, (0, 0, 0, 0), 0, []),
  (76, false, .aload_n 0, 1, 0, (0, 0, 0, 0), 0, []),
  (77, false, .getfield 78, 3, 179, (3, 16, 0, 0), 0, []),
  (80, false, .putfield 267, 3, 650, (10, 8, 0, 0), 0, []),
  (83, false, .aload_n 1, 1, 0, (0, 0, 0, 0), 0, []),
  (84, false, .iload_n 2, 1, 0, (0, 0, 0, 0), 0, []),
  (85, false, .putfield 270, 3, 652, (10, 9, 0, 0), 0, []),
  (88, false, .return_, 1, 0, (0, 0, 0, 0), 0, [])]
theorem zc_x_layDown : zk_x_layDown.all (zz_ck zz_inf zM_x_layDown) = true ∧ zz_ch zk_x_layDown = true := ⟨by decide +kernel, by decide +kernel⟩
noncomputable def x_layDown_5 : Nat → Int → Int → Int → Int → zz_S → zz_R
  | 0, _, _, _, _, _ => none
  | n + 1, v1, v2, v3, v4, σ => (if v4 < (zz_h σ 3 1 13) then (if zz_b σ 13 1 v4 then (if (zz_h σ 13 1 v4) = v1 then (x_layDown_5 n v1 v2 v3 (zz_r (v4 + 1)) σ) else (if zz_b σ 13 1 v4 then (if zz_b σ 13 1 v3 then (if (zz_h σ 13 1 v4) = 0 then none else (let s1 := zz_w σ 13 1 v3 (zz_h σ 13 1 v4); (x_layDown_5 n v1 v2 (zz_r (v3 + 1)) (zz_r (v4 + 1)) s1))) else none) else none)) else none) else (let s2 := zz_w σ 3 1 13 v3; (if v1 = 0 then none else (if zz_b s2 16 1 (zz_h s2 10 v1 6) then (let s3 := zz_w s2 16 1 (zz_h s2 10 v1 6) 0; (if v1 = 0 then none else (if (zz_h s3 10 v1 1) = 0 then none else (if (zz_h s3 10 v1 1) = 0 then none else (let s4 := zz_w s3 7 (zz_h s3 10 v1 1) 15 (zz_r ((zz_h s3 7 (zz_h s3 10 v1 1) 15) - 1)); (if v1 = 0 then none else (let s5 := zz_w s4 10 v1 8 (zz_h s4 3 1 16); (if v1 = 0 then none else (let s6 := zz_w s5 10 v1 9 v2; (some (0, s6))))))))))) else none))))
set_option maxRecDepth 100000 in
set_option maxHeartbeats 4000000 in
theorem ze_x_layDown_5 (n : Nat) (v1 v2 v3 v4 : Int) (σ : zz_S) : x_layDown_5 (n + 1) v1 v2 v3 v4 σ = zz_ev (zz_CE []) (zz_KE [(5, [(0, 5, true), (1, 12, false), (2, 0, false), (3, 0, false), (4, 0, false)], zz_f4 (x_layDown_5 n))]) zk_x_layDown 999 false 0 0 400 true (zz_sk zk_x_layDown 5) [(0, 5, 1), (1, 12, v1), (2, 0, v2), (3, 0, v3), (4, 0, v4)] [] σ := rfl
theorem zo_x_layDown_5 : ∀ n : Nat, zz_okb zM_x_layDown 5 [(0, 5, true), (1, 12, false), (2, 0, false), (3, 0, false), (4, 0, false)] (zz_f4 (x_layDown_5 n))
  | 0 => fun vs σ r τ h => by
    obtain ⟨v1, v2, v3, v4, rfl, h⟩ := zz_f4_ok h
    exact nomatch (show (none : zz_R) = some (r, τ) from h)
  | n + 1 => by
    have ih := zo_x_layDown_5 n
    exact fun vs σ r τ h => by
        obtain ⟨v1, v2, v3, v4, rfl, h⟩ := zz_f4_ok h
        exact zz_from zc_x_layDown zz_oc0 (zz_olc ih zz_ol0) ((ze_x_layDown_5 n v1 v2 v3 v4 σ).symm.trans h)
noncomputable def x_layDown (v1 v2 : Int) (σ : zz_S) : zz_R := (x_layDown_5 zz_fu v1 v2 0 0 σ)
set_option maxRecDepth 100000 in
set_option maxHeartbeats 4000000 in
theorem ze_x_layDown (v1 v2 : Int) (σ : zz_S) : x_layDown v1 v2 σ = zz_ev (zz_CE []) (zz_KE [(5, [(0, 5, true), (1, 12, false), (2, 0, false), (3, 0, false), (4, 0, false)], zz_f4 (x_layDown_5 zz_fu))]) zk_x_layDown 999 false 0 0 400 true (zz_sk zk_x_layDown 0) [(0, 5, 1), (1, 12, v1), (2, 0, v2)] [] σ := rfl
theorem zo_x_layDown : zz_okb zM_x_layDown 0 [(0, 5, true), (1, 12, false), (2, 0, false)] (zz_f2 x_layDown) :=
  fun vs σ r τ h => by
    obtain ⟨v1, v2, rfl, h⟩ := zz_f2_ok h
    exact zz_from zc_x_layDown zz_oc0 (zz_olc (zo_x_layDown_5 zz_fu) zz_ol0) ((ze_x_layDown v1 v2 σ).symm.trans h)
noncomputable def zw_x_layDown : List Int → zz_S → zz_R := zz_f3 fun a0 a1 a2 σ => if a0 = 1 then x_layDown a1 a2 σ else none
theorem zo_m_x_layDown : zz_okm zz_inf 32 zw_x_layDown := fun vs σ r τ h => by
  obtain ⟨a0, a1, a2, rfl, h⟩ := zz_f3_ok h
  obtain ⟨e, h⟩ := zz_it h
  subst e
  exact zz_meth zi_x_layDown zy_x_layDown (zo_x_layDown [a1, a2] σ r τ h)
def zk_x_restAfter : List zz_E := [(0, false, .iload_n 0, 1, 0, (0, 0, 0, 0), 0, []),
  (1, false, .bipush 6, 2, 0, (0, 0, 0, 0), 0, []),
  (3, false, .if_icmp .le 8, 3, 0, (11, 0, 0, 0), 0, []),
  (6, false, .bipush 64, 2, 0, (0, 0, 0, 0), 0, []),
  (8, false, .goto 12, 3, 0, (20, 0, 0, 0), 0, []),
  (11, false, .iconst 1, 1, 0, (0, 0, 0, 0), 0, []),
  (12, false, .iload_n 0, 1, 0, (0, 0, 0, 0), 0, []),
  (13, false, .iconst 1, 1, 0, (0, 0, 0, 0), 0, []),
  (14, false, .isub, 1, 0, (0, 0, 0, 0), 0, []),
  (15, false, .iconst 0, 1, 0, (0, 0, 0, 0), 0, []),
  (16, false, .invokestatic 258, 3, 510, (168, 2, 0, 0), 0, [0, 0]),
  (19, false, .ishl, 1, 0, (0, 0, 0, 0), 0, []),
  (20, false, .ireturn, 1, 0, (0, 0, 0, 0), 0, [])]
theorem zc_x_restAfter : zk_x_restAfter.all (zz_ck zz_inf zM_x_restAfter) = true ∧ zz_ch zk_x_restAfter = true := ⟨by decide +kernel, by decide +kernel⟩
noncomputable def x_restAfter (v0 : Int) (σ : zz_S) : zz_R := (if v0 ≤ 6 then ((j_max (zz_r (v0 - 1)) 0 σ).bind fun q1 => (some ((zz_shl 1 q1.1), q1.2))) else (some (64, σ)))
set_option maxRecDepth 100000 in
set_option maxHeartbeats 4000000 in
theorem ze_x_restAfter (v0 : Int) (σ : zz_S) : x_restAfter v0 σ = zz_ev (zz_CE [(168, zw_j_max)]) (zz_KE []) zk_x_restAfter 0 false 0 0 400 true (zz_sk zk_x_restAfter 0) [(0, 0, v0)] [] σ := rfl
theorem zo_x_restAfter : zz_okb zM_x_restAfter 0 [(0, 0, false)] (zz_f1 x_restAfter) :=
  fun vs σ r τ h => by
    obtain ⟨v0, rfl, h⟩ := zz_f1_ok h
    exact zz_from zc_x_restAfter (zz_occ zo_m_j_max zz_oc0) zz_ol0 ((ze_x_restAfter v0 σ).symm.trans h)
noncomputable def zw_x_restAfter : List Int → zz_S → zz_R := zz_f1 fun a0 σ => x_restAfter a0 σ
theorem zo_m_x_restAfter : zz_okm zz_inf 31 zw_x_restAfter := fun vs σ r τ h => by
  obtain ⟨a0, rfl, h⟩ := zz_f1_ok h
  exact zz_meth zi_x_restAfter zy_x_restAfter (zo_x_restAfter [a0] σ r τ h)
def zk_x_followEnd : List zz_E := [(0, false, .aload_n 1, 1, 0, (0, 0, 0, 0), 0, []),
  (1, false, .getfield 114, 3, 301, (7, 1, 0, 0), 0, []),
  (4, false, .iconst 2, 1, 0, (0, 0, 0, 0), 0, []),
  (5, false, .if_icmp .ne 16, 3, 0, (21, 0, 0, 0), 0, []),
  (8, false, .aload_n 1, 1, 0, (0, 0, 0, 0), 0, []),
  (9, false, .aload_n 0, 1, 0, (0, 0, 0, 0), 0, []),
  (10, false, .getfield 78, 3, 179, (3, 16, 0, 0), 0, []),
  (13, false, .aload_n 1, 1, 0, (0, 0, 0, 0), 0, []),
  (14, false, .getfield 246, 3, 305, (7, 3, 0, 0), 0, []),
  (17, false, .iadd, 1, 0, (0, 0, 0, 0), 0, []),
  (18, false, .putfield 249, 3, 323, (7, 11, 0, 0), 0, []),
  (21, true, .iload_n 2, 1, 0, (0, 0, 0, 0), 0, []),
  (22, false, .ifCond .eq 4, 3, 0, (26, 0, 0, 0), 0, []),
  (25, false, .return_, 1, 0, (0, 0, 0, 0), 0, []),
  (26, false, .aload_n 1, 1, 0, (0, 0, 0, 0), 0, []),
  (27, false, .getfield 111, 3, 308, (7, 4, 30, 1), 0, []),
  (30, false, .iconst 5, 1, 0, (0, 0, 0, 0), 0, []),
  (31, false, .iaload, 1, 0, (28, 0, 0, 0), 0, []),
  (32, false, .ifCond .ne 9, 3, 0, (41, 0, 0, 0), 0, []),
  (35, false, .aload_n 0, 1, 0, (0, 0, 0, 0), 0, []),
  (36, false, .aload_n 1, 1, 0, (0, 0, 0, 0), 0, []),
  (37, false, .iconst 4, 1, 0, (0, 0, 0, 0), 0, []),
  (38, false, .invokevirtual 238, 3, 487, (52, 3, 999, 0), 0, [0, 9, 5]),
  (41, true, .aload_n 1, 1, 0, (0, 0, 0, 0), 0, []),
  (42, false, .getfield 111, 3, 308, (7, 4, 30, 1), 0, []),
  (45, false, .iconst 5, 1, 0, (0, 0, 0, 0), 0, []),
  (46, false, .iaload, 1, 0, (28, 0, 0, 0), 0, []),
  (47, false, .iconst 2, 1, 0, (0, 0, 0, 0), 0, []),
  (48, false, .if_icmp .ne 42, 3, 0, (90, 0, 0, 0), 0, []),
  (51, false, .aload_n 1, 1, 0, (0, 0, 0, 0), 0, []),
  (52, false, .getfield 223, 3, 327, (7, 13, 0, 0), 0, []),
  (55, false, .invokestatic 252, 3, 507, (31, 1, 0, 0), 0, [0]),
  (58, false, .istore_n 3, 1, 0, (0, 0, 0, 0), 0, []),
  (59, false, .aload_n 1, 1, 0, (0, 0, 0, 0), 0, []),
  (60, false, .getfield 114, 3, 301, (7, 1, 0, 0), 0, []),
  (63, false, .iconst 2, 1, 0, (0, 0, 0, 0), 0, []),
  (64, false, .if_icmp .ne 16, 3, 0, (80, 0, 0, 0), 0, []),
  (67, false, .aload_n 1, 1, 0, (0, 0, 0, 0), 0, []),
  (68, false, .dup, 1, 0, (0, 0, 0, 0), 0, []),
  (69, false, .getfield 249, 3, 323, (7, 11, 0, 0), 0, []),
  (72, false, .iload_n 3, 1, 0, (0, 0, 0, 0), 0, []),
  (73, false, .iadd, 1, 0, (0, 0, 0, 0), 0, []),
  (74, false, .putfield 249, 3, 323, (7, 11, 0, 0), 0, []),
  (77, false, .goto 13, 3, 0, (90, 0, 0, 0), 0, []),
  (80, false, .aload_n 1, 1, 0, (0, 0, 0, 0), 0, []),
  (81, false, .aload_n 0, 1, 0, (0, 0, 0, 0), 0, []),
  (82, false, .getfield 78, 3, 179, (3, 16, 0, 0), 0, []),
  (85, false, .iload_n 3, 1, 0, (0, 0, 0, 0), 0, []),
  (86, false, .iadd, 1, 0, (0, 0, 0, 0), 0, []),
  (87, false, .putfield 255, 3, 325, (7, 12, 0, 0), 0, []),
  (90, false, .return_, 1, 0, (0, 0, 0, 0), 0, [])]
theorem zc_x_followEnd : zk_x_followEnd.all (zz_ck zz_inf zM_x_followEnd) = true ∧ zz_ch zk_x_followEnd = true := ⟨by decide +kernel, by decide +kernel⟩
noncomputable def x_followEnd_41 (v1 : Int) (σ : zz_S) : zz_R := (if v1 = 0 then none else (if v1 = 0 then none else (if zz_b σ 28 v1 5 then (if (zz_h σ 28 v1 5) = 2 then (if v1 = 0 then none else ((x_restAfter (zz_h σ 7 v1 13) σ).bind fun q1 => (if v1 = 0 then none else (if (zz_h q1.2 7 v1 1) = 2 then (if v1 = 0 then none else (if v1 = 0 then none else (let s2 := zz_w q1.2 7 v1 11 (zz_r ((zz_h q1.2 7 v1 11) + q1.1)); (some (0, s2))))) else (if v1 = 0 then none else (let s3 := zz_w q1.2 7 v1 12 (zz_r ((zz_h q1.2 3 1 16) + q1.1)); (some (0, s3)))))))) else (some (0, σ))) else none)))
set_option maxRecDepth 100000 in
set_option maxHeartbeats 4000000 in
theorem ze_x_followEnd_41 (v1 : Int) (σ : zz_S) : x_followEnd_41 v1 σ = zz_ev (zz_CE [(31, zw_x_restAfter)]) (zz_KE []) zk_x_followEnd 999 false 0 0 400 true (zz_sk zk_x_followEnd 41) [(0, 5, 1), (1, 9, v1)] [] σ := rfl
theorem zo_x_followEnd_41 : zz_okb zM_x_followEnd 41 [(0, 5, true), (1, 9, false)] (zz_f1 x_followEnd_41) :=
  fun vs σ r τ h => by
    obtain ⟨v1, rfl, h⟩ := zz_f1_ok h
    exact zz_from zc_x_followEnd (zz_occ zo_m_x_restAfter zz_oc0) zz_ol0 ((ze_x_followEnd_41 v1 σ).symm.trans h)
noncomputable def x_followEnd_21 (v1 v2 : Int) (σ : zz_S) : zz_R := (if v2 = 0 then (if v1 = 0 then none else (if v1 = 0 then none else (if zz_b σ 28 v1 5 then (if (zz_h σ 28 v1 5) = 0 then ((x_leave v1 4 σ).bind fun q1 => (x_followEnd_41 v1 q1.2)) else (x_followEnd_41 v1 σ)) else none))) else (some (0, σ)))
set_option maxRecDepth 100000 in
set_option maxHeartbeats 4000000 in
theorem ze_x_followEnd_21 (v1 v2 : Int) (σ : zz_S) : x_followEnd_21 v1 v2 σ = zz_ev (zz_CE [(52, zw_x_leave)]) (zz_KE [(41, [(0, 5, true), (1, 9, false)], zz_f1 (x_followEnd_41))]) zk_x_followEnd 999 false 0 0 400 true (zz_sk zk_x_followEnd 21) [(0, 5, 1), (1, 9, v1), (2, 0, v2)] [] σ := rfl
theorem zo_x_followEnd_21 : zz_okb zM_x_followEnd 21 [(0, 5, true), (1, 9, false), (2, 0, false)] (zz_f2 x_followEnd_21) :=
  fun vs σ r τ h => by
    obtain ⟨v1, v2, rfl, h⟩ := zz_f2_ok h
    exact zz_from zc_x_followEnd (zz_occ zo_m_x_leave zz_oc0) (zz_olc (zo_x_followEnd_41) zz_ol0) ((ze_x_followEnd_21 v1 v2 σ).symm.trans h)
noncomputable def x_followEnd (v1 v2 : Int) (σ : zz_S) : zz_R := (if v1 = 0 then none else (if (zz_h σ 7 v1 1) = 2 then (if v1 = 0 then none else (if v1 = 0 then none else (let s1 := zz_w σ 7 v1 11 (zz_r ((zz_h σ 3 1 16) + (zz_h σ 7 v1 3))); (x_followEnd_21 v1 v2 s1)))) else (x_followEnd_21 v1 v2 σ)))
set_option maxRecDepth 100000 in
set_option maxHeartbeats 4000000 in
theorem ze_x_followEnd (v1 v2 : Int) (σ : zz_S) : x_followEnd v1 v2 σ = zz_ev (zz_CE []) (zz_KE [(21, [(0, 5, true), (1, 9, false), (2, 0, false)], zz_f2 (x_followEnd_21))]) zk_x_followEnd 999 false 0 0 400 true (zz_sk zk_x_followEnd 0) [(0, 5, 1), (1, 9, v1), (2, 0, v2)] [] σ := rfl
theorem zo_x_followEnd : zz_okb zM_x_followEnd 0 [(0, 5, true), (1, 9, false), (2, 0, false)] (zz_f2 x_followEnd) :=
  fun vs σ r τ h => by
    obtain ⟨v1, v2, rfl, h⟩ := zz_f2_ok h
    exact zz_from zc_x_followEnd zz_oc0 (zz_olc (zo_x_followEnd_21) zz_ol0) ((ze_x_followEnd v1 v2 σ).symm.trans h)
noncomputable def zw_x_followEnd : List Int → zz_S → zz_R := zz_f3 fun a0 a1 a2 σ => if a0 = 1 then x_followEnd a1 a2 σ else none
theorem zo_m_x_followEnd : zz_okm zz_inf 30 zw_x_followEnd := fun vs σ r τ h => by
  obtain ⟨a0, a1, a2, rfl, h⟩ := zz_f3_ok h
  obtain ⟨e, h⟩ := zz_it h
  subst e
  exact zz_meth zi_x_followEnd zy_x_followEnd (zo_x_followEnd [a1, a2] σ r τ h)
def zk_x_isActive : List zz_E := [(0, false, .aload_n 0, 1, 0, (0, 0, 0, 0), 0, []),
  (1, false, .ifnull 14, 3, 0, (15, 0, 0, 0), 0, []),
  (4, false, .aload_n 0, 1, 0, (0, 0, 0, 0), 0, []),
  (5, false, .invokevirtual 226, 3, 483, (88, 1, 0, 0), 0, [9]),
  (8, false, .ifCond .eq 7, 3, 0, (15, 0, 0, 0), 0, []),
  (11, false, .iconst 1, 1, 0, (0, 0, 0, 0), 0, []),
  (12, false, .goto 4, 3, 0, (16, 0, 0, 0), 0, []),
  (15, false, .iconst 0, 1, 0, (0, 0, 0, 0), 0, []),
  (16, false, .ireturn, 1, 0, (0, 0, 0, 0), 0, [])]
theorem zc_x_isActive : zk_x_isActive.all (zz_ck zz_inf zM_x_isActive) = true ∧ zz_ch zk_x_isActive = true := ⟨by decide +kernel, by decide +kernel⟩
noncomputable def x_isActive (v0 : Int) (σ : zz_S) : zz_R := (if v0 = 0 then (some (0, σ)) else (if v0 = 0 then none else ((xT_isActive v0 σ).bind fun q1 => (if q1.1 = 0 then (some (0, q1.2)) else (some (1, q1.2))))))
set_option maxRecDepth 100000 in
set_option maxHeartbeats 4000000 in
theorem ze_x_isActive (v0 : Int) (σ : zz_S) : x_isActive v0 σ = zz_ev (zz_CE [(88, zw_xT_isActive)]) (zz_KE []) zk_x_isActive 0 true 0 0 400 true (zz_sk zk_x_isActive 0) [(0, 9, v0)] [] σ := rfl
theorem zo_x_isActive : zz_okb zM_x_isActive 0 [(0, 9, false)] (zz_f1 x_isActive) :=
  fun vs σ r τ h => by
    obtain ⟨v0, rfl, h⟩ := zz_f1_ok h
    exact zz_from zc_x_isActive (zz_occ zo_m_xT_isActive zz_oc0) zz_ol0 ((ze_x_isActive v0 σ).symm.trans h)
noncomputable def zw_x_isActive : List Int → zz_S → zz_R := zz_f1 fun a0 σ => x_isActive a0 σ
theorem zo_m_x_isActive : zz_okm zz_inf 74 zw_x_isActive := fun vs σ r τ h => by
  obtain ⟨a0, rfl, h⟩ := zz_f1_ok h
  exact zz_meth zi_x_isActive zy_x_isActive (zo_x_isActive [a0] σ r τ h)
def zk_xN_fit : List zz_E := [(0, false, .iconst 0, 1, 0, (0, 0, 0, 0), 0, []),
  (1, false, .istore_n 3, 1, 0, (0, 0, 0, 0), 0, []),
  (2, true, .iload_n 3, 1, 0, (0, 0, 0, 0), 0, []),
  (3, false, .aload_n 0, 1, 0, (0, 0, 0, 0), 0, []),
  (4, false, .getfield 18, 3, 288, (9, 2, 0, 0), 0, []),
  (7, false, .if_icmp .ge 49, 3, 0, (56, 0, 0, 0), 0, []),
  (10, false, .aload_n 0, 1, 0, (0, 0, 0, 0), 0, []),
  (11, false, .getfield 9, 3, 285, (9, 0, 31, 1), 0, []),
  (14, false, .iload_n 3, 1, 0, (0, 0, 0, 0), 0, []),
  (15, false, .iaload, 1, 0, (29, 0, 0, 0), 0, []),
  (16, false, .iload_n 1, 1, 0, (0, 0, 0, 0), 0, []),
  (17, false, .if_icmp .ne 33, 3, 0, (50, 0, 0, 0), 0, []),
  (20, false, .aload_n 0, 1, 0, (0, 0, 0, 0), 0, []),
  (21, false, .getfield 15, 3, 287, (9, 1, 32, 1), 0, []),
  (24, false, .iload_n 3, 1, 0, (0, 0, 0, 0), 0, []),
  (25, false, .iaload, 1, 0, (30, 0, 0, 0), 0, []),
  (26, false, .iconst 2, 1, 0, (0, 0, 0, 0), 0, []),
  (27, false, .if_icmp .eq 21, 3, 0, (48, 0, 0, 0), 0, []),
  (30, false, .iload_n 2, 1, 0, (0, 0, 0, 0), 0, []),
  (31, false, .aload_n 0, 1, 0, (0, 0, 0, 0), 0, []),
  (32, false, .getfield 15, 3, 287, (9, 1, 32, 1), 0, []),
  (35, false, .iload_n 3, 1, 0, (0, 0, 0, 0), 0, []),
  (36, false, .iaload, 1, 0, (30, 0, 0, 0), 0, []),
  (37, false, .ifCond .ne 7, 3, 0, (44, 0, 0, 0), 0, []),
  (40, false, .iconst 1, 1, 0, (0, 0, 0, 0), 0, []),
  (41, false, .goto 4, 3, 0, (45, 0, 0, 0), 0, []),
  (44, false, .iconst 0, 1, 0, (0, 0, 0, 0), 0, []),
  (45, false, .if_icmp .ne 5, 3, 0, (50, 0, 0, 0), 0, []),
  (48, false, .iconst 1, 1, 0, (0, 0, 0, 0), 0, []),
  (49, false, .ireturn, 1, 0, (0, 0, 0, 0), 0, []),
  (50, false, .iinc 3 1, 3, 0, (0, 0, 0, 0), 0, []),
  (53, false, .goto (-51), 3, 0, (2, 0, 0, 0), 0, []),
  (56, false, .iconst 0, 1, 0, (0, 0, 0, 0), 0, []),
  (57, false, .ireturn, 1, 0, (0, 0, 0, 0), 0, [])]
theorem zc_xN_fit : zk_xN_fit.all (zz_ck zz_inf zM_xN_fit) = true ∧ zz_ch zk_xN_fit = true := ⟨by decide +kernel, by decide +kernel⟩
noncomputable def xN_fit_2 : Nat → Int → Int → Int → Int → zz_S → zz_R
  | 0, _, _, _, _, _ => none
  | n + 1, v0, v1, v2, v3, σ => (if v0 = 0 then none else (if v3 < (zz_h σ 9 v0 2) then (if v0 = 0 then none else (if v0 = 0 then none else (if zz_b σ 29 v0 v3 then (if (zz_h σ 29 v0 v3) = v1 then (if v0 = 0 then none else (if v0 = 0 then none else (if zz_b σ 30 v0 v3 then (if (zz_h σ 30 v0 v3) = 2 then (some (1, σ)) else (if v0 = 0 then none else (if v0 = 0 then none else (if zz_b σ 30 v0 v3 then (if (zz_h σ 30 v0 v3) = 0 then (if v2 = 1 then (some (1, σ)) else (xN_fit_2 n v0 v1 v2 (zz_r (v3 + 1)) σ)) else (if v2 = 0 then (some (1, σ)) else (xN_fit_2 n v0 v1 v2 (zz_r (v3 + 1)) σ))) else none)))) else none))) else (xN_fit_2 n v0 v1 v2 (zz_r (v3 + 1)) σ)) else none))) else (some (0, σ))))
set_option maxRecDepth 100000 in
set_option maxHeartbeats 4000000 in
theorem ze_xN_fit_2 (n : Nat) (v0 v1 v2 v3 : Int) (σ : zz_S) : xN_fit_2 (n + 1) v0 v1 v2 v3 σ = zz_ev (zz_CE []) (zz_KE [(2, [(0, 11, false), (1, 0, false), (2, 0, false), (3, 0, false)], zz_f4 (xN_fit_2 n))]) zk_xN_fit 0 true 0 0 400 true (zz_sk zk_xN_fit 2) [(0, 11, v0), (1, 0, v1), (2, 0, v2), (3, 0, v3)] [] σ := rfl
theorem zo_xN_fit_2 : ∀ n : Nat, zz_okb zM_xN_fit 2 [(0, 11, false), (1, 0, false), (2, 0, false), (3, 0, false)] (zz_f4 (xN_fit_2 n))
  | 0 => fun vs σ r τ h => by
    obtain ⟨v0, v1, v2, v3, rfl, h⟩ := zz_f4_ok h
    exact nomatch (show (none : zz_R) = some (r, τ) from h)
  | n + 1 => by
    have ih := zo_xN_fit_2 n
    exact fun vs σ r τ h => by
        obtain ⟨v0, v1, v2, v3, rfl, h⟩ := zz_f4_ok h
        exact zz_from zc_xN_fit zz_oc0 (zz_olc ih zz_ol0) ((ze_xN_fit_2 n v0 v1 v2 v3 σ).symm.trans h)
noncomputable def xN_fit (v0 v1 v2 : Int) (σ : zz_S) : zz_R := (xN_fit_2 zz_fu v0 v1 v2 0 σ)
set_option maxRecDepth 100000 in
set_option maxHeartbeats 4000000 in
theorem ze_xN_fit (v0 v1 v2 : Int) (σ : zz_S) : xN_fit v0 v1 v2 σ = zz_ev (zz_CE []) (zz_KE [(2, [(0, 11, false), (1, 0, false), (2, 0, false), (3, 0, false)], zz_f4 (xN_fit_2 zz_fu))]) zk_xN_fit 0 true 0 0 400 true (zz_sk zk_xN_fit 0) [(0, 11, v0), (1, 0, v1), (2, 0, v2)] [] σ := rfl
theorem zo_xN_fit : zz_okb zM_xN_fit 0 [(0, 11, false), (1, 0, false), (2, 0, false)] (zz_f3 xN_fit) :=
  fun vs σ r τ h => by
    obtain ⟨v0, v1, v2, rfl, h⟩ := zz_f3_ok h
    exact zz_from zc_xN_fit zz_oc0 (zz_olc (zo_xN_fit_2 zz_fu) zz_ol0) ((ze_xN_fit v0 v1 v2 σ).symm.trans h)
noncomputable def zw_xN_fit : List Int → zz_S → zz_R := zz_f3 fun a0 a1 a2 σ => xN_fit a0 a1 a2 σ
theorem zo_m_xN_fit : zz_okm zz_inf 105 zw_xN_fit := fun vs σ r τ h => by
  obtain ⟨a0, a1, a2, rfl, h⟩ := zz_f3_ok h
  exact zz_meth zi_xN_fit zy_xN_fit (zo_xN_fit [a0, a1, a2] σ r τ h)
def zk_x_fateOfDue : List zz_E := [(0, false, .aload_n 0, 1, 0, (0, 0, 0, 0), 0, []),
  (1, false, .getfield 87, 3, 182, (3, 19, 0, 0), 1, []),
  (4, false, .ifCond .eq 5, 3, 0, (9, 0, 0, 0), 0, []),
  (7, false, .iconst 4, 1, 0, (0, 0, 0, 0), 0, []),
  (8, false, .ireturn, 1, 0, (0, 0, 0, 0), 0, []),
  (9, false, .aload_n 1, 1, 0, (0, 0, 0, 0), 0, []),
  (10, false, .getfield 255, 3, 325, (7, 12, 0, 0), 0, []),
  (13, false, .aload_n 0, 1, 0, (0, 0, 0, 0), 0, []),
  (14, false, .getfield 78, 3, 179, (3, 16, 0, 0), 0, []),
  (17, false, .if_icmp .le 5, 3, 0, (22, 0, 0, 0), 0, []),
  (20, false, .iconst 5, 1, 0, (0, 0, 0, 0), 0, []),
  (21, false, .ireturn, 1, 0, (0, 0, 0, 0), 0, []),
  (22, false, .aload_n 1, 1, 0, (0, 0, 0, 0), 0, []),
  (23, false, .getfield 111, 3, 308, (7, 4, 30, 1), 0, []),
  (26, false, .iconst 3, 1, 0, (0, 0, 0, 0), 0, []),
  (27, false, .iaload, 1, 0, (28, 0, 0, 0), 0, []),
  (28, false, .ifCond .ne 13, 3, 0, (41, 0, 0, 0), 0, []),
  (31, false, .aload_n 1, 1, 0, (0, 0, 0, 0), 0, []),
  (32, false, .getfield 264, 3, 332, (7, 15, 0, 0), 0, []),
  (35, false, .ifCond .le 6, 3, 0, (41, 0, 0, 0), 0, []),
  (38, false, .bipush 7, 2, 0, (0, 0, 0, 0), 0, []),
  (40, false, .ireturn, 1, 0, (0, 0, 0, 0), 0, []),
  (41, true, .aload_n 0, 1, 0, (0, 0, 0, 0), 0, []),
  (42, false, .getfield 27, 3, 166, (3, 3, 6, 1), 0, []),
  (45, false, .getfield 318, 3, 108, (4, 3, 0, 0), 0, []),
  (48, false, .bipush 100, 2, 0, (0, 0, 0, 0), 0, []),
  (50, false, .if_icmp .lt 8, 3, 0, (58, 0, 0, 0), 0, []),
  (53, false, .bipush 6, 2, 0, (0, 0, 0, 0), 0, []),
  (55, false, .goto 5, 3, 0, (60, 0, 0, 0), 0, []),
  (58, false, .bipush 8, 2, 0, (0, 0, 0, 0), 0, []),
  (60, false, .ireturn, 1, 0, (0, 0, 0, 0), 0, [])]
theorem zc_x_fateOfDue : zk_x_fateOfDue.all (zz_ck zz_inf zM_x_fateOfDue) = true ∧ zz_ch zk_x_fateOfDue = true := ⟨by decide +kernel, by decide +kernel⟩
noncomputable def x_fateOfDue_41 (σ : zz_S) : zz_R := (if (zz_h σ 4 1 3) < 100 then (some (8, σ)) else (some (6, σ)))
set_option maxRecDepth 100000 in
set_option maxHeartbeats 4000000 in
theorem ze_x_fateOfDue_41 (σ : zz_S) : x_fateOfDue_41 σ = zz_ev (zz_CE []) (zz_KE []) zk_x_fateOfDue 0 false 0 0 400 true (zz_sk zk_x_fateOfDue 41) [(0, 5, 1)] [] σ := rfl
theorem zo_x_fateOfDue_41 : zz_okb zM_x_fateOfDue 41 [(0, 5, true)] (zz_f0 x_fateOfDue_41) :=
  fun vs σ r τ h => by
    obtain ⟨rfl, h⟩ := zz_f0_ok h
    exact zz_from zc_x_fateOfDue zz_oc0 zz_ol0 ((ze_x_fateOfDue_41 σ).symm.trans h)
noncomputable def x_fateOfDue (v1 : Int) (σ : zz_S) : zz_R := (if (zz_h σ 3 1 19) = 0 then (if v1 = 0 then none else (if (zz_h σ 7 v1 12) ≤ (zz_h σ 3 1 16) then (if v1 = 0 then none else (if v1 = 0 then none else (if zz_b σ 28 v1 3 then (if (zz_h σ 28 v1 3) = 0 then (if v1 = 0 then none else (if (zz_h σ 7 v1 15) ≤ 0 then (x_fateOfDue_41 σ) else (some (7, σ)))) else (x_fateOfDue_41 σ)) else none))) else (some (5, σ)))) else (some (4, σ)))
set_option maxRecDepth 100000 in
set_option maxHeartbeats 4000000 in
theorem ze_x_fateOfDue (v1 : Int) (σ : zz_S) : x_fateOfDue v1 σ = zz_ev (zz_CE []) (zz_KE [(41, [(0, 5, true)], zz_f0 (x_fateOfDue_41))]) zk_x_fateOfDue 0 false 0 0 400 true (zz_sk zk_x_fateOfDue 0) [(0, 5, 1), (1, 9, v1)] [] σ := rfl
theorem zo_x_fateOfDue : zz_okb zM_x_fateOfDue 0 [(0, 5, true), (1, 9, false)] (zz_f1 x_fateOfDue) :=
  fun vs σ r τ h => by
    obtain ⟨v1, rfl, h⟩ := zz_f1_ok h
    exact zz_from zc_x_fateOfDue zz_oc0 (zz_olc (zo_x_fateOfDue_41) zz_ol0) ((ze_x_fateOfDue v1 σ).symm.trans h)
noncomputable def zw_x_fateOfDue : List Int → zz_S → zz_R := zz_f2 fun a0 a1 σ => if a0 = 1 then x_fateOfDue a1 σ else none
theorem zo_m_x_fateOfDue : zz_okm zz_inf 37 zw_x_fateOfDue := fun vs σ r τ h => by
  obtain ⟨a0, a1, rfl, h⟩ := zz_f2_ok h
  obtain ⟨e, h⟩ := zz_it h
  subst e
  exact zz_meth zi_x_fateOfDue zy_x_fateOfDue (zo_x_fateOfDue [a1] σ r τ h)
def zk_xD_add : List zz_E := [(0, false, .aload_n 0, 1, 0, (0, 0, 0, 0), 0, []),
  (1, false, .getfield 25, 3, 107, (4, 3, 0, 0), 0, []),
  (4, false, .bipush 100, 2, 0, (0, 0, 0, 0), 0, []),
  (6, false, .if_icmp .lt 4, 3, 0, (10, 0, 0, 0), 0, []),
  (9, false, .return_, 1, 0, (0, 0, 0, 0), 0, []),
  (10, false, .aload_n 0, 1, 0, (0, 0, 0, 0), 0, []),
  (11, false, .getfield 11, 3, 101, (4, 0, 21, 1), 0, []),
  (14, false, .aload_n 0, 1, 0, (0, 0, 0, 0), 0, []),
  (15, false, .getfield 25, 3, 107, (4, 3, 0, 0), 0, []),
  (18, false, .aload_n 1, 1, 0, (0, 0, 0, 0), 0, []),
  (19, false, .aastore, 1, 0, (19, 0, 9, 0), 0, []),
  (20, false, .aload_n 0, 1, 0, (0, 0, 0, 0), 0, []),
  (21, false, .getfield 17, 3, 103, (4, 1, 22, 1), 0, []),
  (24, false, .aload_n 0, 1, 0, (0, 0, 0, 0), 0, []),
  (25, false, .getfield 25, 3, 107, (4, 3, 0, 0), 0, []),
  (28, false, .iload_n 2, 1, 0, (0, 0, 0, 0), 0, []),
  (29, false, .iastore, 1, 0, (20, 0, 0, 0), 0, []),
  (30, false, .aload_n 0, 1, 0, (0, 0, 0, 0), 0, []),
  (31, false, .getfield 21, 3, 105, (4, 2, 23, 1), 0, []),
  (34, false, .aload_n 0, 1, 0, (0, 0, 0, 0), 0, []),
  (35, false, .getfield 25, 3, 107, (4, 3, 0, 0), 0, []),
  (38, false, .iconst 0, 1, 0, (0, 0, 0, 0), 0, []),
  (39, false, .bastore, 1, 0, (21, 0, 0, 0), 0, []),
  (40, false, .aload_n 0, 1, 0, (0, 0, 0, 0), 0, []),
  (41, false, .dup, 1, 0, (0, 0, 0, 0), 0, []),
  (42, false, .getfield 25, 3, 107, (4, 3, 0, 0), 0, []),
  (45, false, .iconst 1, 1, 0, (0, 0, 0, 0), 0, []),
  (46, false, .iadd, 1, 0, (0, 0, 0, 0), 0, []),
  (47, false, .putfield 25, 3, 107, (4, 3, 0, 0), 0, []),
  (50, false, .aload_n 1, 1, 0, (0, 0, 0, 0), 0, []),
  (51, false, .dup, 1, 0, (0, 0, 0, 0), 0, []),
  (52, false, .getfield 29, 3, 334, (7, 16, 0, 0), 0, []),
  (55, false, .iconst 1, 1, 0, (0, 0, 0, 0), 0, []),
  (56, false, .iadd, 1, 0, (0, 0, 0, 0), 0, []),
  (57, false, .putfield 29, 3, 334, (7, 16, 0, 0), 0, []),
  (60, false, .return_, 1, 0, (0, 0, 0, 0), 0, [])]
theorem zc_xD_add : zk_xD_add.all (zz_ck zz_inf zM_xD_add) = true ∧ zz_ch zk_xD_add = true := ⟨by decide +kernel, by decide +kernel⟩
noncomputable def xD_add (v1 v2 : Int) (σ : zz_S) : zz_R := (if (zz_h σ 4 1 3) < 100 then (if zz_b σ 19 1 (zz_h σ 4 1 3) then (if v1 = 0 then none else (let s1 := zz_w σ 19 1 (zz_h σ 4 1 3) v1; (if zz_b s1 20 1 (zz_h s1 4 1 3) then (let s2 := zz_w s1 20 1 (zz_h s1 4 1 3) v2; (if zz_b s2 21 1 (zz_h s2 4 1 3) then (let s3 := zz_w s2 21 1 (zz_h s2 4 1 3) 0; (let s4 := zz_w s3 4 1 3 (zz_r ((zz_h s3 4 1 3) + 1)); (if v1 = 0 then none else (if v1 = 0 then none else (let s5 := zz_w s4 7 v1 16 (zz_r ((zz_h s4 7 v1 16) + 1)); (some (0, s5))))))) else none)) else none))) else none) else (some (0, σ)))
set_option maxRecDepth 100000 in
set_option maxHeartbeats 4000000 in
theorem ze_xD_add (v1 v2 : Int) (σ : zz_S) : xD_add v1 v2 σ = zz_ev (zz_CE []) (zz_KE []) zk_xD_add 999 false 0 0 400 true (zz_sk zk_xD_add 0) [(0, 6, 1), (1, 9, v1), (2, 0, v2)] [] σ := rfl
theorem zo_xD_add : zz_okb zM_xD_add 0 [(0, 6, true), (1, 9, false), (2, 0, false)] (zz_f2 xD_add) :=
  fun vs σ r τ h => by
    obtain ⟨v1, v2, rfl, h⟩ := zz_f2_ok h
    exact zz_from zc_xD_add zz_oc0 zz_ol0 ((ze_xD_add v1 v2 σ).symm.trans h)
noncomputable def zw_xD_add : List Int → zz_S → zz_R := zz_f3 fun a0 a1 a2 σ => if a0 = 1 then xD_add a1 a2 σ else none
theorem zo_m_xD_add : zz_okm zz_inf 76 zw_xD_add := fun vs σ r τ h => by
  obtain ⟨a0, a1, a2, rfl, h⟩ := zz_f3_ok h
  obtain ⟨e, h⟩ := zz_it h
  subst e
  exact zz_meth zi_xD_add zy_xD_add (zo_xD_add [a1, a2] σ r τ h)
def zk_xB_add : List zz_E := [(0, false, .aload_n 0, 1, 0, (0, 0, 0, 0), 0, []),
  (1, false, .getfield 21, 3, 132, (5, 3, 0, 0), 0, []),
  (4, false, .sipush 300, 3, 0, (0, 0, 0, 0), 0, []),
  (7, false, .if_icmp .ge 33, 3, 0, (40, 0, 0, 0), 0, []),
  (10, false, .aload_n 0, 1, 0, (0, 0, 0, 0), 0, []),
  (11, false, .getfield 9, 3, 126, (5, 0, 24, 1), 0, []),
  (14, false, .aload_n 0, 1, 0, (0, 0, 0, 0), 0, []),
  (15, false, .getfield 21, 3, 132, (5, 3, 0, 0), 0, []),
  (18, false, .iload_n 1, 1, 0, (0, 0, 0, 0), 0, []),
  (19, false, .iastore, 1, 0, (22, 0, 0, 0), 0, []),
  (20, false, .aload_n 0, 1, 0, (0, 0, 0, 0), 0, []),
  (21, false, .getfield 15, 3, 128, (5, 1, 25, 1), 0, []),
  (24, false, .aload_n 0, 1, 0, (0, 0, 0, 0), 0, []),
  (25, false, .getfield 21, 3, 132, (5, 3, 0, 0), 0, []),
  (28, false, .iload_n 2, 1, 0, (0, 0, 0, 0), 0, []),
  (29, false, .iastore, 1, 0, (23, 0, 0, 0), 0, []),
  (30, false, .aload_n 0, 1, 0, (0, 0, 0, 0), 0, []),
  (31, false, .getfield 18, 3, 130, (5, 2, 26, 1), 0, []),
  (34, false, .aload_n 0, 1, 0, (0, 0, 0, 0), 0, []),
  (35, false, .getfield 21, 3, 132, (5, 3, 0, 0), 0, []),
  (38, false, .iload_n 3, 1, 0, (0, 0, 0, 0), 0, []),
  (39, false, .iastore, 1, 0, (24, 0, 0, 0), 0, []),
  (40, false, .aload_n 0, 1, 0, (0, 0, 0, 0), 0, []),
  (41, false, .dup, 1, 0, (0, 0, 0, 0), 0, []),
  (42, false, .getfield 21, 3, 132, (5, 3, 0, 0), 0, []),
  (45, false, .iconst 1, 1, 0, (0, 0, 0, 0), 0, []),
  (46, false, .iadd, 1, 0, (0, 0, 0, 0), 0, []),
  (47, false, .putfield 21, 3, 132, (5, 3, 0, 0), 0, []),
  (50, false, .return_, 1, 0, (0, 0, 0, 0), 0, [])]
theorem zc_xB_add : zk_xB_add.all (zz_ck zz_inf zM_xB_add) = true ∧ zz_ch zk_xB_add = true := ⟨by decide +kernel, by decide +kernel⟩
noncomputable def xB_add (v1 v2 v3 : Int) (σ : zz_S) : zz_R := (if (zz_h σ 5 1 3) < 300 then (if zz_b σ 22 1 (zz_h σ 5 1 3) then (let s1 := zz_w σ 22 1 (zz_h σ 5 1 3) v1; (if zz_b s1 23 1 (zz_h s1 5 1 3) then (let s2 := zz_w s1 23 1 (zz_h s1 5 1 3) v2; (if zz_b s2 24 1 (zz_h s2 5 1 3) then (let s3 := zz_w s2 24 1 (zz_h s2 5 1 3) v3; (let s4 := zz_w s3 5 1 3 (zz_r ((zz_h s3 5 1 3) + 1)); (some (0, s4)))) else none)) else none)) else none) else (let s5 := zz_w σ 5 1 3 (zz_r ((zz_h σ 5 1 3) + 1)); (some (0, s5))))
set_option maxRecDepth 100000 in
set_option maxHeartbeats 4000000 in
theorem ze_xB_add (v1 v2 v3 : Int) (σ : zz_S) : xB_add v1 v2 v3 σ = zz_ev (zz_CE []) (zz_KE []) zk_xB_add 999 false 0 0 400 true (zz_sk zk_xB_add 0) [(0, 7, 1), (1, 0, v1), (2, 0, v2), (3, 0, v3)] [] σ := rfl
theorem zo_xB_add : zz_okb zM_xB_add 0 [(0, 7, true), (1, 0, false), (2, 0, false), (3, 0, false)] (zz_f3 xB_add) :=
  fun vs σ r τ h => by
    obtain ⟨v1, v2, v3, rfl, h⟩ := zz_f3_ok h
    exact zz_from zc_xB_add zz_oc0 zz_ol0 ((ze_xB_add v1 v2 v3 σ).symm.trans h)
noncomputable def zw_xB_add : List Int → zz_S → zz_R := zz_f4 fun a0 a1 a2 a3 σ => if a0 = 1 then xB_add a1 a2 a3 σ else none
theorem zo_m_xB_add : zz_okm zz_inf 82 zw_xB_add := fun vs σ r τ h => by
  obtain ⟨a0, a1, a2, a3, rfl, h⟩ := zz_f4_ok h
  obtain ⟨e, h⟩ := zz_it h
  subst e
  exact zz_meth zi_xB_add zy_xB_add (zo_xB_add [a1, a2, a3] σ r τ h)
def zk_x_pauseAgain : List zz_E := [(0, false, .aload_n 1, 1, 0, (0, 0, 0, 0), 0, []),
  (1, false, .getfield 114, 3, 301, (7, 1, 0, 0), 0, []),
  (4, false, .iconst 2, 1, 0, (0, 0, 0, 0), 0, []),
  (5, false, .if_icmp .ne 23, 3, 0, (28, 0, 0, 0), 0, []),
  (8, false, .aload_n 1, 1, 0, (0, 0, 0, 0), 0, []),
  (9, false, .getfield 319, 3, 321, (7, 10, 0, 0), 0, []),
  (12, false, .ifCond .ne 16, 3, 0, (28, 0, 0, 0), 0, []),
  (15, false, .aload_n 1, 1, 0, (0, 0, 0, 0), 0, []),
  (16, false, .aload_n 0, 1, 0, (0, 0, 0, 0), 0, []),
  (17, false, .getfield 78, 3, 179, (3, 16, 0, 0), 0, []),
  (20, false, .aload_n 1, 1, 0, (0, 0, 0, 0), 0, []),
  (21, false, .getfield 246, 3, 305, (7, 3, 0, 0), 0, []),
  (24, false, .iadd, 1, 0, (0, 0, 0, 0), 0, []),
  (25, false, .putfield 249, 3, 323, (7, 11, 0, 0), 0, []),
  (28, false, .return_, 1, 0, (0, 0, 0, 0), 0, [])]
theorem zc_x_pauseAgain : zk_x_pauseAgain.all (zz_ck zz_inf zM_x_pauseAgain) = true ∧ zz_ch zk_x_pauseAgain = true := ⟨by decide +kernel, by decide +kernel⟩
noncomputable def x_pauseAgain (v1 : Int) (σ : zz_S) : zz_R := (if v1 = 0 then none else (if (zz_h σ 7 v1 1) = 2 then (if v1 = 0 then none else (if (zz_h σ 7 v1 10) = 0 then (if v1 = 0 then none else (if v1 = 0 then none else (let s1 := zz_w σ 7 v1 11 (zz_r ((zz_h σ 3 1 16) + (zz_h σ 7 v1 3))); (some (0, s1))))) else (some (0, σ)))) else (some (0, σ))))
set_option maxRecDepth 100000 in
set_option maxHeartbeats 4000000 in
theorem ze_x_pauseAgain (v1 : Int) (σ : zz_S) : x_pauseAgain v1 σ = zz_ev (zz_CE []) (zz_KE []) zk_x_pauseAgain 999 false 0 0 400 true (zz_sk zk_x_pauseAgain 0) [(0, 5, 1), (1, 9, v1)] [] σ := rfl
theorem zo_x_pauseAgain : zz_okb zM_x_pauseAgain 0 [(0, 5, true), (1, 9, false)] (zz_f1 x_pauseAgain) :=
  fun vs σ r τ h => by
    obtain ⟨v1, rfl, h⟩ := zz_f1_ok h
    exact zz_from zc_x_pauseAgain zz_oc0 zz_ol0 ((ze_x_pauseAgain v1 σ).symm.trans h)
noncomputable def zw_x_pauseAgain : List Int → zz_S → zz_R := zz_f2 fun a0 a1 σ => if a0 = 1 then x_pauseAgain a1 σ else none
theorem zo_m_x_pauseAgain : zz_okm zz_inf 38 zw_x_pauseAgain := fun vs σ r τ h => by
  obtain ⟨a0, a1, rfl, h⟩ := zz_f2_ok h
  obtain ⟨e, h⟩ := zz_it h
  subst e
  exact zz_meth zi_x_pauseAgain zy_x_pauseAgain (zo_x_pauseAgain [a1] σ r τ h)
def zk_x_comeDue : List zz_E := [(0, false, .aload_n 0, 1, 0, (0, 0, 0, 0), 0, []),
  (1, false, .aload_n 1, 1, 0, (0, 0, 0, 0), 0, []),
  (2, false, .invokevirtual 305, 3, 526, (37, 2, 0, 0), 0, [9, 5]),
  (5, false, .istore_n 2, 1, 0, (0, 0, 0, 0), 0, []),
  (6, false, .iload_n 2, 1, 0, (0, 0, 0, 0), 0, []),
  (7, false, .bipush 8, 2, 0, (0, 0, 0, 0), 0, []),
  (9, false, .if_icmp .ne 16, 3, 0, (25, 0, 0, 0), 0, []),
  (12, false, .aload_n 0, 1, 0, (0, 0, 0, 0), 0, []),
  (13, false, .getfield 27, 3, 166, (3, 3, 6, 1), 0, []),
  (16, false, .aload_n 1, 1, 0, (0, 0, 0, 0), 0, []),
  (17, false, .aload_n 0, 1, 0, (0, 0, 0, 0), 0, []),
  (18, false, .getfield 78, 3, 179, (3, 16, 0, 0), 0, []),
  (21, false, .invokevirtual 309, 3, 530, (76, 3, 999, 0), 0, [0, 9, 6]),
  (24, false, .return_, 1, 0, (0, 0, 0, 0), 0, []),
  (25, false, .iload_n 2, 1, 0, (0, 0, 0, 0), 0, []),
  (26, false, .bipush 7, 2, 0, (0, 0, 0, 0), 0, []),
  (28, false, .if_icmp .ne 16, 3, 0, (44, 0, 0, 0), 0, []),
  (31, false, .aload_n 1, 1, 0, (0, 0, 0, 0), 0, []),
  (32, false, .dup, 1, 0, (0, 0, 0, 0), 0, []),
  (33, false, .getfield 311, 3, 337, (7, 17, 0, 0), 0, []),
  (36, false, .iconst 1, 1, 0, (0, 0, 0, 0), 0, []),
  (37, false, .iadd, 1, 0, (0, 0, 0, 0), 0, []),
  (38, false, .putfield 311, 3, 337, (7, 17, 0, 0), 0, []),
  (41, false, .goto 19, 3, 0, (60, 0, 0, 0), 0, []),
  (44, false, .aload_n 0, 1, 0, (0, 0, 0, 0), 0, []),
  (45, false, .getfield 34, 3, 167, (3, 4, 7, 1), 0, []),
  (48, false, .aload_n 1, 1, 0, (0, 0, 0, 0), 0, []),
  (49, false, .getfield 162, 3, 299, (7, 0, 0, 0), 0, []),
  (52, false, .aload_n 0, 1, 0, (0, 0, 0, 0), 0, []),
  (53, false, .getfield 78, 3, 179, (3, 16, 0, 0), 0, []),
  (56, false, .iload_n 2, 1, 0, (0, 0, 0, 0), 0, []),
  (57, false, .invokevirtual 314, 3, 534, (82, 4, 999, 0), 0, [0, 0, 0, 7]),
  (60, false, .aload_n 0, 1, 0, (0, 0, 0, 0), 0, []),
  (61, false, .aload_n 1, 1, 0, (0, 0, 0, 0), 0, []),
  (62, false, .invokevirtual 315, 3, 538, (38, 2, 999, 0), 0, [9, 5]),
  (65, false, .return_, 1, 0, (0, 0, 0, 0), 0, [])]
theorem zc_x_comeDue : zk_x_comeDue.all (zz_ck zz_inf zM_x_comeDue) = true ∧ zz_ch zk_x_comeDue = true := ⟨by decide +kernel, by decide +kernel⟩
noncomputable def x_comeDue (v1 : Int) (σ : zz_S) : zz_R := ((x_fateOfDue v1 σ).bind fun q1 => (if q1.1 = 8 then ((xD_add v1 (zz_h q1.2 3 1 16) q1.2).bind fun q2 => (some (0, q2.2))) else (if q1.1 = 7 then (if v1 = 0 then none else (if v1 = 0 then none else (let s3 := zz_w q1.2 7 v1 17 (zz_r ((zz_h q1.2 7 v1 17) + 1)); ((x_pauseAgain v1 s3).bind fun q4 => (some (0, q4.2)))))) else (if v1 = 0 then none else ((xB_add (zz_h q1.2 7 v1 0) (zz_h q1.2 3 1 16) q1.1 q1.2).bind fun q5 => ((x_pauseAgain v1 q5.2).bind fun q6 => (some (0, q6.2))))))))
set_option maxRecDepth 100000 in
set_option maxHeartbeats 4000000 in
theorem ze_x_comeDue (v1 : Int) (σ : zz_S) : x_comeDue v1 σ = zz_ev (zz_CE [(37, zw_x_fateOfDue), (38, zw_x_pauseAgain), (76, zw_xD_add), (82, zw_xB_add)]) (zz_KE []) zk_x_comeDue 999 false 0 0 400 true (zz_sk zk_x_comeDue 0) [(0, 5, 1), (1, 9, v1)] [] σ := rfl
theorem zo_x_comeDue : zz_okb zM_x_comeDue 0 [(0, 5, true), (1, 9, false)] (zz_f1 x_comeDue) :=
  fun vs σ r τ h => by
    obtain ⟨v1, rfl, h⟩ := zz_f1_ok h
    exact zz_from zc_x_comeDue (zz_occ zo_m_x_fateOfDue (zz_occ zo_m_x_pauseAgain (zz_occ zo_m_xD_add (zz_occ zo_m_xB_add zz_oc0)))) zz_ol0 ((ze_x_comeDue v1 σ).symm.trans h)
noncomputable def zw_x_comeDue : List Int → zz_S → zz_R := zz_f2 fun a0 a1 σ => if a0 = 1 then x_comeDue a1 σ else none
theorem zo_m_x_comeDue : zz_okm zz_inf 36 zw_x_comeDue := fun vs σ r τ h => by
  obtain ⟨a0, a1, rfl, h⟩ := zz_f2_ok h
  obtain ⟨e, h⟩ := zz_it h
  subst e
  exact zz_meth zi_x_comeDue zy_x_comeDue (zo_x_comeDue [a1] σ r τ h)
def zk_x_tellAfters : List zz_E := [(0, false, .iconst 0, 1, 0, (0, 0, 0, 0), 0, []),
  (1, false, .istore_n 3, 1, 0, (0, 0, 0, 0), 0, []),
  (2, true, .iload_n 3, 1, 0, (0, 0, 0, 0), 0, []),
  (3, false, .aload_n 0, 1, 0, (0, 0, 0, 0), 0, []),
  (4, false, .getfield 62, 3, 174, (3, 11, 0, 0), 0, []),
  (7, false, .if_icmp .ge 55, 3, 0, (62, 0, 0, 0), 0, []),
  (10, false, .aload_n 0, 1, 0, (0, 0, 0, 0), 0, []),
  (11, false, .iload_n 3, 1, 0, (0, 0, 0, 0), 0, []),
  (12, false, .invokevirtual 100, 3, 385, (73, 2, 9, 0), 0, [0, 5]),
  (15, false, .astore 4, 2, 0, (0, 0, 0, 0), 0, []),
  (17, false, .aload 4, 2, 0, (0, 0, 0, 0), 0, []),
  (19, false, .invokestatic 273, 3, 515, (74, 1, 0, 0), 0, [9]),
  (22, false, .ifCond .eq 34, 3, 0, (56, 0, 0, 0), 0, []),
  (25, false, .aload 4, 2, 0, (0, 0, 0, 0), 0, []),
  (27, false, .getfield 114, 3, 301, (7, 1, 0, 0), 0, []),
  (30, false, .iconst 4, 1, 0, (0, 0, 0, 0), 0, []),
  (31, false, .if_icmp .ne 25, 3, 0, (56, 0, 0, 0), 0, []),
  (34, false, .aload 4, 2, 0, (0, 0, 0, 0), 0, []),
  (36, false, .getfield 146, 3, 313, (7, 6, 11, 1), 0, []),
  (39, false, .aload_n 1, 1, 0, (0, 0, 0, 0), 0, []),
  (40, false, .getfield 162, 3, 299, (7, 0, 0, 0), 0, []),
  (43, false, .iload_n 2, 1, 0, (0, 0, 0, 0), 0, []),
  (44, false, .invokevirtual 276, 3, 518, (105, 3, 0, 0), 0, [0, 0, 11]),
  (47, false, .ifCond .eq 9, 3, 0, (56, 0, 0, 0), 0, []),
  (50, false, .aload_n 0, 1, 0, (0, 0, 0, 0), 0, []),
  (51, false, .aload 4, 2, 0, (0, 0, 0, 0), 0, []),
  (53, false, .invokevirtual 280, 3, 522, (36, 2, 999, 0), 0, [9, 5]),
  (56, false, .iinc 3 1, 3, 0, (0, 0, 0, 0), 0, []),
  (59, false, .goto (-57), 3, 0, (2, 0, 0, 0), 0, []),
  (62, false, .return_, 1, 0, (0, 0, 0, 0), 0, [])]
theorem zc_x_tellAfters : zk_x_tellAfters.all (zz_ck zz_inf zM_x_tellAfters) = true ∧ zz_ch zk_x_tellAfters = true := ⟨by decide +kernel, by decide +kernel⟩
noncomputable def x_tellAfters_2 : Nat → Int → Int → Int → zz_S → zz_R
  | 0, _, _, _, _ => none
  | n + 1, v1, v2, v3, σ => (if v3 < (zz_h σ 3 1 11) then ((x_taskAt v3 σ).bind fun q1 => ((x_isActive q1.1 q1.2).bind fun q2 => (if q2.1 = 0 then (x_tellAfters_2 n v1 v2 (zz_r (v3 + 1)) q2.2) else (if q1.1 = 0 then none else (if (zz_h q2.2 7 q1.1 1) = 4 then (if q1.1 = 0 then none else (if v1 = 0 then none else (if q1.1 = 0 then none else ((xN_fit q1.1 (zz_h q2.2 7 v1 0) v2 q2.2).bind fun q3 => (if q3.1 = 0 then (x_tellAfters_2 n v1 v2 (zz_r (v3 + 1)) q3.2) else ((x_comeDue q1.1 q3.2).bind fun q4 => (x_tellAfters_2 n v1 v2 (zz_r (v3 + 1)) q4.2))))))) else (x_tellAfters_2 n v1 v2 (zz_r (v3 + 1)) q2.2)))))) else (some (0, σ)))
set_option maxRecDepth 100000 in
set_option maxHeartbeats 4000000 in
theorem ze_x_tellAfters_2 (n : Nat) (v1 v2 v3 : Int) (σ : zz_S) : x_tellAfters_2 (n + 1) v1 v2 v3 σ = zz_ev (zz_CE [(36, zw_x_comeDue), (73, zw_x_taskAt), (74, zw_x_isActive), (105, zw_xN_fit)]) (zz_KE [(2, [(0, 5, true), (1, 9, false), (2, 0, false), (3, 0, false)], zz_f3 (x_tellAfters_2 n))]) zk_x_tellAfters 999 false 0 0 400 true (zz_sk zk_x_tellAfters 2) [(0, 5, 1), (1, 9, v1), (2, 0, v2), (3, 0, v3)] [] σ := rfl
theorem zo_x_tellAfters_2 : ∀ n : Nat, zz_okb zM_x_tellAfters 2 [(0, 5, true), (1, 9, false), (2, 0, false), (3, 0, false)] (zz_f3 (x_tellAfters_2 n))
  | 0 => fun vs σ r τ h => by
    obtain ⟨v1, v2, v3, rfl, h⟩ := zz_f3_ok h
    exact nomatch (show (none : zz_R) = some (r, τ) from h)
  | n + 1 => by
    have ih := zo_x_tellAfters_2 n
    exact fun vs σ r τ h => by
        obtain ⟨v1, v2, v3, rfl, h⟩ := zz_f3_ok h
        exact zz_from zc_x_tellAfters (zz_occ zo_m_x_comeDue (zz_occ zo_m_x_taskAt (zz_occ zo_m_x_isActive (zz_occ zo_m_xN_fit zz_oc0)))) (zz_olc ih zz_ol0) ((ze_x_tellAfters_2 n v1 v2 v3 σ).symm.trans h)
noncomputable def x_tellAfters (v1 v2 : Int) (σ : zz_S) : zz_R := (x_tellAfters_2 zz_fu v1 v2 0 σ)
set_option maxRecDepth 100000 in
set_option maxHeartbeats 4000000 in
theorem ze_x_tellAfters (v1 v2 : Int) (σ : zz_S) : x_tellAfters v1 v2 σ = zz_ev (zz_CE []) (zz_KE [(2, [(0, 5, true), (1, 9, false), (2, 0, false), (3, 0, false)], zz_f3 (x_tellAfters_2 zz_fu))]) zk_x_tellAfters 999 false 0 0 400 true (zz_sk zk_x_tellAfters 0) [(0, 5, 1), (1, 9, v1), (2, 0, v2)] [] σ := rfl
theorem zo_x_tellAfters : zz_okb zM_x_tellAfters 0 [(0, 5, true), (1, 9, false), (2, 0, false)] (zz_f2 x_tellAfters) :=
  fun vs σ r τ h => by
    obtain ⟨v1, v2, rfl, h⟩ := zz_f2_ok h
    exact zz_from zc_x_tellAfters zz_oc0 (zz_olc (zo_x_tellAfters_2 zz_fu) zz_ol0) ((ze_x_tellAfters v1 v2 σ).symm.trans h)
noncomputable def zw_x_tellAfters : List Int → zz_S → zz_R := zz_f3 fun a0 a1 a2 σ => if a0 = 1 then x_tellAfters a1 a2 σ else none
theorem zo_m_x_tellAfters : zz_okm zz_inf 33 zw_x_tellAfters := fun vs σ r τ h => by
  obtain ⟨a0, a1, a2, rfl, h⟩ := zz_f3_ok h
  obtain ⟨e, h⟩ := zz_it h
  subst e
  exact zz_meth zi_x_tellAfters zy_x_tellAfters (zo_x_tellAfters [a1, a2] σ r τ h)
def zk_x_endRun : List zz_E := [(0, false, .aload_n 1, 1, 0, (0, 0, 0, 0), 0, []),
  (1, false, .getfield 203, 3, 636, (10, 1, 9, 0), 0, []),
  (4, false, .astore_n 2, 1, 0, (0, 0, 0, 0), 0, []),
  (5, false, .aload_n 0, 1, 0, (0, 0, 0, 0), 0, []),
  (6, false, .getfield 41, 3, 168, (3, 5, 8, 1), 0, []),
  (9, false, .aload_n 2, 1, 0, (0, 0, 0, 0), 0, []),
  (10, false, .getfield 162, 3, 299, (7, 0, 0, 0), 0, []),
  (13, false, .aload_n 1, 1, 0, (0, 0, 0, 0), 0, []),
  (14, false, .getfield 207, 3, 638, (10, 2, 0, 0), 0, []),
  (17, false, .invokevirtual 210, 3, 475, (86, 3, 0, 0), 0, [0, 0, 8]),
  (20, false, .istore_n 3, 1, 0, (0, 0, 0, 0), 0, []),
  (21, false, .iload_n 3, 1, 0, (0, 0, 0, 0), 0, []),
  (22, false, .iconst (-1), 1, 0, (0, 0, 0, 0), 0, []),
  (23, false, .if_icmp .ne 9, 3, 0, (32, 0, 0, 0), 0, []),
  (26, false, .aload_n 0, 1, 0, (0, 0, 0, 0), 0, []),
  (27, false, .aload_n 1, 1, 0, (0, 0, 0, 0), 0, []),
  (28, false, .invokevirtual 213, 3, 479, (29, 2, 0, 0), 0, [12, 5]),
  (31, false, .istore_n 3, 1, 0, (0, 0, 0, 0), 0, []),
  (32, true, .iload_n 3, 1, 0, (0, 0, 0, 0), 0, []),
  (33, false, .iconst (-1), 1, 0, (0, 0, 0, 0), 0, []),
  (34, false, .if_icmp .ne 7, 3, 0, (41, 0, 0, 0), 0, []),
  (37, false, .iconst 1, 1, 0, (0, 0, 0, 0), 0, []),
  (38, false, .goto 4, 3, 0, (42, 0, 0, 0), 0, []),
  (41, false, .iconst 0, 1, 0, (0, 0, 0, 0), 0, []),
  (42, false, .istore 4, 2, 0, (0, 0, 0, 0), 0, []),
  (44, false, .aload_n 0, 1, 0, (0, 0, 0, 0), 0, []),
  (45, false, .aload_n 1, 1, 0, (0, 0, 0, 0), 0, []),
  (46, false, .iload 4, 2, 0, (0, 0, 0, 0), 0, []),
  (48, false, .ifCond .eq 7, 3, 0, (55, 0, 0, 0), 0, []),
  (51, false, .iconst 1, 1, 0, (0, 0, 0, 0), 0, []),
  (52, false, .goto 4, 3, 0, (56, 0, 0, 0), 0, []),
  (55, false, .iconst 2, 1, 0, (0, 0, 0, 0), 0, []),
  (56, false, .invokevirtual 216, 3, 499, (32, 3, 999, 0), 0, [0, 12, 5]),
  (59, false, .aload_n 1, 1, 0, (0, 0, 0, 0), 0, []),
  (60, false, .iload_n 3, 1, 0, (0, 0, 0, 0), 0, []),
  (61, false, .putfield 220, 3, 654, (10, 10, 0, 0), 0, []),
  (64, false, .iload 4, 2, 0, (0, 0, 0, 0), 0, []),
  (66, false, .ifCond .eq 11, 3, 0, (77, 0, 0, 0), 0, []),
  (69, false, .aload_n 2, 1, 0, (0, 0, 0, 0), 0, []),
  (70, false, .iconst 0, 1, 0, (0, 0, 0, 0), 0, []),
  (71, false, .putfield 223, 3, 327, (7, 13, 0, 0), 0, []),
  (74, false, .goto 13, 3, 0, (87, 0, 0, 0), 0, []),
  (77, false, .aload_n 2, 1, 0, (0, 0, 0, 0), 0, []),
  (78, false, .dup, 1, 0, (0, 0, 0, 0), 0, []),
  (79, false, .getfield 223, 3, 327, (7, 13, 0, 0), 0, []),
  (82, false, .iconst 1, 1, 0, (0, 0, 0, 0), 0, []),
  (83, false, .iadd, 1, 0, (0, 0, 0, 0), 0, []),
  (84, false, .putfield 223, 3, 327, (7, 13, 0, 0), 0, []),
  (87, true, .aload_n 2, 1, 0, (0, 0, 0, 0), 0, []),
  (88, false, .invokevirtual 226, 3, 483, (88, 1, 0, 0), 0, [9]),
  (91, false, .ifCond .eq 10, 3, 0, (101, 0, 0, 0), 0, []),
  (94, false, .aload_n 0, 1, 0, (0, 0, 0, 0), 0, []),
  (95, false, .aload_n 2, 1, 0, (0, 0, 0, 0), 0, []),
  (96, false, .iload 4, 2, 0, (0, 0, 0, 0), 0, []),
  (98, false, .invokevirtual 230, 3, 503, (30, 3, 999, 0), 0, [0, 9, 5]),
  (101, false, .aload_n 0, 1, 0, (0, 0, 0, 0), 0, []),
  (102, false, .aload_n 2, 1, 0, (0, 0, 0, 0), 0, []),
  (103, false, .iload 4, 2, 0, (0, 0, 0, 0), 0, []),
  (105, false, .invokevirtual 234, 3, 511, (33, 3, 999, 0), 0, [0, 9, 5]),
  (108, false, .return_, 1, 0, (0, 0, 0, 0), 0, [])]
theorem zc_x_endRun : zk_x_endRun.all (zz_ck zz_inf zM_x_endRun) = true ∧ zz_ch zk_x_endRun = true := ⟨by decide +kernel, by decide +kernel⟩
noncomputable def x_endRun_87 (v2 v4 : Int) (σ : zz_S) : zz_R := (if v2 = 0 then none else ((xT_isActive v2 σ).bind fun q1 => (if q1.1 = 0 then ((x_tellAfters v2 v4 q1.2).bind fun q2 => (some (0, q2.2))) else ((x_followEnd v2 v4 q1.2).bind fun q3 => ((x_tellAfters v2 v4 q3.2).bind fun q4 => (some (0, q4.2)))))))
set_option maxRecDepth 100000 in
set_option maxHeartbeats 4000000 in
theorem ze_x_endRun_87 (v2 v4 : Int) (σ : zz_S) : x_endRun_87 v2 v4 σ = zz_ev (zz_CE [(30, zw_x_followEnd), (33, zw_x_tellAfters), (88, zw_xT_isActive)]) (zz_KE []) zk_x_endRun 999 false 0 0 400 true (zz_sk zk_x_endRun 87) [(0, 5, 1), (2, 9, v2), (4, 0, v4)] [] σ := rfl
theorem zo_x_endRun_87 : zz_okb zM_x_endRun 87 [(0, 5, true), (2, 9, false), (4, 0, false)] (zz_f2 x_endRun_87) :=
  fun vs σ r τ h => by
    obtain ⟨v2, v4, rfl, h⟩ := zz_f2_ok h
    exact zz_from zc_x_endRun (zz_occ zo_m_x_followEnd (zz_occ zo_m_x_tellAfters (zz_occ zo_m_xT_isActive zz_oc0))) zz_ol0 ((ze_x_endRun_87 v2 v4 σ).symm.trans h)
noncomputable def x_endRun_32 (v1 v2 v3 : Int) (σ : zz_S) : zz_R := (if v3 = (-1) then ((x_layDown v1 1 σ).bind fun q1 => (if v1 = 0 then none else (let s2 := zz_w q1.2 10 v1 10 v3; (if v2 = 0 then none else (let s3 := zz_w s2 7 v2 13 0; (x_endRun_87 v2 1 s3)))))) else ((x_layDown v1 2 σ).bind fun q4 => (if v1 = 0 then none else (let s5 := zz_w q4.2 10 v1 10 v3; (if v2 = 0 then none else (if v2 = 0 then none else (let s6 := zz_w s5 7 v2 13 (zz_r ((zz_h s5 7 v2 13) + 1)); (x_endRun_87 v2 0 s6))))))))
set_option maxRecDepth 100000 in
set_option maxHeartbeats 4000000 in
theorem ze_x_endRun_32 (v1 v2 v3 : Int) (σ : zz_S) : x_endRun_32 v1 v2 v3 σ = zz_ev (zz_CE [(32, zw_x_layDown)]) (zz_KE [(87, [(0, 5, true), (2, 9, false), (4, 0, false)], zz_f2 (x_endRun_87))]) zk_x_endRun 999 false 0 0 400 true (zz_sk zk_x_endRun 32) [(0, 5, 1), (1, 12, v1), (2, 9, v2), (3, 0, v3)] [] σ := rfl
theorem zo_x_endRun_32 : zz_okb zM_x_endRun 32 [(0, 5, true), (1, 12, false), (2, 9, false), (3, 0, false)] (zz_f3 x_endRun_32) :=
  fun vs σ r τ h => by
    obtain ⟨v1, v2, v3, rfl, h⟩ := zz_f3_ok h
    exact zz_from zc_x_endRun (zz_occ zo_m_x_layDown zz_oc0) (zz_olc (zo_x_endRun_87) zz_ol0) ((ze_x_endRun_32 v1 v2 v3 σ).symm.trans h)
noncomputable def x_endRun (v1 : Int) (σ : zz_S) : zz_R := (if v1 = 0 then none else (if (zz_h σ 10 v1 1) = 0 then none else (if v1 = 0 then none else ((xP_kindOf (zz_h σ 7 (zz_h σ 10 v1 1) 0) (zz_h σ 10 v1 2) σ).bind fun q1 => (if q1.1 = (-1) then ((x_act v1 q1.2).bind fun q2 => (x_endRun_32 v1 (zz_h σ 10 v1 1) q2.1 q2.2)) else (x_endRun_32 v1 (zz_h σ 10 v1 1) q1.1 q1.2))))))
set_option maxRecDepth 100000 in
set_option maxHeartbeats 4000000 in
theorem ze_x_endRun (v1 : Int) (σ : zz_S) : x_endRun v1 σ = zz_ev (zz_CE [(29, zw_x_act), (86, zw_xP_kindOf)]) (zz_KE [(32, [(0, 5, true), (1, 12, false), (2, 9, false), (3, 0, false)], zz_f3 (x_endRun_32))]) zk_x_endRun 999 false 0 0 400 true (zz_sk zk_x_endRun 0) [(0, 5, 1), (1, 12, v1)] [] σ := rfl
theorem zo_x_endRun : zz_okb zM_x_endRun 0 [(0, 5, true), (1, 12, false)] (zz_f1 x_endRun) :=
  fun vs σ r τ h => by
    obtain ⟨v1, rfl, h⟩ := zz_f1_ok h
    exact zz_from zc_x_endRun (zz_occ zo_m_x_act (zz_occ zo_m_xP_kindOf zz_oc0)) (zz_olc (zo_x_endRun_32) zz_ol0) ((ze_x_endRun v1 σ).symm.trans h)
noncomputable def zw_x_endRun : List Int → zz_S → zz_R := zz_f2 fun a0 a1 σ => if a0 = 1 then x_endRun a1 σ else none
theorem zo_m_x_endRun : zz_okm zz_inf 28 zw_x_endRun := fun vs σ r τ h => by
  obtain ⟨a0, a1, rfl, h⟩ := zz_f2_ok h
  obtain ⟨e, h⟩ := zz_it h
  subst e
  exact zz_meth zi_x_endRun zy_x_endRun (zo_x_endRun [a1] σ r τ h)
def zk_x_endRuns : List zz_E := [(0, false, .iconst 0, 1, 0, (0, 0, 0, 0), 0, []),
  (1, false, .istore_n 1, 1, 0, (0, 0, 0, 0), 0, []),
  (2, true, .iload_n 1, 1, 0, (0, 0, 0, 0), 0, []),
  (3, false, .bipush 8, 2, 0, (0, 0, 0, 0), 0, []),
  (5, false, .if_icmp .ge 24, 3, 0, (29, 0, 0, 0), 0, []),
  (8, false, .aload_n 0, 1, 0, (0, 0, 0, 0), 0, []),
  (9, false, .invokevirtual 192, 3, 467, (27, 1, 12, 0), 0, [5]),
  (12, false, .astore_n 2, 1, 0, (0, 0, 0, 0), 0, []),
  (13, false, .aload_n 2, 1, 0, (0, 0, 0, 0), 0, []),
  (14, false, .ifnonnull 4, 3, 0, (18, 0, 0, 0), 0, []),
  (17, false, .return_, 1, 0, (0, 0, 0, 0), 0, []),
  (18, false, .aload_n 0, 1, 0, (0, 0, 0, 0), 0, []),
  (19, false, .aload_n 2, 1, 0, (0, 0, 0, 0), 0, []),
  (20, false, .invokevirtual 196, 3, 471, (28, 2, 999, 0), 0, [12, 5]),
  (23, false, .iinc 1 1, 3, 0, (0, 0, 0, 0), 0, []),
  (26, false, .goto (-24), 3, 0, (2, 0, 0, 0), 0, []),
  (29, false, .return_, 1, 0, (0, 0, 0, 0), 0, [])]
theorem zc_x_endRuns : zk_x_endRuns.all (zz_ck zz_inf zM_x_endRuns) = true ∧ zz_ch zk_x_endRuns = true := ⟨by decide +kernel, by decide +kernel⟩
noncomputable def x_endRuns_2 : Nat → Int → zz_S → zz_R
  | 0, _, _ => none
  | n + 1, v1, σ => (if v1 < 8 then ((x_firstEnding σ).bind fun q1 => (if q1.1 = 0 then (some (0, q1.2)) else ((x_endRun q1.1 q1.2).bind fun q2 => (x_endRuns_2 n (zz_r (v1 + 1)) q2.2)))) else (some (0, σ)))
set_option maxRecDepth 100000 in
set_option maxHeartbeats 4000000 in
theorem ze_x_endRuns_2 (n : Nat) (v1 : Int) (σ : zz_S) : x_endRuns_2 (n + 1) v1 σ = zz_ev (zz_CE [(27, zw_x_firstEnding), (28, zw_x_endRun)]) (zz_KE [(2, [(0, 5, true), (1, 0, false)], zz_f1 (x_endRuns_2 n))]) zk_x_endRuns 999 false 0 0 400 true (zz_sk zk_x_endRuns 2) [(0, 5, 1), (1, 0, v1)] [] σ := rfl
theorem zo_x_endRuns_2 : ∀ n : Nat, zz_okb zM_x_endRuns 2 [(0, 5, true), (1, 0, false)] (zz_f1 (x_endRuns_2 n))
  | 0 => fun vs σ r τ h => by
    obtain ⟨v1, rfl, h⟩ := zz_f1_ok h
    exact nomatch (show (none : zz_R) = some (r, τ) from h)
  | n + 1 => by
    have ih := zo_x_endRuns_2 n
    exact fun vs σ r τ h => by
        obtain ⟨v1, rfl, h⟩ := zz_f1_ok h
        exact zz_from zc_x_endRuns (zz_occ zo_m_x_firstEnding (zz_occ zo_m_x_endRun zz_oc0)) (zz_olc ih zz_ol0) ((ze_x_endRuns_2 n v1 σ).symm.trans h)
noncomputable def x_endRuns (σ : zz_S) : zz_R := (x_endRuns_2 zz_fu 0 σ)
set_option maxRecDepth 100000 in
set_option maxHeartbeats 4000000 in
theorem ze_x_endRuns (σ : zz_S) : x_endRuns σ = zz_ev (zz_CE []) (zz_KE [(2, [(0, 5, true), (1, 0, false)], zz_f1 (x_endRuns_2 zz_fu))]) zk_x_endRuns 999 false 0 0 400 true (zz_sk zk_x_endRuns 0) [(0, 5, 1)] [] σ := rfl
theorem zo_x_endRuns : zz_okb zM_x_endRuns 0 [(0, 5, true)] (zz_f0 x_endRuns) :=
  fun vs σ r τ h => by
    obtain ⟨rfl, h⟩ := zz_f0_ok h
    exact zz_from zc_x_endRuns zz_oc0 (zz_olc (zo_x_endRuns_2 zz_fu) zz_ol0) ((ze_x_endRuns σ).symm.trans h)
noncomputable def zw_x_endRuns : List Int → zz_S → zz_R := zz_f1 fun a0 σ => if a0 = 1 then x_endRuns σ else none
theorem zo_m_x_endRuns : zz_okm zz_inf 26 zw_x_endRuns := fun vs σ r τ h => by
  obtain ⟨a0, rfl, h⟩ := zz_f1_ok h
  obtain ⟨e, h⟩ := zz_it h
  subst e
  exact zz_meth zi_x_endRuns zy_x_endRuns (zo_x_endRuns [] σ r τ h)
def zk_xT_step : List zz_E := [(0, false, .aload_n 0, 1, 0, (0, 0, 0, 0), 0, []),
  (1, false, .getfield 75, 3, 304, (7, 3, 0, 0), 0, []),
  (4, false, .iconst 1, 1, 0, (0, 0, 0, 0), 0, []),
  (5, false, .invokestatic 81, 3, 554, (168, 2, 0, 0), 0, [0, 0]),
  (8, false, .ireturn, 1, 0, (0, 0, 0, 0), 0, [])]
theorem zc_xT_step : zk_xT_step.all (zz_ck zz_inf zM_xT_step) = true ∧ zz_ch zk_xT_step = true := ⟨by decide +kernel, by decide +kernel⟩
noncomputable def xT_step (v0 : Int) (σ : zz_S) : zz_R := (if v0 = 0 then none else ((j_max (zz_h σ 7 v0 3) 1 σ).bind fun q1 => (some (q1.1, q1.2))))
set_option maxRecDepth 100000 in
set_option maxHeartbeats 4000000 in
theorem ze_xT_step (v0 : Int) (σ : zz_S) : xT_step v0 σ = zz_ev (zz_CE [(168, zw_j_max)]) (zz_KE []) zk_xT_step 0 false 0 0 400 true (zz_sk zk_xT_step 0) [(0, 9, v0)] [] σ := rfl
theorem zo_xT_step : zz_okb zM_xT_step 0 [(0, 9, false)] (zz_f1 xT_step) :=
  fun vs σ r τ h => by
    obtain ⟨v0, rfl, h⟩ := zz_f1_ok h
    exact zz_from zc_xT_step (zz_occ zo_m_j_max zz_oc0) zz_ol0 ((ze_xT_step v0 σ).symm.trans h)
noncomputable def zw_xT_step : List Int → zz_S → zz_R := zz_f1 fun a0 σ => xT_step a0 σ
theorem zo_m_xT_step : zz_okm zz_inf 91 zw_xT_step := fun vs σ r τ h => by
  obtain ⟨a0, rfl, h⟩ := zz_f1_ok h
  exact zz_meth zi_xT_step zy_xT_step (zo_xT_step [a0] σ r τ h)
def zk_j_floorMod : List zz_E := [(0, false, .iload_n 0, 1, 0, (0, 0, 0, 0), 0, []),
  (1, false, .iload_n 1, 1, 0, (0, 0, 0, 0), 0, []),
  (2, false, .irem, 1, 0, (0, 0, 0, 0), 0, []),
  (3, false, .istore_n 2, 1, 0, (0, 0, 0, 0), 0, []),
  (4, false, .iload_n 0, 1, 0, (0, 0, 0, 0), 0, []),
  (5, false, .iload_n 1, 1, 0, (0, 0, 0, 0), 0, []),
  (6, false, .ixor, 1, 0, (0, 0, 0, 0), 0, []),
  (7, false, .ifCond .ge 11, 3, 0, (18, 0, 0, 0), 0, []),
  (10, false, .iload_n 2, 1, 0, (0, 0, 0, 0), 0, []),
  (11, false, .ifCond .eq 7, 3, 0, (18, 0, 0, 0), 0, []),
  (14, false, .iload_n 2, 1, 0, (0, 0, 0, 0), 0, []),
  (15, false, .iload_n 1, 1, 0, (0, 0, 0, 0), 0, []),
  (16, false, .iadd, 1, 0, (0, 0, 0, 0), 0, []),
  (17, false, .ireturn, 1, 0, (0, 0, 0, 0), 0, []),
  (18, false, .iload_n 2, 1, 0, (0, 0, 0, 0), 0, []),
  (19, false, .ireturn, 1, 0, (0, 0, 0, 0), 0, [])]
theorem zc_j_floorMod : zk_j_floorMod.all (zz_ck zz_inf zM_j_floorMod) = true ∧ zz_ch zk_j_floorMod = true := ⟨by decide +kernel, by decide +kernel⟩
noncomputable def j_floorMod (v0 v1 : Int) (σ : zz_S) : zz_R := (if v1 = 0 then none else (if (zz_xor v0 v1) < 0 then (if (zz_rem v0 v1) = 0 then (some ((zz_rem v0 v1), σ)) else (some ((zz_r ((zz_rem v0 v1) + v1)), σ))) else (some ((zz_rem v0 v1), σ))))
set_option maxRecDepth 100000 in
set_option maxHeartbeats 4000000 in
theorem ze_j_floorMod (v0 v1 : Int) (σ : zz_S) : j_floorMod v0 v1 σ = zz_ev (zz_CE []) (zz_KE []) zk_j_floorMod 0 false 0 0 400 true (zz_sk zk_j_floorMod 0) [(0, 0, v0), (1, 0, v1)] [] σ := rfl
theorem zo_j_floorMod : zz_okb zM_j_floorMod 0 [(0, 0, false), (1, 0, false)] (zz_f2 j_floorMod) :=
  fun vs σ r τ h => by
    obtain ⟨v0, v1, rfl, h⟩ := zz_f2_ok h
    exact zz_from zc_j_floorMod zz_oc0 zz_ol0 ((ze_j_floorMod v0 v1 σ).symm.trans h)
noncomputable def zw_j_floorMod : List Int → zz_S → zz_R := zz_f2 fun a0 a1 σ => j_floorMod a0 a1 σ
theorem zo_m_j_floorMod : zz_okm zz_inf 170 zw_j_floorMod := fun vs σ r τ h => by
  obtain ⟨a0, a1, rfl, h⟩ := zz_f2_ok h
  exact zz_meth zi_j_floorMod zy_j_floorMod (zo_j_floorMod [a0, a1] σ r τ h)
def zk_xC_minuteFits : List zz_E := [(0, false, .aload_n 0, 1, 0, (0, 0, 0, 0), 0, []),
  (1, false, .getfield 17, 3, 255, (8, 1, 1, 0), 0, []),
  (4, false, .iload_n 1, 1, 0, (0, 0, 0, 0), 0, []),
  (5, false, .bipush 60, 2, 0, (0, 0, 0, 0), 0, []),
  (7, false, .irem, 1, 0, (0, 0, 0, 0), 0, []),
  (8, false, .lshr, 1, 0, (0, 0, 0, 0), 0, []),
  (9, false, .lconst 1, 1, 0, (0, 0, 0, 0), 1, []),
  (10, false, .land, 1, 0, (0, 0, 0, 0), 0, []),
  (11, false, .lconst 0, 1, 0, (0, 0, 0, 0), 0, []),
  (12, false, .lcmp, 1, 0, (0, 0, 0, 0), 0, []),
  (13, false, .ifCond .eq 7, 3, 0, (20, 0, 0, 0), 0, []),
  (16, false, .iconst 1, 1, 0, (0, 0, 0, 0), 0, []),
  (17, false, .goto 4, 3, 0, (21, 0, 0, 0), 0, []),
  (20, false, .iconst 0, 1, 0, (0, 0, 0, 0), 0, []),
  (21, false, .ireturn, 1, 0, (0, 0, 0, 0), 0, [])]
theorem zc_xC_minuteFits : zk_xC_minuteFits.all (zz_ck zz_inf zM_xC_minuteFits) = true ∧ zz_ch zk_xC_minuteFits = true := ⟨by decide +kernel, by decide +kernel⟩
noncomputable def xC_minuteFits (v0 v1 : Int) (σ : zz_S) : zz_R := (if v0 = 0 then none else (if (zz_lc (zz_land (zz_lshr (zz_h σ 8 v0 1) (zz_rem v1 60)) 1) 0) = 0 then (some (0, σ)) else (some (1, σ))))
set_option maxRecDepth 100000 in
set_option maxHeartbeats 4000000 in
theorem ze_xC_minuteFits (v0 v1 : Int) (σ : zz_S) : xC_minuteFits v0 v1 σ = zz_ev (zz_CE []) (zz_KE []) zk_xC_minuteFits 0 true 0 0 400 true (zz_sk zk_xC_minuteFits 0) [(0, 10, v0), (1, 0, v1)] [] σ := rfl
theorem zo_xC_minuteFits : zz_okb zM_xC_minuteFits 0 [(0, 10, false), (1, 0, false)] (zz_f2 xC_minuteFits) :=
  fun vs σ r τ h => by
    obtain ⟨v0, v1, rfl, h⟩ := zz_f2_ok h
    exact zz_from zc_xC_minuteFits zz_oc0 zz_ol0 ((ze_xC_minuteFits v0 v1 σ).symm.trans h)
noncomputable def zw_xC_minuteFits : List Int → zz_S → zz_R := zz_f2 fun a0 a1 σ => xC_minuteFits a0 a1 σ
theorem zo_m_xC_minuteFits : zz_okm zz_inf 98 zw_xC_minuteFits := fun vs σ r τ h => by
  obtain ⟨a0, a1, rfl, h⟩ := zz_f2_ok h
  exact zz_meth zi_xC_minuteFits zy_xC_minuteFits (zo_xC_minuteFits [a0, a1] σ r τ h)
def zk_xC_hourFits : List zz_E := [(0, false, .aload_n 0, 1, 0, (0, 0, 0, 0), 0, []),
  (1, false, .getfield 21, 3, 256, (8, 2, 0, 0), 0, []),
  (4, false, .iload_n 1, 1, 0, (0, 0, 0, 0), 0, []),
  (5, false, .bipush 60, 2, 0, (0, 0, 0, 0), 0, []),
  (7, false, .idiv, 1, 0, (0, 0, 0, 0), 0, []),
  (8, false, .bipush 24, 2, 0, (0, 0, 0, 0), 0, []),
  (10, false, .irem, 1, 0, (0, 0, 0, 0), 0, []),
  (11, false, .ishr, 1, 0, (0, 0, 0, 0), 0, []),
  (12, false, .iconst 1, 1, 0, (0, 0, 0, 0), 0, []),
  (13, false, .iand, 1, 0, (0, 0, 0, 0), 0, []),
  (14, false, .ifCond .eq 7, 3, 0, (21, 0, 0, 0), 0, []),
  (17, false, .iconst 1, 1, 0, (0, 0, 0, 0), 0, []),
  (18, false, .goto 4, 3, 0, (22, 0, 0, 0), 0, []),
  (21, false, .iconst 0, 1, 0, (0, 0, 0, 0), 0, []),
  (22, false, .ireturn, 1, 0, (0, 0, 0, 0), 0, [])]
theorem zc_xC_hourFits : zk_xC_hourFits.all (zz_ck zz_inf zM_xC_hourFits) = true ∧ zz_ch zk_xC_hourFits = true := ⟨by decide +kernel, by decide +kernel⟩
noncomputable def xC_hourFits (v0 v1 : Int) (σ : zz_S) : zz_R := (if v0 = 0 then none else (if (zz_and (zz_shr (zz_h σ 8 v0 2) (zz_rem (zz_div v1 60) 24)) 1) = 0 then (some (0, σ)) else (some (1, σ))))
set_option maxRecDepth 100000 in
set_option maxHeartbeats 4000000 in
theorem ze_xC_hourFits (v0 v1 : Int) (σ : zz_S) : xC_hourFits v0 v1 σ = zz_ev (zz_CE []) (zz_KE []) zk_xC_hourFits 0 true 0 0 400 true (zz_sk zk_xC_hourFits 0) [(0, 10, v0), (1, 0, v1)] [] σ := rfl
theorem zo_xC_hourFits : zz_okb zM_xC_hourFits 0 [(0, 10, false), (1, 0, false)] (zz_f2 xC_hourFits) :=
  fun vs σ r τ h => by
    obtain ⟨v0, v1, rfl, h⟩ := zz_f2_ok h
    exact zz_from zc_xC_hourFits zz_oc0 zz_ol0 ((ze_xC_hourFits v0 v1 σ).symm.trans h)
noncomputable def zw_xC_hourFits : List Int → zz_S → zz_R := zz_f2 fun a0 a1 σ => xC_hourFits a0 a1 σ
theorem zo_m_xC_hourFits : zz_okm zz_inf 99 zw_xC_hourFits := fun vs σ r τ h => by
  obtain ⟨a0, a1, rfl, h⟩ := zz_f2_ok h
  exact zz_meth zi_xC_hourFits zy_xC_hourFits (zo_xC_hourFits [a0, a1] σ r τ h)
def zk_xC_monthOf : List zz_E := [(0, false, .iconst 0, 1, 0, (0, 0, 0, 0), 0, []),
  (1, false, .istore_n 1, 1, 0, (0, 0, 0, 0), 0, []),
  (2, true, .iload_n 1, 1, 0, (0, 0, 0, 0), 0, []),
  (3, false, .bipush 11, 2, 0, (0, 0, 0, 0), 0, []),
  (5, false, .if_icmp .ge 20, 3, 0, (25, 0, 0, 0), 0, []),
  (8, false, .iload_n 0, 1, 0, (0, 0, 0, 0), 0, []),
  (9, false, .getstatic 66, 3, 577, (1, 0, 0, 0), 0, []),
  (12, false, .iload_n 1, 1, 0, (0, 0, 0, 0), 0, []),
  (13, false, .iconst 1, 1, 0, (0, 0, 0, 0), 0, []),
  (14, false, .iadd, 1, 0, (0, 0, 0, 0), 0, []),
  (15, false, .iaload, 1, 0, (1, 0, 0, 0), 0, []),
  (16, false, .if_icmp .lt 9, 3, 0, (25, 0, 0, 0), 0, []),
  (19, false, .iinc 1 1, 3, 0, (0, 0, 0, 0), 0, []),
  (22, false, .goto (-20), 3, 0, (2, 0, 0, 0), 0, []),
  (25, false, .iload_n 1, 1, 0, (0, 0, 0, 0), 0, []),
  (26, false, .ireturn, 1, 0, (0, 0, 0, 0), 0, [])]
theorem zc_xC_monthOf : zk_xC_monthOf.all (zz_ck zz_inf zM_xC_monthOf) = true ∧ zz_ch zk_xC_monthOf = true := ⟨by decide +kernel, by decide +kernel⟩
noncomputable def xC_monthOf_2 : Nat → Int → Int → zz_S → zz_R
  | 0, _, _, _ => none
  | n + 1, v0, v1, σ => (if v1 < 11 then (if zz_b σ 1 1 (zz_r (v1 + 1)) then (if v0 < (zz_h σ 1 1 (zz_r (v1 + 1))) then (some (v1, σ)) else (xC_monthOf_2 n v0 (zz_r (v1 + 1)) σ)) else none) else (some (v1, σ)))
set_option maxRecDepth 100000 in
set_option maxHeartbeats 4000000 in
theorem ze_xC_monthOf_2 (n : Nat) (v0 v1 : Int) (σ : zz_S) : xC_monthOf_2 (n + 1) v0 v1 σ = zz_ev (zz_CE []) (zz_KE [(2, [(0, 0, false), (1, 0, false)], zz_f2 (xC_monthOf_2 n))]) zk_xC_monthOf 0 false 0 0 400 true (zz_sk zk_xC_monthOf 2) [(0, 0, v0), (1, 0, v1)] [] σ := rfl
theorem zo_xC_monthOf_2 : ∀ n : Nat, zz_okb zM_xC_monthOf 2 [(0, 0, false), (1, 0, false)] (zz_f2 (xC_monthOf_2 n))
  | 0 => fun vs σ r τ h => by
    obtain ⟨v0, v1, rfl, h⟩ := zz_f2_ok h
    exact nomatch (show (none : zz_R) = some (r, τ) from h)
  | n + 1 => by
    have ih := zo_xC_monthOf_2 n
    exact fun vs σ r τ h => by
        obtain ⟨v0, v1, rfl, h⟩ := zz_f2_ok h
        exact zz_from zc_xC_monthOf zz_oc0 (zz_olc ih zz_ol0) ((ze_xC_monthOf_2 n v0 v1 σ).symm.trans h)
noncomputable def xC_monthOf (v0 : Int) (σ : zz_S) : zz_R := (xC_monthOf_2 zz_fu v0 0 σ)
set_option maxRecDepth 100000 in
set_option maxHeartbeats 4000000 in
theorem ze_xC_monthOf (v0 : Int) (σ : zz_S) : xC_monthOf v0 σ = zz_ev (zz_CE []) (zz_KE [(2, [(0, 0, false), (1, 0, false)], zz_f2 (xC_monthOf_2 zz_fu))]) zk_xC_monthOf 0 false 0 0 400 true (zz_sk zk_xC_monthOf 0) [(0, 0, v0)] [] σ := rfl
theorem zo_xC_monthOf : zz_okb zM_xC_monthOf 0 [(0, 0, false)] (zz_f1 xC_monthOf) :=
  fun vs σ r τ h => by
    obtain ⟨v0, rfl, h⟩ := zz_f1_ok h
    exact zz_from zc_xC_monthOf zz_oc0 (zz_olc (zo_xC_monthOf_2 zz_fu) zz_ol0) ((ze_xC_monthOf v0 σ).symm.trans h)
noncomputable def zw_xC_monthOf : List Int → zz_S → zz_R := zz_f1 fun a0 σ => xC_monthOf a0 σ
theorem zo_m_xC_monthOf : zz_okm zz_inf 102 zw_xC_monthOf := fun vs σ r τ h => by
  obtain ⟨a0, rfl, h⟩ := zz_f1_ok h
  exact zz_meth zi_xC_monthOf zy_xC_monthOf (zo_xC_monthOf [a0] σ r τ h)
def zk_xC_dayFits : List zz_E := [(0, false, .aload_n 0, 1, 0, (0, 0, 0, 0), 0, []),
  (1, false, .getfield 24, 3, 257, (8, 3, 0, 0), 0, []),
  (4, false, .iload_n 1, 1, 0, (0, 0, 0, 0), 0, []),
  (5, false, .bipush 7, 2, 0, (0, 0, 0, 0), 0, []),
  (7, false, .irem, 1, 0, (0, 0, 0, 0), 0, []),
  (8, false, .ishr, 1, 0, (0, 0, 0, 0), 0, []),
  (9, false, .iconst 1, 1, 0, (0, 0, 0, 0), 0, []),
  (10, false, .iand, 1, 0, (0, 0, 0, 0), 0, []),
  (11, false, .ifCond .ne 5, 3, 0, (16, 0, 0, 0), 0, []),
  (14, false, .iconst 0, 1, 0, (0, 0, 0, 0), 0, []),
  (15, false, .ireturn, 1, 0, (0, 0, 0, 0), 0, []),
  (16, false, .iload_n 1, 1, 0, (0, 0, 0, 0), 0, []),
  (17, false, .invokestatic 62, 3, 574, (102, 1, 0, 0), 0, [0]),
  (20, false, .istore_n 2, 1, 0, (0, 0, 0, 0), 0, []),
  (21, false, .iload_n 1, 1, 0, (0, 0, 0, 0), 0, []),
  (22, false, .getstatic 66, 3, 577, (1, 0, 0, 0), 0, []),
  (25, false, .iload_n 2, 1, 0, (0, 0, 0, 0), 0, []),
  (26, false, .iaload, 1, 0, (1, 0, 0, 0), 0, []),
  (27, false, .isub, 1, 0, (0, 0, 0, 0), 0, []),
  (28, false, .istore_n 3, 1, 0, (0, 0, 0, 0), 0, []),
  (29, false, .aload_n 0, 1, 0, (0, 0, 0, 0), 0, []),
  (30, false, .getfield 36, 3, 261, (8, 7, 0, 0), 1, []),
  (33, false, .ifCond .eq 18, 3, 0, (51, 0, 0, 0), 0, []),
  (36, false, .iload_n 1, 1, 0, (0, 0, 0, 0), 0, []),
  (37, false, .iconst 1, 1, 0, (0, 0, 0, 0), 0, []),
  (38, false, .iadd, 1, 0, (0, 0, 0, 0), 0, []),
  (39, false, .getstatic 66, 3, 577, (1, 0, 0, 0), 0, []),
  (42, false, .iload_n 2, 1, 0, (0, 0, 0, 0), 0, []),
  (43, false, .iconst 1, 1, 0, (0, 0, 0, 0), 0, []),
  (44, false, .iadd, 1, 0, (0, 0, 0, 0), 0, []),
  (45, false, .iaload, 1, 0, (1, 0, 0, 0), 0, []),
  (46, false, .if_icmp .eq 5, 3, 0, (51, 0, 0, 0), 0, []),
  (49, false, .iconst 0, 1, 0, (0, 0, 0, 0), 0, []),
  (50, false, .ireturn, 1, 0, (0, 0, 0, 0), 0, []),
  (51, true, .aload_n 0, 1, 0, (0, 0, 0, 0), 0, []),
  (52, false, .getfield 33, 3, 260, (8, 6, 0, 0), 0, []),
  (55, false, .iload_n 2, 1, 0, (0, 0, 0, 0), 0, []),
  (56, false, .ishr, 1, 0, (0, 0, 0, 0), 0, []),
  (57, false, .iconst 1, 1, 0, (0, 0, 0, 0), 0, []),
  (58, false, .iand, 1, 0, (0, 0, 0, 0), 0, []),
  (59, false, .ifCond .eq 32, 3, 0, (91, 0, 0, 0), 0, []),
  (62, false, .aload_n 0, 1, 0, (0, 0, 0, 0), 0, []),
  (63, false, .getfield 27, 3, 258, (8, 4, 0, 0), 0, []),
  (66, false, .iload_n 3, 1, 0, (0, 0, 0, 0), 0, []),
  (67, false, .ishr, 1, 0, (0, 0, 0, 0), 0, []),
  (68, false, .iconst 1, 1, 0, (0, 0, 0, 0), 0, []),
  (69, false, .iand, 1, 0, (0, 0, 0, 0), 0, []),
  (70, false, .ifCond .eq 21, 3, 0, (91, 0, 0, 0), 0, []),
  (73, false, .aload_n 0, 1, 0, (0, 0, 0, 0), 0, []),
  (74, false, .getfield 30, 3, 259, (8, 5, 0, 0), 0, []),
  (77, false, .iload_n 3, 1, 0, (0, 0, 0, 0), 0, []),
  (78, false, .bipush 7, 2, 0, (0, 0, 0, 0), 0, []),
  (80, false, .idiv, 1, 0, (0, 0, 0, 0), 0, []),
  (81, false, .ishr, 1, 0, (0, 0, 0, 0), 0, []),
  (82, false, .iconst 1, 1, 0, (0, 0, 0, 0), 0, []),
  (83, false, .iand, 1, 0, (0, 0, 0, 0), 0, []),
  (84, false, .ifCond .eq 7, 3, 0, (91, 0, 0, 0), 0, []),
  (87, false, .iconst 1, 1, 0, (0, 0, 0, 0), 0, []),
  (88, false, .goto 4, 3, 0, (92, 0, 0, 0), 0, []),
  (91, false, .iconst 0, 1, 0, (0, 0, 0, 0), 0, []),
  (92, false, .ireturn, 1, 0, (0, 0, 0, 0), 0, [])]
theorem zc_xC_dayFits : zk_xC_dayFits.all (zz_ck zz_inf zM_xC_dayFits) = true ∧ zz_ch zk_xC_dayFits = true := ⟨by decide +kernel, by decide +kernel⟩
noncomputable def xC_dayFits_51 (v0 v2 v3 : Int) (σ : zz_S) : zz_R := (if v0 = 0 then none else (if (zz_and (zz_shr (zz_h σ 8 v0 6) v2) 1) = 0 then (some (0, σ)) else (if v0 = 0 then none else (if (zz_and (zz_shr (zz_h σ 8 v0 4) v3) 1) = 0 then (some (0, σ)) else (if v0 = 0 then none else (if (zz_and (zz_shr (zz_h σ 8 v0 5) (zz_div v3 7)) 1) = 0 then (some (0, σ)) else (some (1, σ))))))))
set_option maxRecDepth 100000 in
set_option maxHeartbeats 4000000 in
theorem ze_xC_dayFits_51 (v0 v2 v3 : Int) (σ : zz_S) : xC_dayFits_51 v0 v2 v3 σ = zz_ev (zz_CE []) (zz_KE []) zk_xC_dayFits 0 true 0 0 400 true (zz_sk zk_xC_dayFits 51) [(0, 10, v0), (2, 0, v2), (3, 0, v3)] [] σ := rfl
theorem zo_xC_dayFits_51 : zz_okb zM_xC_dayFits 51 [(0, 10, false), (2, 0, false), (3, 0, false)] (zz_f3 xC_dayFits_51) :=
  fun vs σ r τ h => by
    obtain ⟨v0, v2, v3, rfl, h⟩ := zz_f3_ok h
    exact zz_from zc_xC_dayFits zz_oc0 zz_ol0 ((ze_xC_dayFits_51 v0 v2 v3 σ).symm.trans h)
noncomputable def xC_dayFits (v0 v1 : Int) (σ : zz_S) : zz_R := (if v0 = 0 then none else (if (zz_and (zz_shr (zz_h σ 8 v0 3) (zz_rem v1 7)) 1) = 0 then (some (0, σ)) else ((xC_monthOf v1 σ).bind fun q1 => (if zz_b q1.2 1 1 q1.1 then (if v0 = 0 then none else (if (zz_h q1.2 8 v0 7) = 0 then (xC_dayFits_51 v0 q1.1 (zz_r (v1 - (zz_h q1.2 1 1 q1.1))) q1.2) else (if zz_b q1.2 1 1 (zz_r (q1.1 + 1)) then (if (zz_r (v1 + 1)) = (zz_h q1.2 1 1 (zz_r (q1.1 + 1))) then (xC_dayFits_51 v0 q1.1 (zz_r (v1 - (zz_h q1.2 1 1 q1.1))) q1.2) else (some (0, q1.2))) else none))) else none))))
set_option maxRecDepth 100000 in
set_option maxHeartbeats 4000000 in
theorem ze_xC_dayFits (v0 v1 : Int) (σ : zz_S) : xC_dayFits v0 v1 σ = zz_ev (zz_CE [(102, zw_xC_monthOf)]) (zz_KE [(51, [(0, 10, false), (2, 0, false), (3, 0, false)], zz_f3 (xC_dayFits_51))]) zk_xC_dayFits 0 true 0 0 400 true (zz_sk zk_xC_dayFits 0) [(0, 10, v0), (1, 0, v1)] [] σ := rfl
theorem zo_xC_dayFits : zz_okb zM_xC_dayFits 0 [(0, 10, false), (1, 0, false)] (zz_f2 xC_dayFits) :=
  fun vs σ r τ h => by
    obtain ⟨v0, v1, rfl, h⟩ := zz_f2_ok h
    exact zz_from zc_xC_dayFits (zz_occ zo_m_xC_monthOf zz_oc0) (zz_olc (zo_xC_dayFits_51) zz_ol0) ((ze_xC_dayFits v0 v1 σ).symm.trans h)
noncomputable def zw_xC_dayFits : List Int → zz_S → zz_R := zz_f2 fun a0 a1 σ => xC_dayFits a0 a1 σ
theorem zo_m_xC_dayFits : zz_okm zz_inf 100 zw_xC_dayFits := fun vs σ r τ h => by
  obtain ⟨a0, a1, rfl, h⟩ := zz_f2_ok h
  exact zz_meth zi_xC_dayFits zy_xC_dayFits (zo_xC_dayFits [a0, a1] σ r τ h)
def zk_xC_fits : List zz_E := [(0, false, .iload_n 1, 1, 0, (0, 0, 0, 0), 0, []),
  (1, false, .ifCond .lt 35, 3, 0, (36, 0, 0, 0), 0, []),
  (4, false, .aload_n 0, 1, 0, (0, 0, 0, 0), 0, []),
  (5, false, .iload_n 1, 1, 0, (0, 0, 0, 0), 0, []),
  (6, false, .invokevirtual 52, 3, 562, (98, 2, 0, 0), 0, [0, 10]),
  (9, false, .ifCond .eq 27, 3, 0, (36, 0, 0, 0), 0, []),
  (12, false, .aload_n 0, 1, 0, (0, 0, 0, 0), 0, []),
  (13, false, .iload_n 1, 1, 0, (0, 0, 0, 0), 0, []),
  (14, false, .invokevirtual 56, 3, 566, (99, 2, 0, 0), 0, [0, 10]),
  (17, false, .ifCond .eq 19, 3, 0, (36, 0, 0, 0), 0, []),
  (20, false, .aload_n 0, 1, 0, (0, 0, 0, 0), 0, []),
  (21, false, .iload_n 1, 1, 0, (0, 0, 0, 0), 0, []),
  (22, false, .sipush 1440, 3, 0, (0, 0, 0, 0), 0, []),
  (25, false, .idiv, 1, 0, (0, 0, 0, 0), 0, []),
  (26, false, .invokevirtual 59, 3, 570, (100, 2, 0, 0), 0, [0, 10]),
  (29, false, .ifCond .eq 7, 3, 0, (36, 0, 0, 0), 0, []),
  (32, false, .iconst 1, 1, 0, (0, 0, 0, 0), 0, []),
  (33, false, .goto 4, 3, 0, (37, 0, 0, 0), 0, []),
  (36, false, .iconst 0, 1, 0, (0, 0, 0, 0), 0, []),
  (37, false, .ireturn, 1, 0, (0, 0, 0, 0), 0, [])]
theorem zc_xC_fits : zk_xC_fits.all (zz_ck zz_inf zM_xC_fits) = true ∧ zz_ch zk_xC_fits = true := ⟨by decide +kernel, by decide +kernel⟩
noncomputable def xC_fits (v0 v1 : Int) (σ : zz_S) : zz_R := (if v1 < 0 then (some (0, σ)) else (if v0 = 0 then none else ((xC_minuteFits v0 v1 σ).bind fun q1 => (if q1.1 = 0 then (some (0, q1.2)) else (if v0 = 0 then none else ((xC_hourFits v0 v1 q1.2).bind fun q2 => (if q2.1 = 0 then (some (0, q2.2)) else (if v0 = 0 then none else ((xC_dayFits v0 (zz_div v1 1440) q2.2).bind fun q3 => (if q3.1 = 0 then (some (0, q3.2)) else (some (1, q3.2))))))))))))
set_option maxRecDepth 100000 in
set_option maxHeartbeats 4000000 in
theorem ze_xC_fits (v0 v1 : Int) (σ : zz_S) : xC_fits v0 v1 σ = zz_ev (zz_CE [(98, zw_xC_minuteFits), (99, zw_xC_hourFits), (100, zw_xC_dayFits)]) (zz_KE []) zk_xC_fits 0 true 0 0 400 true (zz_sk zk_xC_fits 0) [(0, 10, v0), (1, 0, v1)] [] σ := rfl
theorem zo_xC_fits : zz_okb zM_xC_fits 0 [(0, 10, false), (1, 0, false)] (zz_f2 xC_fits) :=
  fun vs σ r τ h => by
    obtain ⟨v0, v1, rfl, h⟩ := zz_f2_ok h
    exact zz_from zc_xC_fits (zz_occ zo_m_xC_minuteFits (zz_occ zo_m_xC_hourFits (zz_occ zo_m_xC_dayFits zz_oc0))) zz_ol0 ((ze_xC_fits v0 v1 σ).symm.trans h)
noncomputable def zw_xC_fits : List Int → zz_S → zz_R := zz_f2 fun a0 a1 σ => xC_fits a0 a1 σ
theorem zo_m_xC_fits : zz_okm zz_inf 97 zw_xC_fits := fun vs σ r τ h => by
  obtain ⟨a0, a1, rfl, h⟩ := zz_f2_ok h
  exact zz_meth zi_xC_fits zy_xC_fits (zo_xC_fits [a0, a1] σ r τ h)
