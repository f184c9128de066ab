def zk_x_isDueByKind : List zz_E := [(0, false, .aload_n 1, 1, 0, (0, 0, 0, 0), 0, []),
  (1, false, .getfield 114, 3, 301, (7, 1, 0, 0), 0, []),
  (4, false, .tableswitch 127 0 3 #[32, 49, 85, 102], 32, 0, (131, 0, 0, 0), 0, [36, 53, 89, 106]),
  (36, false, .aload_n 1, 1, 0, (0, 0, 0, 0), 0, []),
  (37, false, .getfield 292, 3, 303, (7, 2, 0, 0), 0, []),
  (40, false, .aload_n 0, 1, 0, (0, 0, 0, 0), 0, []),
  (41, false, .getfield 78, 3, 179, (3, 16, 0, 0), 0, []),
  (44, false, .if_icmp .ne 7, 3, 0, (51, 0, 0, 0), 0, []),
  (47, false, .iconst 1, 1, 0, (0, 0, 0, 0), 0, []),
  (48, false, .goto 4, 3, 0, (52, 0, 0, 0), 0, []),
  (51, false, .iconst 0, 1, 0, (0, 0, 0, 0), 0, []),
  (52, false, .ireturn, 1, 0, (0, 0, 0, 0), 0, []),
  (53, false, .aload_n 1, 1, 0, (0, 0, 0, 0), 0, []),
  (54, false, .getfield 292, 3, 303, (7, 2, 0, 0), 0, []),
  (57, false, .aload_n 0, 1, 0, (0, 0, 0, 0), 0, []),
  (58, false, .getfield 78, 3, 179, (3, 16, 0, 0), 0, []),
  (61, false, .if_icmp .gt 26, 3, 0, (87, 0, 0, 0), 0, []),
  (64, false, .aload_n 0, 1, 0, (0, 0, 0, 0), 0, []),
  (65, false, .getfield 78, 3, 179, (3, 16, 0, 0), 0, []),
  (68, false, .aload_n 1, 1, 0, (0, 0, 0, 0), 0, []),
  (69, false, .getfield 292, 3, 303, (7, 2, 0, 0), 0, []),
  (72, false, .isub, 1, 0, (0, 0, 0, 0), 0, []),
  (73, false, .aload_n 1, 1, 0, (0, 0, 0, 0), 0, []),
  (74, false, .invokevirtual 295, 3, 550, (91, 1, 0, 0), 0, [9]),
  (77, false, .invokestatic 299, 3, 555, (170, 2, 0, 0), 0, [0, 0]),
  (80, false, .ifCond .ne 7, 3, 0, (87, 0, 0, 0), 0, []),
  (83, false, .iconst 1, 1, 0, (0, 0, 0, 0), 0, []),
  (84, false, .goto 4, 3, 0, (88, 0, 0, 0), 0, []),
  (87, false, .iconst 0, 1, 0, (0, 0, 0, 0), 0, []),
  (88, false, .ireturn, 1, 0, (0, 0, 0, 0), 0, []),
  (89, false, .aload_n 1, 1, 0, (0, 0, 0, 0), 0, []),
  (90, false, .getfield 249, 3, 323, (7, 11, 0, 0), 0, []),
  (93, false, .aload_n 0, 1, 0, (0, 0, 0, 0), 0, []),
  (94, false, .getfield 78, 3, 179, (3, 16, 0, 0), 0, []),
  (97, false, .if_icmp .ne 7, 3, 0, (104, 0, 0, 0), 0, []),
  (100, false, .iconst 1, 1, 0, (0, 0, 0, 0), 0, []),
  (101, false, .goto 4, 3, 0, (105, 0, 0, 0), 0, []),
  (104, false, .iconst 0, 1, 0, (0, 0, 0, 0), 0, []),
  (105, false, .ireturn, 1, 0, (0, 0, 0, 0), 0, []),
  (106, false, .iload_n 2, 1, 0, (0, 0, 0, 0), 0, []),
  (107, false, .aload_n 0, 1, 0, (0, 0, 0, 0), 0, []),
  (108, false, .getfield 84, 3, 181, (3, 18, 0, 0), 0, []),
  (111, false, .if_icmp .le 18, 3, 0, (129, 0, 0, 0), 0, []),
  (114, false, .aload_n 1, 1, 0, (0, 0, 0, 0), 0, []),
  (115, false, .getfield 122, 3, 311, (7, 5, 10, 1), 0, []),
  (118, false, .iload_n 2, 1, 0, (0, 0, 0, 0), 0, []),
  (119, false, .invokevirtual 302, 3, 558, (97, 2, 0, 0), 0, [0, 10]),
  (122, false, .ifCond .eq 7, 3, 0, (129, 0, 0, 0), 0, []),
  (125, false, .iconst 1, 1, 0, (0, 0, 0, 0), 0, []),
  (126, false, .goto 4, 3, 0, (130, 0, 0, 0), 0, []),
  (129, false, .iconst 0, 1, 0, (0, 0, 0, 0), 0, []),
  (130, false, .ireturn, 1, 0, (0, 0, 0, 0), 0, []),
  (131, false, .iconst 0, 1, 0, (0, 0, 0, 0), 0, []),
  (132, false, .ireturn, 1, 0, (0, 0, 0, 0), 0, [])]
theorem zc_x_isDueByKind : zk_x_isDueByKind.all (zz_ck zz_inf zM_x_isDueByKind) = true ∧ zz_ch zk_x_isDueByKind = true := ⟨by decide +kernel, by decide +kernel⟩
noncomputable def x_isDueByKind (v1 v2 : Int) (σ : zz_S) : zz_R := (if v1 = 0 then none else (if (zz_h σ 7 v1 1) = 0 then (if v1 = 0 then none else (if (zz_h σ 7 v1 2) = (zz_h σ 3 1 16) then (some (1, σ)) else (some (0, σ)))) else (if (zz_h σ 7 v1 1) = 1 then (if v1 = 0 then none else (if (zz_h σ 7 v1 2) ≤ (zz_h σ 3 1 16) then (if v1 = 0 then none else (if v1 = 0 then none else ((xT_step v1 σ).bind fun q2 => ((j_floorMod (zz_r ((zz_h σ 3 1 16) - (zz_h σ 7 v1 2))) q2.1 q2.2).bind fun q3 => (if q3.1 = 0 then (some (1, q3.2)) else (some (0, q3.2))))))) else (some (0, σ)))) else (if (zz_h σ 7 v1 1) = 2 then (if v1 = 0 then none else (if (zz_h σ 7 v1 11) = (zz_h σ 3 1 16) then (some (1, σ)) else (some (0, σ)))) else (if (zz_h σ 7 v1 1) = 3 then (if v2 ≤ (zz_h σ 3 1 18) then (some (0, σ)) else (if v1 = 0 then none else (if v1 = 0 then none else ((xC_fits v1 v2 σ).bind fun q1 => (if q1.1 = 0 then (some (0, q1.2)) else (some (1, q1.2))))))) else (some (0, σ)))))))
set_option maxRecDepth 100000 in
set_option maxHeartbeats 4000000 in
theorem ze_x_isDueByKind (v1 v2 : Int) (σ : zz_S) : x_isDueByKind v1 v2 σ = zz_ev (zz_CE [(91, zw_xT_step), (97, zw_xC_fits), (170, zw_j_floorMod)]) (zz_KE []) zk_x_isDueByKind 0 true 0 0 400 true (zz_sk zk_x_isDueByKind 0) [(0, 5, 1), (1, 9, v1), (2, 0, v2)] [] σ := rfl
theorem zo_x_isDueByKind : zz_okb zM_x_isDueByKind 0 [(0, 5, true), (1, 9, false), (2, 0, false)] (zz_f2 x_isDueByKind) :=
  fun vs σ r τ h => by
    obtain ⟨v1, v2, rfl, h⟩ := zz_f2_ok h
    exact zz_from zc_x_isDueByKind (zz_occ zo_m_xT_step (zz_occ zo_m_xC_fits (zz_occ zo_m_j_floorMod zz_oc0))) zz_ol0 ((ze_x_isDueByKind v1 v2 σ).symm.trans h)
noncomputable def zw_x_isDueByKind : List Int → zz_S → zz_R := zz_f3 fun a0 a1 a2 σ => if a0 = 1 then x_isDueByKind a1 a2 σ else none
theorem zo_m_x_isDueByKind : zz_okm zz_inf 35 zw_x_isDueByKind := fun vs σ r τ h => by
  obtain ⟨a0, a1, a2, rfl, h⟩ := zz_f3_ok h
  obtain ⟨e, h⟩ := zz_it h
  subst e
  exact zz_meth zi_x_isDueByKind zy_x_isDueByKind (zo_x_isDueByKind [a1, a2] σ r τ h)
def zk_xT_isFiredFor : List zz_E := [(0, false, .aload_n 0, 1, 0, (0, 0, 0, 0), 0, []),
  (1, false, .getfield 60, 3, 338, (7, 18, 0, 0), 0, []),
  (4, false, .iload_n 1, 1, 0, (0, 0, 0, 0), 0, []),
  (5, false, .if_icmp .eq 11, 3, 0, (16, 0, 0, 0), 0, []),
  (8, false, .aload_n 0, 1, 0, (0, 0, 0, 0), 0, []),
  (9, false, .getfield 63, 3, 339, (7, 19, 0, 0), 0, []),
  (12, false, .iload_n 1, 1, 0, (0, 0, 0, 0), 0, []),
  (13, false, .if_icmp .ne 7, 3, 0, (20, 0, 0, 0), 0, []),
  (16, false, .iconst 1, 1, 0, (0, 0, 0, 0), 0, []),
  (17, false, .goto 4, 3, 0, (21, 0, 0, 0), 0, []),
  (20, false, .iconst 0, 1, 0, (0, 0, 0, 0), 0, []),
  (21, false, .ireturn, 1, 0, (0, 0, 0, 0), 0, [])]
theorem zc_xT_isFiredFor : zk_xT_isFiredFor.all (zz_ck zz_inf zM_xT_isFiredFor) = true ∧ zz_ch zk_xT_isFiredFor = true := ⟨by decide +kernel, by decide +kernel⟩
noncomputable def xT_isFiredFor (v0 v1 : Int) (σ : zz_S) : zz_R := (if v0 = 0 then none else (if (zz_h σ 7 v0 18) = v1 then (some (1, σ)) else (if v0 = 0 then none else (if (zz_h σ 7 v0 19) = v1 then (some (1, σ)) else (some (0, σ))))))
set_option maxRecDepth 100000 in
set_option maxHeartbeats 4000000 in
theorem ze_xT_isFiredFor (v0 v1 : Int) (σ : zz_S) : xT_isFiredFor v0 v1 σ = zz_ev (zz_CE []) (zz_KE []) zk_xT_isFiredFor 0 true 0 0 400 true (zz_sk zk_xT_isFiredFor 0) [(0, 9, v0), (1, 0, v1)] [] σ := rfl
theorem zo_xT_isFiredFor : zz_okb zM_xT_isFiredFor 0 [(0, 9, false), (1, 0, false)] (zz_f2 xT_isFiredFor) :=
  fun vs σ r τ h => by
    obtain ⟨v0, v1, rfl, h⟩ := zz_f2_ok h
    exact zz_from zc_xT_isFiredFor zz_oc0 zz_ol0 ((ze_xT_isFiredFor v0 v1 σ).symm.trans h)
noncomputable def zw_xT_isFiredFor : List Int → zz_S → zz_R := zz_f2 fun a0 a1 σ => xT_isFiredFor a0 a1 σ
theorem zo_m_xT_isFiredFor : zz_okm zz_inf 90 zw_xT_isFiredFor := fun vs σ r τ h => by
  obtain ⟨a0, a1, rfl, h⟩ := zz_f2_ok h
  exact zz_meth zi_xT_isFiredFor zy_xT_isFiredFor (zo_xT_isFiredFor [a0, a1] σ r τ h)
def zk_x_bringDues : List zz_E := [(0, false, .aload_n 0, 1, 0, (0, 0, 0, 0), 0, []),
  (1, false, .getfield 78, 3, 179, (3, 16, 0, 0), 0, []),
  (4, false, .aload_n 0, 1, 0, (0, 0, 0, 0), 0, []),
  (5, false, .getfield 81, 3, 180, (3, 17, 0, 0), 0, []),
  (8, false, .iadd, 1, 0, (0, 0, 0, 0), 0, []),
  (9, false, .istore_n 1, 1, 0, (0, 0, 0, 0), 0, []),
  (10, false, .iconst 0, 1, 0, (0, 0, 0, 0), 0, []),
  (11, false, .istore_n 2, 1, 0, (0, 0, 0, 0), 0, []),
  (12, true, .iload_n 2, 1, 0, (0, 0, 0, 0), 0, []),
  (13, false, .aload_n 0, 1, 0, (0, 0, 0, 0), 0, []),
  (14, false, .getfield 62, 3, 174, (3, 11, 0, 0), 0, []),
  (17, false, .if_icmp .ge 68, 3, 0, (85, 0, 0, 0), 0, []),
  (20, false, .aload_n 0, 1, 0, (0, 0, 0, 0), 0, []),
  (21, false, .iload_n 2, 1, 0, (0, 0, 0, 0), 0, []),
  (22, false, .invokevirtual 100, 3, 385, (73, 2, 9, 0), 0, [0, 5]),
  (25, false, .astore_n 3, 1, 0, (0, 0, 0, 0), 0, []),
  (26, false, .aload_n 3, 1, 0, (0, 0, 0, 0), 0, []),
  (27, false, .invokestatic 273, 3, 515, (74, 1, 0, 0), 0, [9]),
  (30, false, .ifCond .ne 6, 3, 0, (36, 0, 0, 0), 0, []),
  (33, false, .goto 46, 3, 0, (79, 0, 0, 0), 0, []),
  (36, false, .aload_n 0, 1, 0, (0, 0, 0, 0), 0, []),
  (37, false, .aload_n 3, 1, 0, (0, 0, 0, 0), 0, []),
  (38, false, .iload_n 1, 1, 0, (0, 0, 0, 0), 0, []),
  (39, false, .invokevirtual 284, 3, 546, (35, 3, 0, 0), 0, [0, 9, 5]),
  (42, false, .ifCond .eq 21, 3, 0, (63, 0, 0, 0), 0, []),
  (45, false, .aload_n 3, 1, 0, (0, 0, 0, 0), 0, []),
  (46, false, .getfield 114, 3, 301, (7, 1, 0, 0), 0, []),
  (49, false, .iconst 2, 1, 0, (0, 0, 0, 0), 0, []),
  (50, false, .if_icmp .ne 8, 3, 0, (58, 0, 0, 0), 0, []),
  (53, false, .aload_n 3, 1, 0, (0, 0, 0, 0), 0, []),
  (54, false, .iconst (-1), 1, 0, (0, 0, 0, 0), 0, []),
  (55, false, .putfield 249, 3, 323, (7, 11, 0, 0), 0, []),
  (58, false, .aload_n 0, 1, 0, (0, 0, 0, 0), 0, []),
  (59, false, .aload_n 3, 1, 0, (0, 0, 0, 0), 0, []),
  (60, false, .invokevirtual 280, 3, 522, (36, 2, 999, 0), 0, [9, 5]),
  (63, true, .aload_n 3, 1, 0, (0, 0, 0, 0), 0, []),
  (64, false, .aload_n 0, 1, 0, (0, 0, 0, 0), 0, []),
  (65, false, .getfield 78, 3, 179, (3, 16, 0, 0), 0, []),
  (68, false, .invokevirtual 288, 3, 579, (90, 2, 0, 0), 0, [0, 9]),
  (71, false, .ifCond .eq 8, 3, 0, (79, 0, 0, 0), 0, []),
  (74, false, .aload_n 0, 1, 0, (0, 0, 0, 0), 0, []),
  (75, false, .aload_n 3, 1, 0, (0, 0, 0, 0), 0, []),
  (76, false, .invokevirtual 280, 3, 522, (36, 2, 999, 0), 0, [9, 5]),
  (79, false, .iinc 2 1, 3, 0, (0, 0, 0, 0), 0, []),
  (82, false, .goto (-70), 3, 0, (12, 0, 0, 0), 0, []),
  (85, false, .aload_n 0, 1, 0, (0, 0, 0, 0), 0, []),
  (86, false, .aload_n 0, 1, 0, (0, 0, 0, 0), 0, []),
  (87, false, .getfield 84, 3, 181, (3, 18, 0, 0), 0, []),
  (90, false, .iload_n 1, 1, 0, (0, 0, 0, 0), 0, []),
  (91, false, .invokestatic 258, 3, 510, (168, 2, 0, 0), 0, [0, 0]),
  (94, false, .putfield 84, 3, 181, (3, 18, 0, 0), 0, []),
  (97, false, .return_, 1, 0, (0, 0, 0, 0), 0, [])]
theorem zc_x_bringDues : zk_x_bringDues.all (zz_ck zz_inf zM_x_bringDues) = true ∧ zz_ch zk_x_bringDues = true := ⟨by decide +kernel, by decide +kernel⟩
noncomputable def x_bringDues_63 (k12 : Int → Int → zz_S → zz_R) (v1 v2 v3 : Int) (σ : zz_S) : zz_R := (if v3 = 0 then none else ((xT_isFiredFor v3 (zz_h σ 3 1 16) σ).bind fun q1 => (if q1.1 = 0 then (k12 v1 (zz_r (v2 + 1)) q1.2) else ((x_comeDue v3 q1.2).bind fun q2 => (k12 v1 (zz_r (v2 + 1)) q2.2)))))
set_option maxRecDepth 100000 in
set_option maxHeartbeats 4000000 in
theorem ze_x_bringDues_63 (k12 : Int → Int → zz_S → zz_R) (v1 v2 v3 : Int) (σ : zz_S) : x_bringDues_63 k12 v1 v2 v3 σ = zz_ev (zz_CE [(36, zw_x_comeDue), (90, zw_xT_isFiredFor)]) (zz_KE [(12, [(0, 5, true), (1, 0, false), (2, 0, false)], zz_f2 k12)]) zk_x_bringDues 999 false 0 0 400 true (zz_sk zk_x_bringDues 63) [(0, 5, 1), (1, 0, v1), (2, 0, v2), (3, 9, v3)] [] σ := rfl
theorem zo_x_bringDues_63 (k12 : Int → Int → zz_S → zz_R) (hk12 : zz_okb zM_x_bringDues 12 [(0, 5, true), (1, 0, false), (2, 0, false)] (zz_f2 k12)) : zz_okb zM_x_bringDues 63 [(0, 5, true), (1, 0, false), (2, 0, false), (3, 9, false)] (zz_f3 (x_bringDues_63 k12)) :=
  fun vs σ r τ h => by
    obtain ⟨v1, v2, v3, rfl, h⟩ := zz_f3_ok h
    exact zz_from zc_x_bringDues (zz_occ zo_m_x_comeDue (zz_occ zo_m_xT_isFiredFor zz_oc0)) (zz_olc hk12 zz_ol0) ((ze_x_bringDues_63 k12 v1 v2 v3 σ).symm.trans h)
noncomputable def x_bringDues_12 : Nat → Int → Int → zz_S → zz_R
  | 0, _, _, _ => none
  | n + 1, v1, v2, σ => (if v2 < (zz_h σ 3 1 11) then ((x_taskAt v2 σ).bind fun q1 => ((x_isActive q1.1 q1.2).bind fun q2 => (if q2.1 = 0 then (x_bringDues_12 n v1 (zz_r (v2 + 1)) q2.2) else ((x_isDueByKind q1.1 v1 q2.2).bind fun q3 => (if q3.1 = 0 then (x_bringDues_63 (x_bringDues_12 n) v1 v2 q1.1 q3.2) else (if q1.1 = 0 then none else (if (zz_h q3.2 7 q1.1 1) = 2 then (if q1.1 = 0 then none else (let s4 := zz_w q3.2 7 q1.1 11 (-1); ((x_comeDue q1.1 s4).bind fun q5 => (x_bringDues_63 (x_bringDues_12 n) v1 v2 q1.1 q5.2)))) else ((x_comeDue q1.1 q3.2).bind fun q6 => (x_bringDues_63 (x_bringDues_12 n) v1 v2 q1.1 q6.2))))))))) else ((j_max (zz_h σ 3 1 18) v1 σ).bind fun q7 => (let s8 := zz_w q7.2 3 1 18 q7.1; (some (0, s8)))))
set_option maxRecDepth 100000 in
set_option maxHeartbeats 4000000 in
theorem ze_x_bringDues_12 (n : Nat) (v1 v2 : Int) (σ : zz_S) : x_bringDues_12 (n + 1) v1 v2 σ = zz_ev (zz_CE [(35, zw_x_isDueByKind), (36, zw_x_comeDue), (73, zw_x_taskAt), (74, zw_x_isActive), (168, zw_j_max)]) (zz_KE [(12, [(0, 5, true), (1, 0, false), (2, 0, false)], zz_f2 (x_bringDues_12 n)), (63, [(0, 5, true), (1, 0, false), (2, 0, false), (3, 9, false)], zz_f3 (x_bringDues_63 (x_bringDues_12 n)))]) zk_x_bringDues 999 false 0 0 400 true (zz_sk zk_x_bringDues 12) [(0, 5, 1), (1, 0, v1), (2, 0, v2)] [] σ := rfl
theorem zo_x_bringDues_12 : ∀ n : Nat, zz_okb zM_x_bringDues 12 [(0, 5, true), (1, 0, false), (2, 0, false)] (zz_f2 (x_bringDues_12 n))
  | 0 => fun vs σ r τ h => by
    obtain ⟨v1, v2, rfl, h⟩ := zz_f2_ok h
    exact nomatch (show (none : zz_R) = some (r, τ) from h)
  | n + 1 => by
    have ih := zo_x_bringDues_12 n
    exact fun vs σ r τ h => by
        obtain ⟨v1, v2, rfl, h⟩ := zz_f2_ok h
        exact zz_from zc_x_bringDues (zz_occ zo_m_x_isDueByKind (zz_occ zo_m_x_comeDue (zz_occ zo_m_x_taskAt (zz_occ zo_m_x_isActive (zz_occ zo_m_j_max zz_oc0))))) (zz_olc ih (zz_olc (zo_x_bringDues_63 (x_bringDues_12 n) ih) zz_ol0)) ((ze_x_bringDues_12 n v1 v2 σ).symm.trans h)
noncomputable def x_bringDues (σ : zz_S) : zz_R := (x_bringDues_12 zz_fu (zz_r ((zz_h σ 3 1 16) + (zz_h σ 3 1 17))) 0 σ)
set_option maxRecDepth 100000 in
set_option maxHeartbeats 4000000 in
theorem ze_x_bringDues (σ : zz_S) : x_bringDues σ = zz_ev (zz_CE []) (zz_KE [(12, [(0, 5, true), (1, 0, false), (2, 0, false)], zz_f2 (x_bringDues_12 zz_fu))]) zk_x_bringDues 999 false 0 0 400 true (zz_sk zk_x_bringDues 0) [(0, 5, 1)] [] σ := rfl
theorem zo_x_bringDues : zz_okb zM_x_bringDues 0 [(0, 5, true)] (zz_f0 x_bringDues) :=
  fun vs σ r τ h => by
    obtain ⟨rfl, h⟩ := zz_f0_ok h
    exact zz_from zc_x_bringDues zz_oc0 (zz_olc (zo_x_bringDues_12 zz_fu) zz_ol0) ((ze_x_bringDues σ).symm.trans h)
noncomputable def zw_x_bringDues : List Int → zz_S → zz_R := zz_f1 fun a0 σ => if a0 = 1 then x_bringDues σ else none
theorem zo_m_x_bringDues : zz_okm zz_inf 34 zw_x_bringDues := fun vs σ r τ h => by
  obtain ⟨a0, rfl, h⟩ := zz_f1_ok h
  obtain ⟨e, h⟩ := zz_it h
  subst e
  exact zz_meth zi_x_bringDues zy_x_bringDues (zo_x_bringDues [] σ r τ h)
def zk_x_isMissed : List zz_E := [(0, false, .aload_n 0, 1, 0, (0, 0, 0, 0), 0, []),
  (1, false, .getfield 27, 3, 166, (3, 3, 6, 1), 0, []),
  (4, false, .getfield 331, 3, 106, (4, 2, 23, 1), 0, []),
  (7, false, .iload_n 2, 1, 0, (0, 0, 0, 0), 0, []),
  (8, false, .baload, 1, 0, (21, 0, 0, 0), 0, []),
  (9, false, .ifCond .ne 30, 3, 0, (39, 0, 0, 0), 0, []),
  (12, false, .aload_n 0, 1, 0, (0, 0, 0, 0), 0, []),
  (13, false, .getfield 78, 3, 179, (3, 16, 0, 0), 0, []),
  (16, false, .aload_n 0, 1, 0, (0, 0, 0, 0), 0, []),
  (17, false, .getfield 27, 3, 166, (3, 3, 6, 1), 0, []),
  (20, false, .getfield 334, 3, 104, (4, 1, 22, 1), 0, []),
  (23, false, .iload_n 2, 1, 0, (0, 0, 0, 0), 0, []),
  (24, false, .iaload, 1, 0, (20, 0, 0, 0), 0, []),
  (25, false, .isub, 1, 0, (0, 0, 0, 0), 0, []),
  (26, false, .aload_n 1, 1, 0, (0, 0, 0, 0), 0, []),
  (27, false, .getfield 111, 3, 308, (7, 4, 30, 1), 0, []),
  (30, false, .iconst 0, 1, 0, (0, 0, 0, 0), 0, []),
  (31, false, .iaload, 1, 0, (28, 0, 0, 0), 0, []),
  (32, false, .if_icmp .le 7, 3, 0, (39, 0, 0, 0), 0, []),
  (35, false, .iconst 1, 1, 0, (0, 0, 0, 0), 0, []),
  (36, false, .goto 4, 3, 0, (40, 0, 0, 0), 0, []),
  (39, false, .iconst 0, 1, 0, (0, 0, 0, 0), 0, []),
  (40, false, .ireturn, 1, 0, (0, 0, 0, 0), 0, [])]
theorem zc_x_isMissed : zk_x_isMissed.all (zz_ck zz_inf zM_x_isMissed) = true ∧ zz_ch zk_x_isMissed = true := ⟨by decide +kernel, by decide +kernel⟩
noncomputable def x_isMissed (v1 v2 : Int) (σ : zz_S) : zz_R := (if zz_b σ 21 1 v2 then (if (zz_h σ 21 1 v2) = 0 then (if zz_b σ 20 1 v2 then (if v1 = 0 then none else (if v1 = 0 then none else (if zz_b σ 28 v1 0 then (if (zz_r ((zz_h σ 3 1 16) - (zz_h σ 20 1 v2))) ≤ (zz_h σ 28 v1 0) then (some (0, σ)) else (some (1, σ))) else none))) else none) else (some (0, σ))) else none)
set_option maxRecDepth 100000 in
set_option maxHeartbeats 4000000 in
theorem ze_x_isMissed (v1 v2 : Int) (σ : zz_S) : x_isMissed v1 v2 σ = zz_ev (zz_CE []) (zz_KE []) zk_x_isMissed 0 true 0 0 400 true (zz_sk zk_x_isMissed 0) [(0, 5, 1), (1, 9, v1), (2, 0, v2)] [] σ := rfl
theorem zo_x_isMissed : zz_okb zM_x_isMissed 0 [(0, 5, true), (1, 9, false), (2, 0, false)] (zz_f2 x_isMissed) :=
  fun vs σ r τ h => by
    obtain ⟨v1, v2, rfl, h⟩ := zz_f2_ok h
    exact zz_from zc_x_isMissed zz_oc0 zz_ol0 ((ze_x_isMissed v1 v2 σ).symm.trans h)
noncomputable def zw_x_isMissed : List Int → zz_S → zz_R := zz_f3 fun a0 a1 a2 σ => if a0 = 1 then x_isMissed a1 a2 σ else none
theorem zo_m_x_isMissed : zz_okm zz_inf 40 zw_x_isMissed := fun vs σ r τ h => by
  obtain ⟨a0, a1, a2, rfl, h⟩ := zz_f3_ok h
  obtain ⟨e, h⟩ := zz_it h
  subst e
  exact zz_meth zi_x_isMissed zy_x_isMissed (zo_x_isMissed [a1, a2] σ r τ h)
def zk_xD_remove : List zz_E := [(0, false, .iload_n 1, 1, 0, (0, 0, 0, 0), 0, []),
  (1, false, .iconst 0, 1, 0, (0, 0, 0, 0), 0, []),
  (2, false, .aload_n 0, 1, 0, (0, 0, 0, 0), 0, []),
  (3, false, .getfield 25, 3, 107, (4, 3, 0, 0), 0, []),
  (6, false, .iconst 1, 1, 0, (0, 0, 0, 0), 0, []),
  (7, false, .isub, 1, 0, (0, 0, 0, 0), 0, []),
  (8, false, .invokestatic 32, 3, 599, (72, 3, 0, 1), 0, [0, 0, 0]),
  (11, false, .ifCond .ne 4, 3, 0, (15, 0, 0, 0), 0, []),
  (14, false, .return_, 1, 0, (0, 0, 0, 0), 0, []),
  (15, false, .aload_n 0, 1, 0, (0, 0, 0, 0), 0, []),
  (16, false, .getfield 11, 3, 101, (4, 0, 21, 1), 0, []),
  (19, false, .iload_n 1, 1, 0, (0, 0, 0, 0), 0, []),
  (20, false, .aaload, 1, 0, (19, 0, 9, 0), 0, []),
  (21, false, .astore_n 2, 1, 0, (0, 0, 0, 0), 0, []),
  (22, false, .aload_n 2, 1, 0, (0, 0, 0, 0), 0, []),
  (23, false, .ifnull 13, 3, 0, (36, 0, 0, 0), 0, []),
  (26, false, .aload_n 2, 1, 0, (0, 0, 0, 0), 0, []),
  (27, false, .dup, 1, 0, (0, 0, 0, 0), 0, []),
  (28, false, .getfield 29, 3, 334, (7, 16, 0, 0), 0, []),
  (31, false, .iconst 1, 1, 0, (0, 0, 0, 0), 0, []),
  (32, false, .isub, 1, 0, (0, 0, 0, 0), 0, []),
  (33, false, .putfield 29, 3, 334, (7, 16, 0, 0), 0, []),
  (36, false, .iload_n 1, 1, 0, (0, 0, 0, 0), 0, []),
  (37, false, .iconst 1, 1, 0, (0, 0, 0, 0), 0, []),
  (38, false, .iadd, 1, 0, (0, 0, 0, 0), 0, []),
  (39, false, .istore_n 3, 1, 0, (0, 0, 0, 0), 0, []),
  (40, true, .iload_n 3, 1, 0, (0, 0, 0, 0), 0, []),
  (41, false, .aload_n 0, 1, 0, (0, 0, 0, 0), 0, []),
  (42, false, .getfield 25, 3, 107, (4, 3, 0, 0), 0, []),
  (45, false, .if_icmp .ge 51, 3, 0, (96, 0, 0, 0), 0, []),
  (48, false, .aload_n 0, 1, 0, (0, 0, 0, 0), 0, []),
  (49, false, .getfield 11, 3, 101, (4, 0, 21, 1), 0, []),
  (52, false, .iload_n 3, 1, 0, (0, 0, 0, 0), 0, []),
  (53, false, .iconst 1, 1, 0, (0, 0, 0, 0), 0, []),
  (54, false, .isub, 1, 0, (0, 0, 0, 0), 0, []),
  (55, false, .aload_n 0, 1, 0, (0, 0, 0, 0), 0, []),
  (56, false, .getfield 11, 3, 101, (4, 0, 21, 1), 0, []),
  (59, false, .iload_n 3, 1, 0, (0, 0, 0, 0), 0, []),
  (60, false, .aaload, 1, 0, (19, 0, 9, 0), 0, []),
  (61, false, .aastore, 1, 0, (19, 0, 9, 0), 0, []),
  (62, false, .aload_n 0, 1, 0, (0, 0, 0, 0), 0, []),
  (63, false, .getfield 17, 3, 103, (4, 1, 22, 1), 0, []),
  (66, false, .iload_n 3, 1, 0, (0, 0, 0, 0), 0, []),
  (67, false, .iconst 1, 1, 0, (0, 0, 0, 0), 0, []),
  (68, false, .isub, 1, 0, (0, 0, 0, 0), 0, []),
  (69, false, .aload_n 0, 1, 0, (0, 0, 0, 0), 0, []),
  (70, false, .getfield 17, 3, 103, (4, 1, 22, 1), 0, []),
  (73, false, .iload_n 3, 1, 0, (0, 0, 0, 0), 0, []),
  (74, false, .iaload, 1, 0, (20, 0, 0, 0), 0, []),
  (75, false, .iastore, 1, 0, (20, 0, 0, 0), 0, []),
  (76, false, .aload_n 0, 1, 0, (0, 0, 0, 0), 0, []),
  (77, false, .getfield 21, 3, 105, (4, 2, 23, 1), 0, []),
  (80, false, .iload_n 3, 1, 0, (0, 0, 0, 0), 0, []),
  (81, false, .iconst 1, 1, 0, (0, 0, 0, 0), 0, []),
  (82, false, .isub, 1, 0, (0, 0, 0, 0), 0, []),
  (83, false, .aload_n 0, 1, 0, (0, 0, 0, 0), 0, []),
  (84, false, .getfield 21, 3, 105, (4, 2, 23, 1), 0, []),
  (87, false, .iload_n 3, 1, 0, (0, 0, 0, 0), 0, []),
  (88, false, .baload, 1, 0, (21, 0, 0, 0), 0, []),
  (89, false, .bastore, 1, 0, (21, 0, 0, 0), 0, []),
  (90, false, .iinc 3 1, 3, 0, (0, 0, 0, 0), 0, []),
  (93, false, .goto (-53), 3, 0, (40, 0, 0, 0), 0, []),
  (96, false, .aload_n 0, 1, 0, (0, 0, 0, 0), 0, []),
  (97, false, .dup, 1, 0, (0, 0, 0, 0), 0, []),
  (98, false, .getfield 25, 3, 107, (4, 3, 0, 0), 0, []),
  (101, false, .iconst 1, 1, 0, (0, 0, 0, 0), 0, []),
  (102, false, .isub, 1, 0, (0, 0, 0, 0), 0, []),
  (103, false, .putfield 25, 3, 107, (4, 3, 0, 0), 0, []),
  (106, false, .return_, 1, 0, (0, 0, 0, 0), 0, [])]
theorem zc_xD_remove : zk_xD_remove.all (zz_ck zz_inf zM_xD_remove) = true ∧ zz_ch zk_xD_remove = true := ⟨by decide +kernel, by decide +kernel⟩
noncomputable def xD_remove_40 : Nat → Int → zz_S → zz_R
  | 0, _, _ => none
  | n + 1, v3, σ => (if v3 < (zz_h σ 4 1 3) then (if zz_b σ 19 1 v3 then (if zz_b σ 19 1 (zz_r (v3 - 1)) then (if (zz_h σ 19 1 v3) = 0 then none else (let s1 := zz_w σ 19 1 (zz_r (v3 - 1)) (zz_h σ 19 1 v3); (if zz_b s1 20 1 v3 then (if zz_b s1 20 1 (zz_r (v3 - 1)) then (let s2 := zz_w s1 20 1 (zz_r (v3 - 1)) (zz_h s1 20 1 v3); (if zz_b s2 21 1 v3 then (if zz_b s2 21 1 (zz_r (v3 - 1)) then (if zz_o (zz_h s2 21 1 v3) then (let s3 := zz_w s2 21 1 (zz_r (v3 - 1)) (zz_h s2 21 1 v3); (xD_remove_40 n (zz_r (v3 + 1)) s3)) else none) else none) else none)) else none) else none))) else none) else none) else (let s4 := zz_w σ 4 1 3 (zz_r ((zz_h σ 4 1 3) - 1)); (some (0, s4))))
set_option maxRecDepth 100000 in
set_option maxHeartbeats 4000000 in
theorem ze_xD_remove_40 (n : Nat) (v3 : Int) (σ : zz_S) : xD_remove_40 (n + 1) v3 σ = zz_ev (zz_CE []) (zz_KE [(40, [(0, 6, true), (3, 0, false)], zz_f1 (xD_remove_40 n))]) zk_xD_remove 999 false 0 0 400 true (zz_sk zk_xD_remove 40) [(0, 6, 1), (3, 0, v3)] [] σ := rfl
theorem zo_xD_remove_40 : ∀ n : Nat, zz_okb zM_xD_remove 40 [(0, 6, true), (3, 0, false)] (zz_f1 (xD_remove_40 n))
  | 0 => fun vs σ r τ h => by
    obtain ⟨v3, rfl, h⟩ := zz_f1_ok h
    exact nomatch (show (none : zz_R) = some (r, τ) from h)
  | n + 1 => by
    have ih := zo_xD_remove_40 n
    exact fun vs σ r τ h => by
        obtain ⟨v3, rfl, h⟩ := zz_f1_ok h
        exact zz_from zc_xD_remove zz_oc0 (zz_olc ih zz_ol0) ((ze_xD_remove_40 n v3 σ).symm.trans h)
noncomputable def xD_remove (v1 : Int) (σ : zz_S) : zz_R := ((x_isWithin v1 0 (zz_r ((zz_h σ 4 1 3) - 1)) σ).bind fun q1 => (if q1.1 = 0 then (some (0, q1.2)) else (if zz_b q1.2 19 1 v1 then (if (zz_h q1.2 19 1 v1) = 0 then (xD_remove_40 zz_fu (zz_r (v1 + 1)) q1.2) else (if (zz_h q1.2 19 1 v1) = 0 then none else (if (zz_h q1.2 19 1 v1) = 0 then none else (let s2 := zz_w q1.2 7 (zz_h q1.2 19 1 v1) 16 (zz_r ((zz_h q1.2 7 (zz_h q1.2 19 1 v1) 16) - 1)); (xD_remove_40 zz_fu (zz_r (v1 + 1)) s2))))) else none)))
set_option maxRecDepth 100000 in
set_option maxHeartbeats 4000000 in
theorem ze_xD_remove (v1 : Int) (σ : zz_S) : xD_remove v1 σ = zz_ev (zz_CE [(72, zw_x_isWithin)]) (zz_KE [(40, [(0, 6, true), (3, 0, false)], zz_f1 (xD_remove_40 zz_fu))]) zk_xD_remove 999 false 0 0 400 true (zz_sk zk_xD_remove 0) [(0, 6, 1), (1, 0, v1)] [] σ := rfl
theorem zo_xD_remove : zz_okb zM_xD_remove 0 [(0, 6, true), (1, 0, false)] (zz_f1 xD_remove) :=
  fun vs σ r τ h => by
    obtain ⟨v1, rfl, h⟩ := zz_f1_ok h
    exact zz_from zc_xD_remove (zz_occ zo_m_x_isWithin zz_oc0) (zz_olc (zo_xD_remove_40 zz_fu) zz_ol0) ((ze_xD_remove v1 σ).symm.trans h)
noncomputable def zw_xD_remove : List Int → zz_S → zz_R := zz_f2 fun a0 a1 σ => if a0 = 1 then xD_remove a1 σ else none
theorem zo_m_xD_remove : zz_okm zz_inf 77 zw_xD_remove := fun vs σ r τ h => by
  obtain ⟨a0, a1, rfl, h⟩ := zz_f2_ok h
  obtain ⟨e, h⟩ := zz_it h
  subst e
  exact zz_meth zi_xD_remove zy_xD_remove (zo_xD_remove [a1] σ r τ h)
def zk_x_missDue : List zz_E := [(0, false, .aload_n 1, 1, 0, (0, 0, 0, 0), 0, []),
  (1, false, .getfield 111, 3, 308, (7, 4, 30, 1), 0, []),
  (4, false, .iconst 4, 1, 0, (0, 0, 0, 0), 0, []),
  (5, false, .iaload, 1, 0, (28, 0, 0, 0), 0, []),
  (6, false, .istore_n 3, 1, 0, (0, 0, 0, 0), 0, []),
  (7, false, .iload_n 3, 1, 0, (0, 0, 0, 0), 0, []),
  (8, false, .iconst 2, 1, 0, (0, 0, 0, 0), 0, []),
  (9, false, .if_icmp .eq 16, 3, 0, (25, 0, 0, 0), 0, []),
  (12, false, .iload_n 3, 1, 0, (0, 0, 0, 0), 0, []),
  (13, false, .iconst 1, 1, 0, (0, 0, 0, 0), 0, []),
  (14, false, .if_icmp .ne 46, 3, 0, (60, 0, 0, 0), 0, []),
  (17, false, .aload_n 1, 1, 0, (0, 0, 0, 0), 0, []),
  (18, false, .getfield 337, 3, 335, (7, 16, 0, 0), 0, []),
  (21, false, .iconst 2, 1, 0, (0, 0, 0, 0), 0, []),
  (22, false, .if_icmp .ge 38, 3, 0, (60, 0, 0, 0), 0, []),
  (25, true, .aload_n 0, 1, 0, (0, 0, 0, 0), 0, []),
  (26, false, .getfield 27, 3, 166, (3, 3, 6, 1), 0, []),
  (29, false, .getfield 331, 3, 106, (4, 2, 23, 1), 0, []),
  (32, false, .iload_n 2, 1, 0, (0, 0, 0, 0), 0, []),
  (33, false, .iconst 1, 1, 0, (0, 0, 0, 0), 0, []),
  (34, false, .bastore, 1, 0, (21, 0, 0, 0), 0, []),
  (35, false, .aload_n 0, 1, 0, (0, 0, 0, 0), 0, []),
  (36, false, .getfield 34, 3, 167, (3, 4, 7, 1), 0, []),
  (39, false, .aload_n 1, 1, 0, (0, 0, 0, 0), 0, []),
  (40, false, .getfield 162, 3, 299, (7, 0, 0, 0), 0, []),
  (43, false, .aload_n 0, 1, 0, (0, 0, 0, 0), 0, []),
  (44, false, .getfield 27, 3, 166, (3, 3, 6, 1), 0, []),
  (47, false, .getfield 334, 3, 104, (4, 1, 22, 1), 0, []),
  (50, false, .iload_n 2, 1, 0, (0, 0, 0, 0), 0, []),
  (51, false, .iaload, 1, 0, (20, 0, 0, 0), 0, []),
  (52, false, .iconst 2, 1, 0, (0, 0, 0, 0), 0, []),
  (53, false, .invokevirtual 314, 3, 534, (82, 4, 999, 0), 0, [0, 0, 0, 7]),
  (56, false, .iload_n 2, 1, 0, (0, 0, 0, 0), 0, []),
  (57, false, .iconst 1, 1, 0, (0, 0, 0, 0), 0, []),
  (58, false, .iadd, 1, 0, (0, 0, 0, 0), 0, []),
  (59, false, .ireturn, 1, 0, (0, 0, 0, 0), 0, []),
  (60, true, .aload_n 0, 1, 0, (0, 0, 0, 0), 0, []),
  (61, false, .getfield 34, 3, 167, (3, 4, 7, 1), 0, []),
  (64, false, .aload_n 1, 1, 0, (0, 0, 0, 0), 0, []),
  (65, false, .getfield 162, 3, 299, (7, 0, 0, 0), 0, []),
  (68, false, .aload_n 0, 1, 0, (0, 0, 0, 0), 0, []),
  (69, false, .getfield 27, 3, 166, (3, 3, 6, 1), 0, []),
  (72, false, .getfield 334, 3, 104, (4, 1, 22, 1), 0, []),
  (75, false, .iload_n 2, 1, 0, (0, 0, 0, 0), 0, []),
  (76, false, .iaload, 1, 0, (20, 0, 0, 0), 0, []),
  (77, false, .iload_n 3, 1, 0, (0, 0, 0, 0), 0, []),
  (78, false, .invokevirtual 314, 3, 534, (82, 4, 999, 0), 0, [0, 0, 0, 7]),
  (81, false, .aload_n 0, 1, 0, (0, 0, 0, 0), 0, []),
  (82, false, .getfield 27, 3, 166, (3, 3, 6, 1), 0, []),
  (85, false, .iload_n 2, 1, 0, (0, 0, 0, 0), 0, []),
  (86, false, .invokevirtual 340, 3, 595, (77, 2, 999, 0), 0, [0, 6]),
  (89, false, .aload_n 0, 1, 0, (0, 0, 0, 0), 0, []),
  (90, false, .aload_n 1, 1, 0, (0, 0, 0, 0), 0, []),
  (91, false, .invokevirtual 315, 3, 538, (38, 2, 999, 0), 0, [9, 5]),
  (94, false, .iload_n 2, 1, 0, (0, 0, 0, 0), 0, []),
  (95, false, .ireturn, 1, 0, (0, 0, 0, 0), 0, [])]
theorem zc_x_missDue : zk_x_missDue.all (zz_ck zz_inf zM_x_missDue) = true ∧ zz_ch zk_x_missDue = true := ⟨by decide +kernel, by decide +kernel⟩
noncomputable def x_missDue_60 (v1 v2 v3 : Int) (σ : zz_S) : zz_R := (if v1 = 0 then none else (if zz_b σ 20 1 v2 then ((xB_add (zz_h σ 7 v1 0) (zz_h σ 20 1 v2) v3 σ).bind fun q1 => ((xD_remove v2 q1.2).bind fun q2 => ((x_pauseAgain v1 q2.2).bind fun q3 => (some (v2, q3.2))))) else none))
set_option maxRecDepth 100000 in
set_option maxHeartbeats 4000000 in
theorem ze_x_missDue_60 (v1 v2 v3 : Int) (σ : zz_S) : x_missDue_60 v1 v2 v3 σ = zz_ev (zz_CE [(38, zw_x_pauseAgain), (77, zw_xD_remove), (82, zw_xB_add)]) (zz_KE []) zk_x_missDue 0 false 0 0 400 true (zz_sk zk_x_missDue 60) [(0, 5, 1), (1, 9, v1), (2, 0, v2), (3, 0, v3)] [] σ := rfl
theorem zo_x_missDue_60 : zz_okb zM_x_missDue 60 [(0, 5, true), (1, 9, false), (2, 0, false), (3, 0, false)] (zz_f3 x_missDue_60) :=
  fun vs σ r τ h => by
    obtain ⟨v1, v2, v3, rfl, h⟩ := zz_f3_ok h
    exact zz_from zc_x_missDue (zz_occ zo_m_x_pauseAgain (zz_occ zo_m_xD_remove (zz_occ zo_m_xB_add zz_oc0))) zz_ol0 ((ze_x_missDue_60 v1 v2 v3 σ).symm.trans h)
noncomputable def x_missDue_25 (v1 v2 : Int) (σ : zz_S) : zz_R := (if zz_b σ 21 1 v2 then (let s1 := zz_w σ 21 1 v2 1; (if v1 = 0 then none else (if zz_b s1 20 1 v2 then ((xB_add (zz_h s1 7 v1 0) (zz_h s1 20 1 v2) 2 s1).bind fun q2 => (some ((zz_r (v2 + 1)), q2.2))) else none))) else none)
set_option maxRecDepth 100000 in
set_option maxHeartbeats 4000000 in
theorem ze_x_missDue_25 (v1 v2 : Int) (σ : zz_S) : x_missDue_25 v1 v2 σ = zz_ev (zz_CE [(82, zw_xB_add)]) (zz_KE []) zk_x_missDue 0 false 0 0 400 true (zz_sk zk_x_missDue 25) [(0, 5, 1), (1, 9, v1), (2, 0, v2)] [] σ := rfl
theorem zo_x_missDue_25 : zz_okb zM_x_missDue 25 [(0, 5, true), (1, 9, false), (2, 0, false)] (zz_f2 x_missDue_25) :=
  fun vs σ r τ h => by
    obtain ⟨v1, v2, rfl, h⟩ := zz_f2_ok h
    exact zz_from zc_x_missDue (zz_occ zo_m_xB_add zz_oc0) zz_ol0 ((ze_x_missDue_25 v1 v2 σ).symm.trans h)
noncomputable def x_missDue (v1 v2 : Int) (σ : zz_S) : zz_R := (if v1 = 0 then none else (if v1 = 0 then none else (if zz_b σ 28 v1 4 then (if (zz_h σ 28 v1 4) = 2 then (x_missDue_25 v1 v2 σ) else (if (zz_h σ 28 v1 4) = 1 then (if v1 = 0 then none else (if (zz_h σ 7 v1 16) < 2 then (x_missDue_25 v1 v2 σ) else (x_missDue_60 v1 v2 (zz_h σ 28 v1 4) σ))) else (x_missDue_60 v1 v2 (zz_h σ 28 v1 4) σ))) else none)))
set_option maxRecDepth 100000 in
set_option maxHeartbeats 4000000 in
theorem ze_x_missDue (v1 v2 : Int) (σ : zz_S) : x_missDue v1 v2 σ = zz_ev (zz_CE []) (zz_KE [(25, [(0, 5, true), (1, 9, false), (2, 0, false)], zz_f2 (x_missDue_25)), (60, [(0, 5, true), (1, 9, false), (2, 0, false), (3, 0, false)], zz_f3 (x_missDue_60))]) zk_x_missDue 0 false 0 0 400 true (zz_sk zk_x_missDue 0) [(0, 5, 1), (1, 9, v1), (2, 0, v2)] [] σ := rfl
theorem zo_x_missDue : zz_okb zM_x_missDue 0 [(0, 5, true), (1, 9, false), (2, 0, false)] (zz_f2 x_missDue) :=
  fun vs σ r τ h => by
    obtain ⟨v1, v2, rfl, h⟩ := zz_f2_ok h
    exact zz_from zc_x_missDue zz_oc0 (zz_olc (zo_x_missDue_25) (zz_olc (zo_x_missDue_60) zz_ol0)) ((ze_x_missDue v1 v2 σ).symm.trans h)
noncomputable def zw_x_missDue : List Int → zz_S → zz_R := zz_f3 fun a0 a1 a2 σ => if a0 = 1 then x_missDue a1 a2 σ else none
theorem zo_m_x_missDue : zz_okm zz_inf 41 zw_x_missDue := fun vs σ r τ h => by
  obtain ⟨a0, a1, a2, rfl, h⟩ := zz_f3_ok h
  obtain ⟨e, h⟩ := zz_it h
  subst e
  exact zz_meth zi_x_missDue zy_x_missDue (zo_x_missDue [a1, a2] σ r τ h)
def zk_x_missDues : List zz_E := [(0, false, .iconst 0, 1, 0, (0, 0, 0, 0), 0, []),
  (1, false, .istore_n 1, 1, 0, (0, 0, 0, 0), 0, []),
  (2, false, .iconst 0, 1, 0, (0, 0, 0, 0), 0, []),
  (3, false, .istore_n 2, 1, 0, (0, 0, 0, 0), 0, []),
  (4, true, .iload_n 2, 1, 0, (0, 0, 0, 0), 0, []),
  (5, false, .bipush 100, 2, 0, (0, 0, 0, 0), 0, []),
  (7, false, .if_icmp .ge 56, 3, 0, (63, 0, 0, 0), 0, []),
  (10, false, .iload_n 1, 1, 0, (0, 0, 0, 0), 0, []),
  (11, false, .aload_n 0, 1, 0, (0, 0, 0, 0), 0, []),
  (12, false, .getfield 27, 3, 166, (3, 3, 6, 1), 0, []),
  (15, false, .getfield 318, 3, 108, (4, 3, 0, 0), 0, []),
  (18, false, .if_icmp .ge 45, 3, 0, (63, 0, 0, 0), 0, []),
  (21, false, .aload_n 0, 1, 0, (0, 0, 0, 0), 0, []),
  (22, false, .getfield 27, 3, 166, (3, 3, 6, 1), 0, []),
  (25, false, .getfield 322, 3, 102, (4, 0, 21, 1), 0, []),
  (28, false, .iload_n 1, 1, 0, (0, 0, 0, 0), 0, []),
  (29, false, .aaload, 1, 0, (19, 0, 9, 0), 0, []),
  (30, false, .astore_n 3, 1, 0, (0, 0, 0, 0), 0, []),
  (31, false, .aload_n 3, 1, 0, (0, 0, 0, 0), 0, []),
  (32, false, .ifnull 22, 3, 0, (54, 0, 0, 0), 0, []),
  (35, false, .aload_n 0, 1, 0, (0, 0, 0, 0), 0, []),
  (36, false, .aload_n 3, 1, 0, (0, 0, 0, 0), 0, []),
  (37, false, .iload_n 1, 1, 0, (0, 0, 0, 0), 0, []),
  (38, false, .invokevirtual 324, 3, 587, (40, 3, 0, 0), 0, [0, 9, 5]),
  (41, false, .ifCond .eq 13, 3, 0, (54, 0, 0, 0), 0, []),
  (44, false, .aload_n 0, 1, 0, (0, 0, 0, 0), 0, []),
  (45, false, .aload_n 3, 1, 0, (0, 0, 0, 0), 0, []),
  (46, false, .iload_n 1, 1, 0, (0, 0, 0, 0), 0, []),
  (47, false, .invokevirtual 327, 3, 591, (41, 3, 0, 0), 0, [0, 9, 5]),
  (50, false, .istore_n 1, 1, 0, (0, 0, 0, 0), 0, []),
  (51, false, .goto 6, 3, 0, (57, 0, 0, 0), 0, []),
  (54, false, .iinc 1 1, 3, 0, (0, 0, 0, 0), 0, []),
  (57, false, .iinc 2 1, 3, 0, (0, 0, 0, 0), 0, []),
  (60, false, .goto (-56), 3, 0, (4, 0, 0, 0), 0, []),
  (63, false, .return_, 1, 0, (0, 0, 0, 0), 0, [])]
theorem zc_x_missDues : zk_x_missDues.all (zz_ck zz_inf zM_x_missDues) = true ∧ zz_ch zk_x_missDues = true := ⟨by decide +kernel, by decide +kernel⟩
noncomputable def x_missDues_4 : Nat → Int → Int → zz_S → zz_R
  | 0, _, _, _ => none
  | n + 1, v1, v2, σ => (if v2 < 100 then (if v1 < (zz_h σ 4 1 3) then (if zz_b σ 19 1 v1 then (if (zz_h σ 19 1 v1) = 0 then (x_missDues_4 n (zz_r (v1 + 1)) (zz_r (v2 + 1)) σ) else ((x_isMissed (zz_h σ 19 1 v1) v1 σ).bind fun q1 => (if q1.1 = 0 then (x_missDues_4 n (zz_r (v1 + 1)) (zz_r (v2 + 1)) q1.2) else ((x_missDue (zz_h σ 19 1 v1) v1 q1.2).bind fun q2 => (x_missDues_4 n q2.1 (zz_r (v2 + 1)) q2.2))))) else none) else (some (0, σ))) else (some (0, σ)))
set_option maxRecDepth 100000 in
set_option maxHeartbeats 4000000 in
theorem ze_x_missDues_4 (n : Nat) (v1 v2 : Int) (σ : zz_S) : x_missDues_4 (n + 1) v1 v2 σ = zz_ev (zz_CE [(40, zw_x_isMissed), (41, zw_x_missDue)]) (zz_KE [(4, [(0, 5, true), (1, 0, false), (2, 0, false)], zz_f2 (x_missDues_4 n))]) zk_x_missDues 999 false 0 0 400 true (zz_sk zk_x_missDues 4) [(0, 5, 1), (1, 0, v1), (2, 0, v2)] [] σ := rfl
theorem zo_x_missDues_4 : ∀ n : Nat, zz_okb zM_x_missDues 4 [(0, 5, true), (1, 0, false), (2, 0, false)] (zz_f2 (x_missDues_4 n))
  | 0 => fun vs σ r τ h => by
    obtain ⟨v1, v2, rfl, h⟩ := zz_f2_ok h
    exact nomatch (show (none : zz_R) = some (r, τ) from h)
  | n + 1 => by
    have ih := zo_x_missDues_4 n
    exact fun vs σ r τ h => by
        obtain ⟨v1, v2, rfl, h⟩ := zz_f2_ok h
        exact zz_from zc_x_missDues (zz_occ zo_m_x_isMissed (zz_occ zo_m_x_missDue zz_oc0)) (zz_olc ih zz_ol0) ((ze_x_missDues_4 n v1 v2 σ).symm.trans h)
noncomputable def x_missDues (σ : zz_S) : zz_R := (x_missDues_4 zz_fu 0 0 σ)
set_option maxRecDepth 100000 in
set_option maxHeartbeats 4000000 in
theorem ze_x_missDues (σ : zz_S) : x_missDues σ = zz_ev (zz_CE []) (zz_KE [(4, [(0, 5, true), (1, 0, false), (2, 0, false)], zz_f2 (x_missDues_4 zz_fu))]) zk_x_missDues 999 false 0 0 400 true (zz_sk zk_x_missDues 0) [(0, 5, 1)] [] σ := rfl
theorem zo_x_missDues : zz_okb zM_x_missDues 0 [(0, 5, true)] (zz_f0 x_missDues) :=
  fun vs σ r τ h => by
    obtain ⟨rfl, h⟩ := zz_f0_ok h
    exact zz_from zc_x_missDues zz_oc0 (zz_olc (zo_x_missDues_4 zz_fu) zz_ol0) ((ze_x_missDues σ).symm.trans h)
noncomputable def zw_x_missDues : List Int → zz_S → zz_R := zz_f1 fun a0 σ => if a0 = 1 then x_missDues σ else none
theorem zo_m_x_missDues : zz_okm zz_inf 39 zw_x_missDues := fun vs σ r τ h => by
  obtain ⟨a0, rfl, h⟩ := zz_f1_ok h
  obtain ⟨e, h⟩ := zz_it h
  subst e
  exact zz_meth zi_x_missDues zy_x_missDues (zo_x_missDues [] σ r τ h)
def zk_x_freeWorker : List zz_E := [(0, false, .iconst 0, 1, 0, (0, 0, 0, 0), 0, []),
  (1, false, .istore_n 1, 1, 0, (0, 0, 0, 0), 0, []),
  (2, true, .iload_n 1, 1, 0, (0, 0, 0, 0), 0, []),
  (3, false, .aload_n 0, 1, 0, (0, 0, 0, 0), 0, []),
  (4, false, .getfield 75, 3, 178, (3, 15, 0, 0), 0, []),
  (7, false, .if_icmp .ge 20, 3, 0, (27, 0, 0, 0), 0, []),
  (10, false, .aload_n 0, 1, 0, (0, 0, 0, 0), 0, []),
  (11, false, .getfield 52, 3, 171, (3, 8, 18, 1), 0, []),
  (14, false, .iload_n 1, 1, 0, (0, 0, 0, 0), 0, []),
  (15, false, .baload, 1, 0, (16, 0, 0, 0), 0, []),
  (16, false, .ifCond .ne 5, 3, 0, (21, 0, 0, 0), 0, []),
  (19, false, .iload_n 1, 1, 0, (0, 0, 0, 0), 0, []),
  (20, false, .ireturn, 1, 0, (0, 0, 0, 0), 0, []),
  (21, false, .iinc 1 1, 3, 0, (0, 0, 0, 0), 0, []),
  (24, false, .goto (-22), 3, 0, (2, 0, 0, 0), 0, []),
  (27, false, .iconst (-1), 1, 0, (0, 0, 0, 0), 0, []),
  (28, false, .ireturn, 1, 0, (0, 0, 0, 0), 0, [])]
theorem zc_x_freeWorker : zk_x_freeWorker.all (zz_ck zz_inf zM_x_freeWorker) = true ∧ zz_ch zk_x_freeWorker = true := ⟨by decide +kernel, by decide +kernel⟩
noncomputable def x_freeWorker_2 : Nat → Int → zz_S → zz_R
  | 0, _, _ => none
  | n + 1, v1, σ => (if v1 < (zz_h σ 3 1 15) then (if zz_b σ 16 1 v1 then (if (zz_h σ 16 1 v1) = 0 then (some (v1, σ)) else (x_freeWorker_2 n (zz_r (v1 + 1)) σ)) else none) else (some ((-1), σ)))
set_option maxRecDepth 100000 in
set_option maxHeartbeats 4000000 in
theorem ze_x_freeWorker_2 (n : Nat) (v1 : Int) (σ : zz_S) : x_freeWorker_2 (n + 1) v1 σ = zz_ev (zz_CE []) (zz_KE [(2, [(0, 5, true), (1, 0, false)], zz_f1 (x_freeWorker_2 n))]) zk_x_freeWorker 0 false 0 0 400 true (zz_sk zk_x_freeWorker 2) [(0, 5, 1), (1, 0, v1)] [] σ := rfl
theorem zo_x_freeWorker_2 : ∀ n : Nat, zz_okb zM_x_freeWorker 2 [(0, 5, true), (1, 0, false)] (zz_f1 (x_freeWorker_2 n))
  | 0 => fun vs σ r τ h => by
    obtain ⟨v1, rfl, h⟩ := zz_f1_ok h
    exact nomatch (show (none : zz_R) = some (r, τ) from h)
  | n + 1 => by
    have ih := zo_x_freeWorker_2 n
    exact fun vs σ r τ h => by
        obtain ⟨v1, rfl, h⟩ := zz_f1_ok h
        exact zz_from zc_x_freeWorker zz_oc0 (zz_olc ih zz_ol0) ((ze_x_freeWorker_2 n v1 σ).symm.trans h)
noncomputable def x_freeWorker (σ : zz_S) : zz_R := (x_freeWorker_2 zz_fu 0 σ)
set_option maxRecDepth 100000 in
set_option maxHeartbeats 4000000 in
theorem ze_x_freeWorker (σ : zz_S) : x_freeWorker σ = zz_ev (zz_CE []) (zz_KE [(2, [(0, 5, true), (1, 0, false)], zz_f1 (x_freeWorker_2 zz_fu))]) zk_x_freeWorker 0 false 0 0 400 true (zz_sk zk_x_freeWorker 0) [(0, 5, 1)] [] σ := rfl
theorem zo_x_freeWorker : zz_okb zM_x_freeWorker 0 [(0, 5, true)] (zz_f0 x_freeWorker) :=
  fun vs σ r τ h => by
    obtain ⟨rfl, h⟩ := zz_f0_ok h
    exact zz_from zc_x_freeWorker zz_oc0 (zz_olc (zo_x_freeWorker_2 zz_fu) zz_ol0) ((ze_x_freeWorker σ).symm.trans h)
noncomputable def zw_x_freeWorker : List Int → zz_S → zz_R := zz_f1 fun a0 σ => if a0 = 1 then x_freeWorker σ else none
theorem zo_m_x_freeWorker : zz_okm zz_inf 43 zw_x_freeWorker := fun vs σ r τ h => by
  obtain ⟨a0, rfl, h⟩ := zz_f1_ok h
  obtain ⟨e, h⟩ := zz_it h
  subst e
  exact zz_meth zi_x_freeWorker zy_x_freeWorker (zo_x_freeWorker [] σ r τ h)
def zk_x_workIn : List zz_E := [(0, false, .iconst 0, 1, 0, (0, 0, 0, 0), 0, []),
  (1, false, .istore_n 2, 1, 0, (0, 0, 0, 0), 0, []),
  (2, false, .iconst 0, 1, 0, (0, 0, 0, 0), 0, []),
  (3, false, .istore_n 3, 1, 0, (0, 0, 0, 0), 0, []),
  (4, true, .iload_n 3, 1, 0, (0, 0, 0, 0), 0, []),
  (5, false, .aload_n 0, 1, 0, (0, 0, 0, 0), 0, []),
  (6, false, .getfield 69, 3, 176, (3, 13, 0, 0), 0, []),
  (9, false, .if_icmp .ge 34, 3, 0, (43, 0, 0, 0), 0, []),
  (12, false, .aload_n 0, 1, 0, (0, 0, 0, 0), 0, []),
  (13, false, .getfield 21, 3, 165, (3, 2, 15, 1), 0, []),
  (16, false, .iload_n 3, 1, 0, (0, 0, 0, 0), 0, []),
  (17, false, .aaload, 1, 0, (13, 0, 12, 0), 0, []),
  (18, false, .astore 4, 2, 0, (0, 0, 0, 0), 0, []),
  (20, false, .aload 4, 2, 0, (0, 0, 0, 0), 0, []),
  (22, false, .ifnull 15, 3, 0, (37, 0, 0, 0), 0, []),
  (25, false, .aload 4, 2, 0, (0, 0, 0, 0), 0, []),
  (27, false, .getfield 361, 3, 648, (10, 7, 0, 0), 0, []),
  (30, false, .iload_n 1, 1, 0, (0, 0, 0, 0), 0, []),
  (31, false, .if_icmp .ne 6, 3, 0, (37, 0, 0, 0), 0, []),
  (34, false, .iinc 2 1, 3, 0, (0, 0, 0, 0), 0, []),
  (37, false, .iinc 3 1, 3, 0, (0, 0, 0, 0), 0, []),
  (40, false, .goto (-36), 3, 0, (4, 0, 0, 0), 0, []),
  (43, false, .iload_n 2, 1, 0, (0, 0, 0, 0), 0, []),
  (44, false, .ireturn, 1, 0, (0, 0, 0, 0), 0, [])]
theorem zc_x_workIn : zk_x_workIn.all (zz_ck zz_inf zM_x_workIn) = true ∧ zz_ch zk_x_workIn = true := ⟨by decide +kernel, by decide +kernel⟩
noncomputable def x_workIn_4 : Nat → Int → Int → Int → zz_S → zz_R
  | 0, _, _, _, _ => none
  | n + 1, v1, v2, v3, σ => (if v3 < (zz_h σ 3 1 13) then (if zz_b σ 13 1 v3 then (if (zz_h σ 13 1 v3) = 0 then (x_workIn_4 n v1 v2 (zz_r (v3 + 1)) σ) else (if (zz_h σ 13 1 v3) = 0 then none else (if (zz_h σ 10 (zz_h σ 13 1 v3) 7) = v1 then (x_workIn_4 n v1 (zz_r (v2 + 1)) (zz_r (v3 + 1)) σ) else (x_workIn_4 n v1 v2 (zz_r (v3 + 1)) σ)))) else none) else (some (v2, σ)))
set_option maxRecDepth 100000 in
set_option maxHeartbeats 4000000 in
theorem ze_x_workIn_4 (n : Nat) (v1 v2 v3 : Int) (σ : zz_S) : x_workIn_4 (n + 1) v1 v2 v3 σ = zz_ev (zz_CE []) (zz_KE [(4, [(0, 5, true), (1, 0, false), (2, 0, false), (3, 0, false)], zz_f3 (x_workIn_4 n))]) zk_x_workIn 0 false 0 0 400 true (zz_sk zk_x_workIn 4) [(0, 5, 1), (1, 0, v1), (2, 0, v2), (3, 0, v3)] [] σ := rfl
theorem zo_x_workIn_4 : ∀ n : Nat, zz_okb zM_x_workIn 4 [(0, 5, true), (1, 0, false), (2, 0, false), (3, 0, false)] (zz_f3 (x_workIn_4 n))
  | 0 => fun vs σ r τ h => by
    obtain ⟨v1, v2, v3, rfl, h⟩ := zz_f3_ok h
    exact nomatch (show (none : zz_R) = some (r, τ) from h)
  | n + 1 => by
    have ih := zo_x_workIn_4 n
    exact fun vs σ r τ h => by
        obtain ⟨v1, v2, v3, rfl, h⟩ := zz_f3_ok h
        exact zz_from zc_x_workIn zz_oc0 (zz_olc ih zz_ol0) ((ze_x_workIn_4 n v1 v2 v3 σ).symm.trans h)
noncomputable def x_workIn (v1 : Int) (σ : zz_S) : zz_R := (x_workIn_4 zz_fu v1 0 0 σ)
set_option maxRecDepth 100000 in
set_option maxHeartbeats 4000000 in
theorem ze_x_workIn (v1 : Int) (σ : zz_S) : x_workIn v1 σ = zz_ev (zz_CE []) (zz_KE [(4, [(0, 5, true), (1, 0, false), (2, 0, false), (3, 0, false)], zz_f3 (x_workIn_4 zz_fu))]) zk_x_workIn 0 false 0 0 400 true (zz_sk zk_x_workIn 0) [(0, 5, 1), (1, 0, v1)] [] σ := rfl
theorem zo_x_workIn : zz_okb zM_x_workIn 0 [(0, 5, true), (1, 0, false)] (zz_f1 x_workIn) :=
  fun vs σ r τ h => by
    obtain ⟨v1, rfl, h⟩ := zz_f1_ok h
    exact zz_from zc_x_workIn zz_oc0 (zz_olc (zo_x_workIn_4 zz_fu) zz_ol0) ((ze_x_workIn v1 σ).symm.trans h)
noncomputable def zw_x_workIn : List Int → zz_S → zz_R := zz_f2 fun a0 a1 σ => if a0 = 1 then x_workIn a1 σ else none
theorem zo_m_x_workIn : zz_okm zz_inf 46 zw_x_workIn := fun vs σ r τ h => by
  obtain ⟨a0, a1, rfl, h⟩ := zz_f2_ok h
  obtain ⟨e, h⟩ := zz_it h
  subst e
  exact zz_meth zi_x_workIn zy_x_workIn (zo_x_workIn [a1] σ r τ h)
def zk_x_mayBegin : List zz_E := [(0, false, .aload_n 1, 1, 0, (0, 0, 0, 0), 0, []),
  (1, false, .ifnull 20, 3, 0, (21, 0, 0, 0), 0, []),
  (4, false, .aload_n 1, 1, 0, (0, 0, 0, 0), 0, []),
  (5, false, .getfield 111, 3, 308, (7, 4, 30, 1), 0, []),
  (8, false, .iconst 3, 1, 0, (0, 0, 0, 0), 0, []),
  (9, false, .iaload, 1, 0, (28, 0, 0, 0), 0, []),
  (10, false, .iconst 2, 1, 0, (0, 0, 0, 0), 0, []),
  (11, false, .if_icmp .eq 12, 3, 0, (23, 0, 0, 0), 0, []),
  (14, false, .aload_n 1, 1, 0, (0, 0, 0, 0), 0, []),
  (15, false, .getfield 264, 3, 332, (7, 15, 0, 0), 0, []),
  (18, false, .ifCond .le 5, 3, 0, (23, 0, 0, 0), 0, []),
  (21, false, .iconst 0, 1, 0, (0, 0, 0, 0), 0, []),
  (22, false, .ireturn, 1, 0, (0, 0, 0, 0), 0, []),
  (23, true, .aload_n 1, 1, 0, (0, 0, 0, 0), 0, []),
  (24, false, .getfield 111, 3, 308, (7, 4, 30, 1), 0, []),
  (27, false, .iconst 2, 1, 0, (0, 0, 0, 0), 0, []),
  (28, false, .iaload, 1, 0, (28, 0, 0, 0), 0, []),
  (29, false, .istore_n 2, 1, 0, (0, 0, 0, 0), 0, []),
  (30, false, .iload_n 2, 1, 0, (0, 0, 0, 0), 0, []),
  (31, false, .iconst 0, 1, 0, (0, 0, 0, 0), 0, []),
  (32, false, .aload_n 0, 1, 0, (0, 0, 0, 0), 0, []),
  (33, false, .getfield 72, 3, 177, (3, 14, 0, 0), 0, []),
  (36, false, .iconst 1, 1, 0, (0, 0, 0, 0), 0, []),
  (37, false, .isub, 1, 0, (0, 0, 0, 0), 0, []),
  (38, false, .invokestatic 91, 3, 228, (72, 3, 0, 0), 0, [0, 0, 0]),
  (41, false, .ifCond .eq 17, 3, 0, (58, 0, 0, 0), 0, []),
  (44, false, .aload_n 0, 1, 0, (0, 0, 0, 0), 0, []),
  (45, false, .iload_n 2, 1, 0, (0, 0, 0, 0), 0, []),
  (46, false, .invokevirtual 358, 3, 616, (46, 2, 0, 0), 0, [0, 5]),
  (49, false, .aload_n 0, 1, 0, (0, 0, 0, 0), 0, []),
  (50, false, .getfield 45, 3, 169, (3, 6, 16, 1), 0, []),
  (53, false, .iload_n 2, 1, 0, (0, 0, 0, 0), 0, []),
  (54, false, .iaload, 1, 0, (14, 0, 0, 0), 0, []),
  (55, false, .if_icmp .ge 7, 3, 0, (62, 0, 0, 0), 0, []),
  (58, false, .iconst 1, 1, 0, (0, 0, 0, 0), 0, []),
  (59, false, .goto 4, 3, 0, (63, 0, 0, 0), 0, []),
  (62, false, .iconst 0, 1, 0, (0, 0, 0, 0), 0, []),
  (63, false, .ireturn, 1, 0, (0, 0, 0, 0), 0, [])]
theorem zc_x_mayBegin : zk_x_mayBegin.all (zz_ck zz_inf zM_x_mayBegin) = true ∧ zz_ch zk_x_mayBegin = true := ⟨by decide +kernel, by decide +kernel⟩
noncomputable def x_mayBegin_23 (v1 : Int) (σ : zz_S) : zz_R := (if v1 = 0 then none else (if v1 = 0 then none else (if zz_b σ 28 v1 2 then ((x_isWithin (zz_h σ 28 v1 2) 0 (zz_r ((zz_h σ 3 1 14) - 1)) σ).bind fun q1 => (if q1.1 = 0 then (some (1, q1.2)) else ((x_workIn (zz_h σ 28 v1 2) q1.2).bind fun q2 => (if zz_b q2.2 14 1 (zz_h σ 28 v1 2) then (if q2.1 < (zz_h q2.2 14 1 (zz_h σ 28 v1 2)) then (some (1, q2.2)) else (some (0, q2.2))) else none)))) else none)))
set_option maxRecDepth 100000 in
set_option maxHeartbeats 4000000 in
theorem ze_x_mayBegin_23 (v1 : Int) (σ : zz_S) : x_mayBegin_23 v1 σ = zz_ev (zz_CE [(46, zw_x_workIn), (72, zw_x_isWithin)]) (zz_KE []) zk_x_mayBegin 0 true 0 0 400 true (zz_sk zk_x_mayBegin 23) [(0, 5, 1), (1, 9, v1)] [] σ := rfl
theorem zo_x_mayBegin_23 : zz_okb zM_x_mayBegin 23 [(0, 5, true), (1, 9, false)] (zz_f1 x_mayBegin_23) :=
  fun vs σ r τ h => by
    obtain ⟨v1, rfl, h⟩ := zz_f1_ok h
    exact zz_from zc_x_mayBegin (zz_occ zo_m_x_workIn (zz_occ zo_m_x_isWithin zz_oc0)) zz_ol0 ((ze_x_mayBegin_23 v1 σ).symm.trans h)
noncomputable def x_mayBegin (v1 : Int) (σ : zz_S) : zz_R := (if v1 = 0 then (some (0, σ)) else (if v1 = 0 then none else (if v1 = 0 then none else (if zz_b σ 28 v1 3 then (if (zz_h σ 28 v1 3) = 2 then (x_mayBegin_23 v1 σ) else (if v1 = 0 then none else (if (zz_h σ 7 v1 15) ≤ 0 then (x_mayBegin_23 v1 σ) else (some (0, σ))))) else none))))
set_option maxRecDepth 100000 in
set_option maxHeartbeats 4000000 in
theorem ze_x_mayBegin (v1 : Int) (σ : zz_S) : x_mayBegin v1 σ = zz_ev (zz_CE []) (zz_KE [(23, [(0, 5, true), (1, 9, false)], zz_f1 (x_mayBegin_23))]) zk_x_mayBegin 0 true 0 0 400 true (zz_sk zk_x_mayBegin 0) [(0, 5, 1), (1, 9, v1)] [] σ := rfl
theorem zo_x_mayBegin : zz_okb zM_x_mayBegin 0 [(0, 5, true), (1, 9, false)] (zz_f1 x_mayBegin) :=
  fun vs σ r τ h => by
    obtain ⟨v1, rfl, h⟩ := zz_f1_ok h
    exact zz_from zc_x_mayBegin zz_oc0 (zz_olc (zo_x_mayBegin_23) zz_ol0) ((ze_x_mayBegin v1 σ).symm.trans h)
noncomputable def zw_x_mayBegin : List Int → zz_S → zz_R := zz_f2 fun a0 a1 σ => if a0 = 1 then x_mayBegin a1 σ else none
theorem zo_m_x_mayBegin : zz_okm zz_inf 45 zw_x_mayBegin := fun vs σ r τ h => by
  obtain ⟨a0, a1, rfl, h⟩ := zz_f2_ok h
  obtain ⟨e, h⟩ := zz_it h
  subst e
  exact zz_meth zi_x_mayBegin zy_x_mayBegin (zo_x_mayBegin [a1] σ r τ h)
def zk_xD_isAhead : List zz_E := [(0, false, .aload_n 0, 1, 0, (0, 0, 0, 0), 0, []),
  (1, false, .getfield 11, 3, 101, (4, 0, 21, 1), 0, []),
  (4, false, .iload_n 1, 1, 0, (0, 0, 0, 0), 0, []),
  (5, false, .aaload, 1, 0, (19, 0, 9, 0), 0, []),
  (6, false, .astore_n 3, 1, 0, (0, 0, 0, 0), 0, []),
  (7, false, .aload_n 0, 1, 0, (0, 0, 0, 0), 0, []),
  (8, false, .getfield 11, 3, 101, (4, 0, 21, 1), 0, []),
  (11, false, .iload_n 2, 1, 0, (0, 0, 0, 0), 0, []),
  (12, false, .aaload, 1, 0, (19, 0, 9, 0), 0, []),
  (13, false, .astore 4, 2, 0, (0, 0, 0, 0), 0, []),
  (15, false, .aload_n 3, 1, 0, (0, 0, 0, 0), 0, []),
  (16, false, .ifnull 8, 3, 0, (24, 0, 0, 0), 0, []),
  (19, false, .aload 4, 2, 0, (0, 0, 0, 0), 0, []),
  (21, false, .ifnonnull 5, 3, 0, (26, 0, 0, 0), 0, []),
  (24, false, .iconst 0, 1, 0, (0, 0, 0, 0), 0, []),
  (25, false, .ireturn, 1, 0, (0, 0, 0, 0), 0, []),
  (26, false, .aload_n 3, 1, 0, (0, 0, 0, 0), 0, []),
  (27, false, .getfield 36, 3, 309, (7, 4, 30, 1), 0, []),
  (30, false, .iconst 1, 1, 0, (0, 0, 0, 0), 0, []),
  (31, false, .iaload, 1, 0, (28, 0, 0, 0), 0, []),
  (32, false, .aload 4, 2, 0, (0, 0, 0, 0), 0, []),
  (34, false, .getfield 36, 3, 309, (7, 4, 30, 1), 0, []),
  (37, false, .iconst 1, 1, 0, (0, 0, 0, 0), 0, []),
  (38, false, .iaload, 1, 0, (28, 0, 0, 0), 0, []),
  (39, false, .if_icmp .eq 25, 3, 0, (64, 0, 0, 0), 0, []),
  (42, false, .aload_n 3, 1, 0, (0, 0, 0, 0), 0, []),
  (43, false, .getfield 36, 3, 309, (7, 4, 30, 1), 0, []),
  (46, false, .iconst 1, 1, 0, (0, 0, 0, 0), 0, []),
  (47, false, .iaload, 1, 0, (28, 0, 0, 0), 0, []),
  (48, false, .aload 4, 2, 0, (0, 0, 0, 0), 0, []),
  (50, false, .getfield 36, 3, 309, (7, 4, 30, 1), 0, []),
  (53, false, .iconst 1, 1, 0, (0, 0, 0, 0), 0, []),
  (54, false, .iaload, 1, 0, (28, 0, 0, 0), 0, []),
  (55, false, .if_icmp .le 7, 3, 0, (62, 0, 0, 0), 0, []),
  (58, false, .iconst 1, 1, 0, (0, 0, 0, 0), 0, []),
  (59, false, .goto 4, 3, 0, (63, 0, 0, 0), 0, []),
  (62, false, .iconst 0, 1, 0, (0, 0, 0, 0), 0, []),
  (63, false, .ireturn, 1, 0, (0, 0, 0, 0), 0, []),
  (64, false, .aload_n 0, 1, 0, (0, 0, 0, 0), 0, []),
  (65, false, .getfield 17, 3, 103, (4, 1, 22, 1), 0, []),
  (68, false, .iload_n 1, 1, 0, (0, 0, 0, 0), 0, []),
  (69, false, .iaload, 1, 0, (20, 0, 0, 0), 0, []),
  (70, false, .aload_n 0, 1, 0, (0, 0, 0, 0), 0, []),
  (71, false, .getfield 17, 3, 103, (4, 1, 22, 1), 0, []),
  (74, false, .iload_n 2, 1, 0, (0, 0, 0, 0), 0, []),
  (75, false, .iaload, 1, 0, (20, 0, 0, 0), 0, []),
  (76, false, .if_icmp .eq 24, 3, 0, (100, 0, 0, 0), 0, []),
  (79, false, .aload_n 0, 1, 0, (0, 0, 0, 0), 0, []),
  (80, false, .getfield 17, 3, 103, (4, 1, 22, 1), 0, []),
  (83, false, .iload_n 1, 1, 0, (0, 0, 0, 0), 0, []),
  (84, false, .iaload, 1, 0, (20, 0, 0, 0), 0, []),
  (85, false, .aload_n 0, 1, 0, (0, 0, 0, 0), 0, []),
  (86, false, .getfield 17, 3, 103, (4, 1, 22, 1), 0, []),
  (89, false, .iload_n 2, 1, 0, (0, 0, 0, 0), 0, []),
  (90, false, .iaload, 1, 0, (20, 0, 0, 0), 0, []),
  (91, false, .if_icmp .ge 7, 3, 0, (98, 0, 0, 0), 0, []),
  (94, false, .iconst 1, 1, 0, (0, 0, 0, 0), 0, []),
  (95, false, .goto 4, 3, 0, (99, 0, 0, 0), 0, []),
  (98, false, .iconst 0, 1, 0, (0, 0, 0, 0), 0, []),
  (99, false, .ireturn, 1, 0, (0, 0, 0, 0), 0, []),
  (100, false, .aload_n 3, 1, 0, (0, 0, 0, 0), 0, []),
  (101, false, .getfield 39, 3, 298, (7, 0, 0, 0), 0, []),
  (104, false, .aload 4, 2, 0, (0, 0, 0, 0), 0, []),
  (106, false, .getfield 39, 3, 298, (7, 0, 0, 0), 0, []),
  (109, false, .if_icmp .ge 7, 3, 0, (116, 0, 0, 0), 0, []),
  (112, false, .iconst 1, 1, 0, (0, 0, 0, 0), 0, []),
  (113, false, .goto 4, 3, 0, (117, 0, 0, 0), 0, []),
  (116, false, .iconst 0, 1, 0, (0, 0, 0, 0), 0, []),
  (117, false, .ireturn, 1, 0, (0, 0, 0, 0), 0, [])]
theorem zc_xD_isAhead : zk_xD_isAhead.all (zz_ck zz_inf zM_xD_isAhead) = true ∧ zz_ch zk_xD_isAhead = true := ⟨by decide +kernel, by decide +kernel⟩
noncomputable def xD_isAhead (v1 v2 : Int) (σ : zz_S) : zz_R := (if zz_b σ 19 1 v1 then (if zz_b σ 19 1 v2 then (if (zz_h σ 19 1 v1) = 0 then (some (0, σ)) else (if (zz_h σ 19 1 v2) = 0 then (some (0, σ)) else (if (zz_h σ 19 1 v1) = 0 then none else (if (zz_h σ 19 1 v1) = 0 then none else (if zz_b σ 28 (zz_h σ 19 1 v1) 1 then (if (zz_h σ 19 1 v2) = 0 then none else (if (zz_h σ 19 1 v2) = 0 then none else (if zz_b σ 28 (zz_h σ 19 1 v2) 1 then (if (zz_h σ 28 (zz_h σ 19 1 v1) 1) = (zz_h σ 28 (zz_h σ 19 1 v2) 1) then (if zz_b σ 20 1 v1 then (if zz_b σ 20 1 v2 then (if (zz_h σ 20 1 v1) = (zz_h σ 20 1 v2) then (if (zz_h σ 19 1 v1) = 0 then none else (if (zz_h σ 19 1 v2) = 0 then none else (if (zz_h σ 7 (zz_h σ 19 1 v1) 0) < (zz_h σ 7 (zz_h σ 19 1 v2) 0) then (some (1, σ)) else (some (0, σ))))) else (if zz_b σ 20 1 v1 then (if zz_b σ 20 1 v2 then (if (zz_h σ 20 1 v1) < (zz_h σ 20 1 v2) then (some (1, σ)) else (some (0, σ))) else none) else none)) else none) else none) else (if (zz_h σ 19 1 v1) = 0 then none else (if (zz_h σ 19 1 v1) = 0 then none else (if zz_b σ 28 (zz_h σ 19 1 v1) 1 then (if (zz_h σ 19 1 v2) = 0 then none else (if (zz_h σ 19 1 v2) = 0 then none else (if zz_b σ 28 (zz_h σ 19 1 v2) 1 then (if (zz_h σ 28 (zz_h σ 19 1 v1) 1) ≤ (zz_h σ 28 (zz_h σ 19 1 v2) 1) then (some (0, σ)) else (some (1, σ))) else none))) else none)))) else none))) else none))))) else none) else none)
set_option maxRecDepth 100000 in
set_option maxHeartbeats 4000000 in
theorem ze_xD_isAhead (v1 v2 : Int) (σ : zz_S) : xD_isAhead v1 v2 σ = zz_ev (zz_CE []) (zz_KE []) zk_xD_isAhead 0 true 0 0 400 true (zz_sk zk_xD_isAhead 0) [(0, 6, 1), (1, 0, v1), (2, 0, v2)] [] σ := rfl
theorem zo_xD_isAhead : zz_okb zM_xD_isAhead 0 [(0, 6, true), (1, 0, false), (2, 0, false)] (zz_f2 xD_isAhead) :=
  fun vs σ r τ h => by
    obtain ⟨v1, v2, rfl, h⟩ := zz_f2_ok h
    exact zz_from zc_xD_isAhead zz_oc0 zz_ol0 ((ze_xD_isAhead v1 v2 σ).symm.trans h)
noncomputable def zw_xD_isAhead : List Int → zz_S → zz_R := zz_f3 fun a0 a1 a2 σ => if a0 = 1 then xD_isAhead a1 a2 σ else none
theorem zo_m_xD_isAhead : zz_okm zz_inf 80 zw_xD_isAhead := fun vs σ r τ h => by
  obtain ⟨a0, a1, a2, rfl, h⟩ := zz_f3_ok h
  obtain ⟨e, h⟩ := zz_it h
  subst e
  exact zz_meth zi_xD_isAhead zy_xD_isAhead (zo_xD_isAhead [a1, a2] σ r τ h)
def zk_x_firstToBegin : List zz_E := [(0, false, .iconst (-1), 1, 0, (0, 0, 0, 0), 0, []),
  (1, false, .istore_n 1, 1, 0, (0, 0, 0, 0), 0, []),
  (2, false, .iconst 0, 1, 0, (0, 0, 0, 0), 0, []),
  (3, false, .istore_n 2, 1, 0, (0, 0, 0, 0), 0, []),
  (4, true, .iload_n 2, 1, 0, (0, 0, 0, 0), 0, []),
  (5, false, .aload_n 0, 1, 0, (0, 0, 0, 0), 0, []),
  (6, false, .getfield 27, 3, 166, (3, 3, 6, 1), 0, []),
  (9, false, .getfield 318, 3, 108, (4, 3, 0, 0), 0, []),
  (12, false, .if_icmp .ge 44, 3, 0, (56, 0, 0, 0), 0, []),
  (15, false, .aload_n 0, 1, 0, (0, 0, 0, 0), 0, []),
  (16, false, .aload_n 0, 1, 0, (0, 0, 0, 0), 0, []),
  (17, false, .getfield 27, 3, 166, (3, 3, 6, 1), 0, []),
  (20, false, .getfield 322, 3, 102, (4, 0, 21, 1), 0, []),
  (23, false, .iload_n 2, 1, 0, (0, 0, 0, 0), 0, []),
  (24, false, .aaload, 1, 0, (19, 0, 9, 0), 0, []),
  (25, false, .invokevirtual 352, 3, 612, (45, 2, 0, 0), 0, [9, 5]),
  (28, false, .ifCond .eq 22, 3, 0, (50, 0, 0, 0), 0, []),
  (31, false, .iload_n 1, 1, 0, (0, 0, 0, 0), 0, []),
  (32, false, .iconst (-1), 1, 0, (0, 0, 0, 0), 0, []),
  (33, false, .if_icmp .eq 15, 3, 0, (48, 0, 0, 0), 0, []),
  (36, false, .aload_n 0, 1, 0, (0, 0, 0, 0), 0, []),
  (37, false, .getfield 27, 3, 166, (3, 3, 6, 1), 0, []),
  (40, false, .iload_n 2, 1, 0, (0, 0, 0, 0), 0, []),
  (41, false, .iload_n 1, 1, 0, (0, 0, 0, 0), 0, []),
  (42, false, .invokevirtual 355, 3, 620, (80, 3, 0, 0), 0, [0, 0, 6]),
  (45, false, .ifCond .eq 5, 3, 0, (50, 0, 0, 0), 0, []),
  (48, false, .iload_n 2, 1, 0, (0, 0, 0, 0), 0, []),
  (49, false, .istore_n 1, 1, 0, (0, 0, 0, 0), 0, []),
  (50, false, .iinc 2 1, 3, 0, (0, 0, 0, 0), 0, []),
  (53, false, .goto (-49), 3, 0, (4, 0, 0, 0), 0, []),
  (56, false, .iload_n 1, 1, 0, (0, 0, 0, 0), 0, []),
  (57, false, .ireturn, 1, 0, (0, 0, 0, 0), 0, [])]
theorem zc_x_firstToBegin : zk_x_firstToBegin.all (zz_ck zz_inf zM_x_firstToBegin) = true ∧ zz_ch zk_x_firstToBegin = true := ⟨by decide +kernel, by decide +kernel⟩
noncomputable def x_firstToBegin_4 : Nat → Int → Int → zz_S → zz_R
  | 0, _, _, _ => none
  | n + 1, v1, v2, σ => (if v2 < (zz_h σ 4 1 3) then (if zz_b σ 19 1 v2 then ((x_mayBegin (zz_h σ 19 1 v2) σ).bind fun q1 => (if q1.1 = 0 then (x_firstToBegin_4 n v1 (zz_r (v2 + 1)) q1.2) else (if v1 = (-1) then (x_firstToBegin_4 n v2 (zz_r (v2 + 1)) q1.2) else ((xD_isAhead v2 v1 q1.2).bind fun q2 => (if q2.1 = 0 then (x_firstToBegin_4 n v1 (zz_r (v2 + 1)) q2.2) else (x_firstToBegin_4 n v2 (zz_r (v2 + 1)) q2.2)))))) else none) else (some (v1, σ)))
set_option maxRecDepth 100000 in
set_option maxHeartbeats 4000000 in
theorem ze_x_firstToBegin_4 (n : Nat) (v1 v2 : Int) (σ : zz_S) : x_firstToBegin_4 (n + 1) v1 v2 σ = zz_ev (zz_CE [(45, zw_x_mayBegin), (80, zw_xD_isAhead)]) (zz_KE [(4, [(0, 5, true), (1, 0, false), (2, 0, false)], zz_f2 (x_firstToBegin_4 n))]) zk_x_firstToBegin 0 false 0 0 400 true (zz_sk zk_x_firstToBegin 4) [(0, 5, 1), (1, 0, v1), (2, 0, v2)] [] σ := rfl
theorem zo_x_firstToBegin_4 : ∀ n : Nat, zz_okb zM_x_firstToBegin 4 [(0, 5, true), (1, 0, false), (2, 0, false)] (zz_f2 (x_firstToBegin_4 n))
  | 0 => fun vs σ r τ h => by
    obtain ⟨v1, v2, rfl, h⟩ := zz_f2_ok h
    exact nomatch (show (none : zz_R) = some (r, τ) from h)
  | n + 1 => by
    have ih := zo_x_firstToBegin_4 n
    exact fun vs σ r τ h => by
        obtain ⟨v1, v2, rfl, h⟩ := zz_f2_ok h
        exact zz_from zc_x_firstToBegin (zz_occ zo_m_x_mayBegin (zz_occ zo_m_xD_isAhead zz_oc0)) (zz_olc ih zz_ol0) ((ze_x_firstToBegin_4 n v1 v2 σ).symm.trans h)
noncomputable def x_firstToBegin (σ : zz_S) : zz_R := (x_firstToBegin_4 zz_fu (-1) 0 σ)
set_option maxRecDepth 100000 in
set_option maxHeartbeats 4000000 in
theorem ze_x_firstToBegin (σ : zz_S) : x_firstToBegin σ = zz_ev (zz_CE []) (zz_KE [(4, [(0, 5, true), (1, 0, false), (2, 0, false)], zz_f2 (x_firstToBegin_4 zz_fu))]) zk_x_firstToBegin 0 false 0 0 400 true (zz_sk zk_x_firstToBegin 0) [(0, 5, 1)] [] σ := rfl
theorem zo_x_firstToBegin : zz_okb zM_x_firstToBegin 0 [(0, 5, true)] (zz_f0 x_firstToBegin) :=
  fun vs σ r τ h => by
    obtain ⟨rfl, h⟩ := zz_f0_ok h
    exact zz_from zc_x_firstToBegin zz_oc0 (zz_olc (zo_x_firstToBegin_4 zz_fu) zz_ol0) ((ze_x_firstToBegin σ).symm.trans h)
noncomputable def zw_x_firstToBegin : List Int → zz_S → zz_R := zz_f1 fun a0 σ => if a0 = 1 then x_firstToBegin σ else none
theorem zo_m_x_firstToBegin : zz_okm zz_inf 44 zw_x_firstToBegin := fun vs σ r τ h => by
  obtain ⟨a0, rfl, h⟩ := zz_f1_ok h
  obtain ⟨e, h⟩ := zz_it h
  subst e
  exact zz_meth zi_x_firstToBegin zy_x_firstToBegin (zo_x_firstToBegin [] σ r τ h)
def zk_xR_new : List zz_E := [(0, false, .aload_n 0, 1, 0, (0, 0, 0, 0), 0, []),
  (1, false, .invokespecial 3, 3, 632, (0, 0, 0, 0), 0, []),
  (4, false, .aload_n 0, 1, 0, (0, 0, 0, 0), 0, []),
  (5, false, .iconst (-1), 1, 0, (0, 0, 0, 0), 0, []),
  (6, false, .putfield 9, 3, 649, (10, 8, 0, 0), 0, []),
  (9, false, .aload_n 0, 1, 0, (0, 0, 0, 0), 0, []),
  (10, false, .iconst 0, 1, 0, (0, 0, 0, 0), 0, []),
  (11, false, .putfield 15, 3, 651, (10, 9, 0, 0), 0, []),
  (14, false, .aload_n 0, 1, 0, (0, 0, 0, 0), 0, []),
  (15, false, .iconst (-1), 1, 0, (0, 0, 0, 0), 0, []),
  (16, false, .putfield 18, 3, 653, (10, 10, 0, 0), 0, []),
  (19, false, .aload_n 0, 1, 0, (0, 0, 0, 0), 0, []),
  (20, false, .iload_n 1, 1, 0, (0, 0, 0, 0), 0, []),
  (21, false, .putfield 21, 3, 633, (10, 0, 0, 0), 0, []),
  (24, false, .aload_n 0, 1, 0, (0, 0, 0, 0), 0, []),
  (25, false, .aload_n 2, 1, 0, (0, 0, 0, 0), 0, []),
  (26, false, .putfield 24, 3, 635, (10, 1, 9, 0), 0, []),
  (29, false, .aload_n 0, 1, 0, (0, 0, 0, 0), 0, []),
  (30, false, .aload_n 2, 1, 0, (0, 0, 0, 0), 0, []),
  (31, false, .getfield 28, 3, 328, (7, 14, 0, 0), 0, []),
  (34, false, .putfield 33, 3, 637, (10, 2, 0, 0), 0, []),
  (37, false, .aload_n 0, 1, 0, (0, 0, 0, 0), 0, []),
  (38, false, .iload_n 3, 1, 0, (0, 0, 0, 0), 0, []),
  (39, false, .putfield 36, 3, 639, (10, 3, 0, 0), 0, []),
  (42, false, .aload_n 0, 1, 0, (0, 0, 0, 0), 0, []),
  (43, false, .iload 4, 2, 0, (0, 0, 0, 0), 0, []),
  (45, false, .putfield 39, 3, 641, (10, 4, 0, 0), 0, []),
  (48, false, .aload_n 0, 1, 0, (0, 0, 0, 0), 0, []),
  (49, false, .iload 4, 2, 0, (0, 0, 0, 0), 0, []),
  (51, false, .aload_n 2, 1, 0, (0, 0, 0, 0), 0, []),
  (52, false, .getfield 40, 3, 307, (7, 4, 30, 1), 0, []),
  (55, false, .iconst 0, 1, 0, (0, 0, 0, 0), 0, []),
  (56, false, .iaload, 1, 0, (28, 0, 0, 0), 0, []),
  (57, false, .iadd, 1, 0, (0, 0, 0, 0), 0, []),
  (58, false, .putfield 44, 3, 643, (10, 5, 0, 0), 0, []),
  (61, false, .aload_n 0, 1, 0, (0, 0, 0, 0), 0, []),
  (62, false, .iload 5, 2, 0, (0, 0, 0, 0), 0, []),
  (64, false, .putfield 47, 3, 645, (10, 6, 0, 0), 0, []),
  (67, false, .aload_n 0, 1, 0, (0, 0, 0, 0), 0, []),
  (68, false, .aload_n 2, 1, 0, (0, 0, 0, 0), 0, []),
  (69, false, .getfield 40, 3, 307, (7, 4, 30, 1), 0, []),
  (72, false, .iconst 2, 1, 0, (0, 0, 0, 0), 0, []),
  (73, false, .iaload, 1, 0, (28, 0, 0, 0), 0, []),
  (74, false, .putfield 50, 3, 647, (10, 7, 0, 0), 0, []),
  (77, false, .return_, 1, 0, (0, 0, 0, 0), 0, [])]
theorem zc_xR_new : zk_xR_new.all (zz_ck zz_inf zM_xR_new) = true ∧ zz_ch zk_xR_new = true := ⟨by decide +kernel, by decide +kernel⟩
noncomputable def xR_new (v0 v1 v2 v3 v4 v5 : Int) (σ : zz_S) : zz_R := (let s1 := zz_w σ 10 v0 8 (-1); (let s2 := zz_w s1 10 v0 9 0; (let s3 := zz_w s2 10 v0 10 (-1); (let s4 := zz_w s3 10 v0 0 v1; (let s5 := zz_w s4 10 v0 1 v2; (if v2 = 0 then none else (let s6 := zz_w s5 10 v0 2 (zz_h s5 7 v2 14); (let s7 := zz_w s6 10 v0 3 v3; (let s8 := zz_w s7 10 v0 4 v4; (if v2 = 0 then none else (if v2 = 0 then none else (if zz_b s8 28 v2 0 then (let s9 := zz_w s8 10 v0 5 (zz_r (v4 + (zz_h s8 28 v2 0))); (let s10 := zz_w s9 10 v0 6 v5; (if v2 = 0 then none else (if v2 = 0 then none else (if zz_b s10 28 v2 2 then (let s11 := zz_w s10 10 v0 7 (zz_h s10 28 v2 2); (if zz_ow s11 10 v0 (zz_own 10) = true ∧ zz_m s11 10 + 1 = v0 then (some (0, zz_f s11 10)) else none)) else none))))) else none))))))))))))
set_option maxRecDepth 100000 in
set_option maxHeartbeats 4000000 in
theorem ze_xR_new (v0 v1 v2 v3 v4 v5 : Int) (σ : zz_S) : xR_new v0 v1 v2 v3 v4 v5 σ = zz_ev (zz_CE []) (zz_KE []) zk_xR_new 999 false 10 0 400 true (zz_sk zk_xR_new 0) [(0, 1010, v0), (1, 0, v1), (2, 9, v2), (3, 0, v3), (4, 0, v4), (5, 0, v5)] [] σ := rfl
theorem zo_xR_new : zz_okb zM_xR_new 0 [(0, 1010, false), (1, 0, false), (2, 9, false), (3, 0, false), (4, 0, false), (5, 0, false)] (zz_f6 xR_new) :=
  fun vs σ r τ h => by
    obtain ⟨v0, v1, v2, v3, v4, v5, rfl, h⟩ := zz_f6_ok h
    exact zz_from zc_xR_new zz_oc0 zz_ol0 ((ze_xR_new v0 v1 v2 v3 v4 v5 σ).symm.trans h)
noncomputable def zw_xR_new : List Int → zz_S → zz_R := zz_f6 fun a0 a1 a2 a3 a4 a5 σ => xR_new a0 a1 a2 a3 a4 a5 σ
theorem zo_m_xR_new : zz_okm zz_inf 106 zw_xR_new := fun vs σ r τ h => by
  obtain ⟨a0, a1, a2, a3, a4, a5, rfl, h⟩ := zz_f6_ok h
  exact zz_meth zi_xR_new zy_xR_new (zo_xR_new [a0, a1, a2, a3, a4, a5] σ r τ h)
def zk_x_beginRun : List zz_E := [(0, false, .aload_n 0, 1, 0, (0, 0, 0, 0), 0, []),
  (1, false, .getfield 27, 3, 166, (3, 3, 6, 1), 0, []),
  (4, false, .getfield 322, 3, 102, (4, 0, 21, 1), 0, []),
  (7, false, .iload_n 1, 1, 0, (0, 0, 0, 0), 0, []),
  (8, false, .aaload, 1, 0, (19, 0, 9, 0), 0, []),
  (9, false, .astore_n 3, 1, 0, (0, 0, 0, 0), 0, []),
  (10, false, .aload_n 3, 1, 0, (0, 0, 0, 0), 0, []),
  (11, false, .ifnull 22, 3, 0, (33, 0, 0, 0), 0, []),
  (14, false, .aload_n 0, 1, 0, (0, 0, 0, 0), 0, []),
  (15, false, .getfield 69, 3, 176, (3, 13, 0, 0), 0, []),
  (18, false, .bipush 8, 2, 0, (0, 0, 0, 0), 0, []),
  (20, false, .if_icmp .ge 13, 3, 0, (33, 0, 0, 0), 0, []),
  (23, false, .aload_n 0, 1, 0, (0, 0, 0, 0), 0, []),
  (24, false, .getfield 66, 3, 175, (3, 12, 0, 0), 0, []),
  (27, false, .sipush 2000, 3, 0, (0, 0, 0, 0), 0, []),
  (30, false, .if_icmp .lt 4, 3, 0, (34, 0, 0, 0), 0, []),
  (33, false, .return_, 1, 0, (0, 0, 0, 0), 0, []),
  (34, false, .aload_n 3, 1, 0, (0, 0, 0, 0), 0, []),
  (35, false, .dup, 1, 0, (0, 0, 0, 0), 0, []),
  (36, false, .getfield 364, 3, 330, (7, 14, 0, 0), 0, []),
  (39, false, .iconst 1, 1, 0, (0, 0, 0, 0), 0, []),
  (40, false, .iadd, 1, 0, (0, 0, 0, 0), 0, []),
  (41, false, .putfield 364, 3, 330, (7, 14, 0, 0), 0, []),
  (44, false, .aload_n 3, 1, 0, (0, 0, 0, 0), 0, []),
  (45, false, .dup, 1, 0, (0, 0, 0, 0), 0, []),
  (46, false, .getfield 264, 3, 332, (7, 15, 0, 0), 0, []),
  (49, false, .iconst 1, 1, 0, (0, 0, 0, 0), 0, []),
  (50, false, .iadd, 1, 0, (0, 0, 0, 0), 0, []),
  (51, false, .putfield 264, 3, 332, (7, 15, 0, 0), 0, []),
  (54, false, .new 15, 3, 92, (10, 0, 0, 0), 0, []),
  (57, false, .dup, 1, 0, (0, 0, 0, 0), 0, []),
  (58, false, .aload_n 0, 1, 0, (0, 0, 0, 0), 0, []),
  (59, false, .getfield 66, 3, 175, (3, 12, 0, 0), 0, []),
  (62, false, .aload_n 3, 1, 0, (0, 0, 0, 0), 0, []),
  (63, false, .aload_n 0, 1, 0, (0, 0, 0, 0), 0, []),
  (64, false, .getfield 27, 3, 166, (3, 3, 6, 1), 0, []),
  (67, false, .getfield 334, 3, 104, (4, 1, 22, 1), 0, []),
  (70, false, .iload_n 1, 1, 0, (0, 0, 0, 0), 0, []),
  (71, false, .iaload, 1, 0, (20, 0, 0, 0), 0, []),
  (72, false, .aload_n 0, 1, 0, (0, 0, 0, 0), 0, []),
  (73, false, .getfield 78, 3, 179, (3, 16, 0, 0), 0, []),
  (76, false, .iload_n 2, 1, 0, (0, 0, 0, 0), 0, []),
  (77, false, .invokespecial 367, 3, 629, (106, 10, 999, 0), 0, [0, 0, 0, 9, 0, 1010]),
  (80, false, .astore 4, 2, 0, (0, 0, 0, 0), 0, []),
  (82, false, .aload_n 0, 1, 0, (0, 0, 0, 0), 0, []),
  (83, false, .getfield 27, 3, 166, (3, 3, 6, 1), 0, []),
  (86, false, .iload_n 1, 1, 0, (0, 0, 0, 0), 0, []),
  (87, false, .invokevirtual 340, 3, 595, (77, 2, 999, 0), 0, [0, 6]),
  (90, false, .aload_n 0, 1, 0, (0, 0, 0, 0), 0, []),
  (91, false, .getfield 17, 3, 164, (3, 1, 14, 1), 0, []),
  (94, false, .aload_n 0, 1, 0, (0, 0, 0, 0), 0, []),
  (95, false, .getfield 66, 3, 175, (3, 12, 0, 0), 0, []),
  (98, false, .aload 4, 2, 0, (0, 0, 0, 0), 0, []),
  (100, false, .aastore, 1, 0, (12, 0, 12, 0), 0, []),
  (101, false, .aload_n 0, 1, 0, (0, 0, 0, 0), 0, []),
  (102, false, .dup, 1, 0, (0, 0, 0, 0), 0, []),
  (103, false, .getfield 66, 3, 175, (3, 12, 0, 0), 0, []),
  (106, false, .iconst 1, 1, 0, (0, 0, 0, 0), 0, []),
  (107, false, .iadd, 1, 0, (0, 0, 0, 0), 0, []),
  (108, false, .putfield 66, 3, 175, (3, 12, 0, 0), 0, []),
  (111, false, .aload_n 0, 1, 0, (0, 0, 0, 0), 0, []),
  (112, false, .getfield 21, 3, 165, (3, 2, 15, 1), 0, []),
  (115, false, .aload_n 0, 1, 0, (0, 0, 0, 0), 0, []),
  (116, false, .getfield 69, 3, 176, (3, 13, 0, 0), 0, []),
  (119, false, .aload 4, 2, 0, (0, 0, 0, 0), 0, []),
  (121, false, .aastore, 1, 0, (13, 0, 12, 0), 0, []),
  (122, false, .aload_n 0, 1, 0, (0, 0, 0, 0), 0, []),
  (123, false, .dup, 1, 0, (0, 0, 0, 0), 0, []),
  (124, false, .getfield 69, 3, 176, (3, 13, 0, 0), 0, []),
  (127, false, .iconst 1, 1, 0, (0, 0, 0, 0), 0, []),
  (128, false, .iadd, 1, 0, (0, 0, 0, 0), 0, []),
  (129, false, .putfield 69, 3, 176, (3, 13, 0, 0), 0, []),
  (132, false, .aload_n 0, 1, 0, (0, 0, 0, 0), 0, []),
  (133, false, .getfield 52, 3, 171, (3, 8, 18, 1), 0, []),
  (136, false, .iload_n 2, 1, 0, (0, 0, 0, 0), 0, []),
  (137, false, .iconst 1, 1, 0, (0, 0, 0, 0), 0, []),
  (138, false, .bastore, 1, 0, (16, 0, 0, 0), 0, []),
  (139, false, .return_, 1, 0, (0, 0, 0, 0), 0, [])]
theorem zc_x_beginRun : zk_x_beginRun.all (zz_ck zz_inf zM_x_beginRun) = true ∧ zz_ch zk_x_beginRun = true := ⟨by decide +kernel, by decide +kernel⟩
noncomputable def x_beginRun (v1 v2 : Int) (σ : zz_S) : zz_R := (if zz_b σ 19 1 v1 then (if (zz_h σ 19 1 v1) = 0 then (some (0, σ)) else (if (zz_h σ 3 1 13) < 8 then (if (zz_h σ 3 1 12) < 2000 then (if (zz_h σ 19 1 v1) = 0 then none else (if (zz_h σ 19 1 v1) = 0 then none else (let s1 := zz_w σ 7 (zz_h σ 19 1 v1) 14 (zz_r ((zz_h σ 7 (zz_h σ 19 1 v1) 14) + 1)); (if (zz_h σ 19 1 v1) = 0 then none else (if (zz_h σ 19 1 v1) = 0 then none else (let s2 := zz_w s1 7 (zz_h σ 19 1 v1) 15 (zz_r ((zz_h s1 7 (zz_h σ 19 1 v1) 15) + 1)); (let s3 := zz_n s2 10 0 11; (if zz_b s3 20 1 v1 then ((xR_new (zz_c s2 10 + 1) (zz_h s3 3 1 12) (zz_h σ 19 1 v1) (zz_h s3 20 1 v1) (zz_h s3 3 1 16) v2 s3).bind fun q4 => (if zz_c q4.2 10 = zz_m q4.2 10 then ((xD_remove v1 q4.2).bind fun q5 => (if zz_b q5.2 12 1 (zz_h q5.2 3 1 12) then (if (zz_c s2 10 + 1) = 0 then none else (let s6 := zz_w q5.2 12 1 (zz_h q5.2 3 1 12) (zz_c s2 10 + 1); (let s7 := zz_w s6 3 1 12 (zz_r ((zz_h s6 3 1 12) + 1)); (if zz_b s7 13 1 (zz_h s7 3 1 13) then (if (zz_c s2 10 + 1) = 0 then none else (let s8 := zz_w s7 13 1 (zz_h s7 3 1 13) (zz_c s2 10 + 1); (let s9 := zz_w s8 3 1 13 (zz_r ((zz_h s8 3 1 13) + 1)); (if zz_b s9 16 1 v2 then (let s10 := zz_w s9 16 1 v2 1; (some (0, s10))) else none)))) else none)))) else none)) else none)) else none)))))))) else (some (0, σ))) else (some (0, σ)))) else none)
set_option maxRecDepth 100000 in
set_option maxHeartbeats 4000000 in
theorem ze_x_beginRun (v1 v2 : Int) (σ : zz_S) : x_beginRun v1 v2 σ = zz_ev (zz_CE [(77, zw_xD_remove), (106, zw_xR_new)]) (zz_KE []) zk_x_beginRun 999 false 0 0 400 true (zz_sk zk_x_beginRun 0) [(0, 5, 1), (1, 0, v1), (2, 0, v2)] [] σ := rfl
theorem zo_x_beginRun : zz_okb zM_x_beginRun 0 [(0, 5, true), (1, 0, false), (2, 0, false)] (zz_f2 x_beginRun) :=
  fun vs σ r τ h => by
    obtain ⟨v1, v2, rfl, h⟩ := zz_f2_ok h
    exact zz_from zc_x_beginRun (zz_occ zo_m_xD_remove (zz_occ zo_m_xR_new zz_oc0)) zz_ol0 ((ze_x_beginRun v1 v2 σ).symm.trans h)
noncomputable def zw_x_beginRun : List Int → zz_S → zz_R := zz_f3 fun a0 a1 a2 σ => if a0 = 1 then x_beginRun a1 a2 σ else none
theorem zo_m_x_beginRun : zz_okm zz_inf 47 zw_x_beginRun := fun vs σ r τ h => by
  obtain ⟨a0, a1, a2, rfl, h⟩ := zz_f3_ok h
  obtain ⟨e, h⟩ := zz_it h
  subst e
  exact zz_meth zi_x_beginRun zy_x_beginRun (zo_x_beginRun [a1, a2] σ r τ h)
def zk_x_beginRuns : List zz_E := [(0, false, .iconst 0, 1, 0, (0, 0, 0, 0), 0, []),
  (1, false, .istore_n 1, 1, 0, (0, 0, 0, 0), 0, []),
  (2, true, .iload_n 1, 1, 0, (0, 0, 0, 0), 0, []),
  (3, false, .bipush 8, 2, 0, (0, 0, 0, 0), 0, []),
  (5, false, .if_icmp .ge 47, 3, 0, (52, 0, 0, 0), 0, []),
  (8, false, .aload_n 0, 1, 0, (0, 0, 0, 0), 0, []),
  (9, false, .invokevirtual 343, 3, 604, (43, 1, 0, 0), 0, [5]),
  (12, false, .istore_n 2, 1, 0, (0, 0, 0, 0), 0, []),
  (13, false, .iload_n 2, 1, 0, (0, 0, 0, 0), 0, []),
  (14, false, .iconst (-1), 1, 0, (0, 0, 0, 0), 0, []),
  (15, false, .if_icmp .eq 13, 3, 0, (28, 0, 0, 0), 0, []),
  (18, false, .aload_n 0, 1, 0, (0, 0, 0, 0), 0, []),
  (19, false, .getfield 66, 3, 175, (3, 12, 0, 0), 0, []),
  (22, false, .sipush 2000, 3, 0, (0, 0, 0, 0), 0, []),
  (25, false, .if_icmp .lt 4, 3, 0, (29, 0, 0, 0), 0, []),
  (28, false, .return_, 1, 0, (0, 0, 0, 0), 0, []),
  (29, false, .aload_n 0, 1, 0, (0, 0, 0, 0), 0, []),
  (30, false, .invokevirtual 346, 3, 608, (44, 1, 0, 0), 0, [5]),
  (33, false, .istore_n 3, 1, 0, (0, 0, 0, 0), 0, []),
  (34, false, .iload_n 3, 1, 0, (0, 0, 0, 0), 0, []),
  (35, false, .iconst (-1), 1, 0, (0, 0, 0, 0), 0, []),
  (36, false, .if_icmp .ne 4, 3, 0, (40, 0, 0, 0), 0, []),
  (39, false, .return_, 1, 0, (0, 0, 0, 0), 0, []),
  (40, false, .aload_n 0, 1, 0, (0, 0, 0, 0), 0, []),
  (41, false, .iload_n 3, 1, 0, (0, 0, 0, 0), 0, []),
  (42, false, .iload_n 2, 1, 0, (0, 0, 0, 0), 0, []),
  (43, false, .invokevirtual 349, 3, 624, (47, 3, 999, 0), 0, [0, 0, 5]),
  (46, false, .iinc 1 1, 3, 0, (0, 0, 0, 0), 0, []),
  (49, false, .goto (-47), 3, 0, (2, 0, 0, 0), 0, []),
  (52, false, .return_, 1, 0, (0, 0, 0, 0), 0, [])]
theorem zc_x_beginRuns : zk_x_beginRuns.all (zz_ck zz_inf zM_x_beginRuns) = true ∧ zz_ch zk_x_beginRuns = true := ⟨by decide +kernel, by decide +kernel⟩
noncomputable def x_beginRuns_2 : Nat → Int → zz_S → zz_R
  | 0, _, _ => none
  | n + 1, v1, σ => (if v1 < 8 then ((x_freeWorker σ).bind fun q1 => (if q1.1 = (-1) then (some (0, q1.2)) else (if (zz_h q1.2 3 1 12) < 2000 then ((x_firstToBegin q1.2).bind fun q2 => (if q2.1 = (-1) then (some (0, q2.2)) else ((x_beginRun q2.1 q1.1 q2.2).bind fun q3 => (x_beginRuns_2 n (zz_r (v1 + 1)) q3.2)))) else (some (0, q1.2))))) else (some (0, σ)))
set_option maxRecDepth 100000 in
set_option maxHeartbeats 4000000 in
theorem ze_x_beginRuns_2 (n : Nat) (v1 : Int) (σ : zz_S) : x_beginRuns_2 (n + 1) v1 σ = zz_ev (zz_CE [(43, zw_x_freeWorker), (44, zw_x_firstToBegin), (47, zw_x_beginRun)]) (zz_KE [(2, [(0, 5, true), (1, 0, false)], zz_f1 (x_beginRuns_2 n))]) zk_x_beginRuns 999 false 0 0 400 true (zz_sk zk_x_beginRuns 2) [(0, 5, 1), (1, 0, v1)] [] σ := rfl
theorem zo_x_beginRuns_2 : ∀ n : Nat, zz_okb zM_x_beginRuns 2 [(0, 5, true), (1, 0, false)] (zz_f1 (x_beginRuns_2 n))
  | 0 => fun vs σ r τ h => by
    obtain ⟨v1, rfl, h⟩ := zz_f1_ok h
    exact nomatch (show (none : zz_R) = some (r, τ) from h)
  | n + 1 => by
    have ih := zo_x_beginRuns_2 n
    exact fun vs σ r τ h => by
        obtain ⟨v1, rfl, h⟩ := zz_f1_ok h
        exact zz_from zc_x_beginRuns (zz_occ zo_m_x_freeWorker (zz_occ zo_m_x_firstToBegin (zz_occ zo_m_x_beginRun zz_oc0))) (zz_olc ih zz_ol0) ((ze_x_beginRuns_2 n v1 σ).symm.trans h)
noncomputable def x_beginRuns (σ : zz_S) : zz_R := (x_beginRuns_2 zz_fu 0 σ)
set_option maxRecDepth 100000 in
set_option maxHeartbeats 4000000 in
theorem ze_x_beginRuns (σ : zz_S) : x_beginRuns σ = zz_ev (zz_CE []) (zz_KE [(2, [(0, 5, true), (1, 0, false)], zz_f1 (x_beginRuns_2 zz_fu))]) zk_x_beginRuns 999 false 0 0 400 true (zz_sk zk_x_beginRuns 0) [(0, 5, 1)] [] σ := rfl
theorem zo_x_beginRuns : zz_okb zM_x_beginRuns 0 [(0, 5, true)] (zz_f0 x_beginRuns) :=
  fun vs σ r τ h => by
    obtain ⟨rfl, h⟩ := zz_f0_ok h
    exact zz_from zc_x_beginRuns zz_oc0 (zz_olc (zo_x_beginRuns_2 zz_fu) zz_ol0) ((ze_x_beginRuns σ).symm.trans h)
noncomputable def zw_x_beginRuns : List Int → zz_S → zz_R := zz_f1 fun a0 σ => if a0 = 1 then x_beginRuns σ else none
theorem zo_m_x_beginRuns : zz_okm zz_inf 42 zw_x_beginRuns := fun vs σ r τ h => by
  obtain ⟨a0, rfl, h⟩ := zz_f1_ok h
  obtain ⟨e, h⟩ := zz_it h
  subst e
  exact zz_meth zi_x_beginRuns zy_x_beginRuns (zo_x_beginRuns [] σ r τ h)
def zk_x_treatMinute : List zz_E := [(0, false, .aload_n 0, 1, 0, (0, 0, 0, 0), 0, []),
  (1, false, .invokevirtual 180, 3, 463, (26, 1, 999, 0), 0, [5]),
  (4, false, .aload_n 0, 1, 0, (0, 0, 0, 0), 0, []),
  (5, false, .invokevirtual 183, 3, 542, (34, 1, 999, 0), 0, [5]),
  (8, false, .aload_n 0, 1, 0, (0, 0, 0, 0), 0, []),
  (9, false, .invokevirtual 186, 3, 583, (39, 1, 999, 0), 0, [5]),
  (12, false, .aload_n 0, 1, 0, (0, 0, 0, 0), 0, []),
  (13, false, .invokevirtual 189, 3, 600, (42, 1, 999, 0), 0, [5]),
  (16, false, .iconst 0, 1, 0, (0, 0, 0, 0), 0, []),
  (17, false, .istore_n 1, 1, 0, (0, 0, 0, 0), 0, []),
  (18, true, .iload_n 1, 1, 0, (0, 0, 0, 0), 0, []),
  (19, false, .aload_n 0, 1, 0, (0, 0, 0, 0), 0, []),
  (20, false, .getfield 75, 3, 178, (3, 15, 0, 0), 0, []),
  (23, false, .if_icmp .ge 28, 3, 0, (51, 0, 0, 0), 0, []),
  (26, false, .aload_n 0, 1, 0, (0, 0, 0, 0), 0, []),
  (27, false, .getfield 52, 3, 171, (3, 8, 18, 1), 0, []),
  (30, false, .iload_n 1, 1, 0, (0, 0, 0, 0), 0, []),
  (31, false, .baload, 1, 0, (16, 0, 0, 0), 0, []),
  (32, false, .ifCond .ne 13, 3, 0, (45, 0, 0, 0), 0, []),
  (35, false, .aload_n 0, 1, 0, (0, 0, 0, 0), 0, []),
  (36, false, .getfield 49, 3, 170, (3, 7, 17, 1), 0, []),
  (39, false, .iload_n 1, 1, 0, (0, 0, 0, 0), 0, []),
  (40, false, .dup2, 1, 0, (0, 0, 0, 0), 0, []),
  (41, false, .iaload, 1, 0, (15, 0, 0, 0), 0, []),
  (42, false, .iconst 1, 1, 0, (0, 0, 0, 0), 0, []),
  (43, false, .iadd, 1, 0, (0, 0, 0, 0), 0, []),
  (44, false, .iastore, 1, 0, (15, 0, 0, 0), 0, []),
  (45, false, .iinc 1 1, 3, 0, (0, 0, 0, 0), 0, []),
  (48, false, .goto (-30), 3, 0, (18, 0, 0, 0), 0, []),
  (51, false, .aload_n 0, 1, 0, (0, 0, 0, 0), 0, []),
  (52, false, .dup, 1, 0, (0, 0, 0, 0), 0, []),
  (53, false, .getfield 78, 3, 179, (3, 16, 0, 0), 0, []),
  (56, false, .iconst 1, 1, 0, (0, 0, 0, 0), 0, []),
  (57, false, .iadd, 1, 0, (0, 0, 0, 0), 0, []),
  (58, false, .putfield 78, 3, 179, (3, 16, 0, 0), 0, []),
  (61, false, .return_, 1, 0, (0, 0, 0, 0), 0, [])]
theorem zc_x_treatMinute : zk_x_treatMinute.all (zz_ck zz_inf zM_x_treatMinute) = true ∧ zz_ch zk_x_treatMinute = true := ⟨by decide +kernel, by decide +kernel⟩
noncomputable def x_treatMinute_18 : Nat → Int → zz_S → zz_R
  | 0, _, _ => none
  | n + 1, v1, σ => (if v1 < (zz_h σ 3 1 15) then (if zz_b σ 16 1 v1 then (if (zz_h σ 16 1 v1) = 0 then (if zz_b σ 15 1 v1 then (if zz_b σ 15 1 v1 then (let s1 := zz_w σ 15 1 v1 (zz_r ((zz_h σ 15 1 v1) + 1)); (x_treatMinute_18 n (zz_r (v1 + 1)) s1)) else none) else none) else (x_treatMinute_18 n (zz_r (v1 + 1)) σ)) else none) else (let s2 := zz_w σ 3 1 16 (zz_r ((zz_h σ 3 1 16) + 1)); (some (0, s2))))
set_option maxRecDepth 100000 in
set_option maxHeartbeats 4000000 in
theorem ze_x_treatMinute_18 (n : Nat) (v1 : Int) (σ : zz_S) : x_treatMinute_18 (n + 1) v1 σ = zz_ev (zz_CE []) (zz_KE [(18, [(0, 5, true), (1, 0, false)], zz_f1 (x_treatMinute_18 n))]) zk_x_treatMinute 999 false 0 0 400 true (zz_sk zk_x_treatMinute 18) [(0, 5, 1), (1, 0, v1)] [] σ := rfl
theorem zo_x_treatMinute_18 : ∀ n : Nat, zz_okb zM_x_treatMinute 18 [(0, 5, true), (1, 0, false)] (zz_f1 (x_treatMinute_18 n))
  | 0 => fun vs σ r τ h => by
    obtain ⟨v1, rfl, h⟩ := zz_f1_ok h
    exact nomatch (show (none : zz_R) = some (r, τ) from h)
  | n + 1 => by
    have ih := zo_x_treatMinute_18 n
    exact fun vs σ r τ h => by
        obtain ⟨v1, rfl, h⟩ := zz_f1_ok h
        exact zz_from zc_x_treatMinute zz_oc0 (zz_olc ih zz_ol0) ((ze_x_treatMinute_18 n v1 σ).symm.trans h)
noncomputable def x_treatMinute (σ : zz_S) : zz_R := ((x_endRuns σ).bind fun q1 => ((x_bringDues q1.2).bind fun q2 => ((x_missDues q2.2).bind fun q3 => ((x_beginRuns q3.2).bind fun q4 => (x_treatMinute_18 zz_fu 0 q4.2)))))
set_option maxRecDepth 100000 in
set_option maxHeartbeats 4000000 in
theorem ze_x_treatMinute (σ : zz_S) : x_treatMinute σ = zz_ev (zz_CE [(26, zw_x_endRuns), (34, zw_x_bringDues), (39, zw_x_missDues), (42, zw_x_beginRuns)]) (zz_KE [(18, [(0, 5, true), (1, 0, false)], zz_f1 (x_treatMinute_18 zz_fu))]) zk_x_treatMinute 999 false 0 0 400 true (zz_sk zk_x_treatMinute 0) [(0, 5, 1)] [] σ := rfl
theorem zo_x_treatMinute : zz_okb zM_x_treatMinute 0 [(0, 5, true)] (zz_f0 x_treatMinute) :=
  fun vs σ r τ h => by
    obtain ⟨rfl, h⟩ := zz_f0_ok h
    exact zz_from zc_x_treatMinute (zz_occ zo_m_x_endRuns (zz_occ zo_m_x_bringDues (zz_occ zo_m_x_missDues (zz_occ zo_m_x_beginRuns zz_oc0)))) (zz_olc (zo_x_treatMinute_18 zz_fu) zz_ol0) ((ze_x_treatMinute σ).symm.trans h)
noncomputable def zw_x_treatMinute : List Int → zz_S → zz_R := zz_f1 fun a0 σ => if a0 = 1 then x_treatMinute σ else none
theorem zo_m_x_treatMinute : zz_okm zz_inf 25 zw_x_treatMinute := fun vs σ r τ h => by
  obtain ⟨a0, rfl, h⟩ := zz_f1_ok h
  obtain ⟨e, h⟩ := zz_it h
  subst e
  exact zz_meth zi_x_treatMinute zy_x_treatMinute (zo_x_treatMinute [] σ r τ h)
def zk_x_clock : List zz_E := [(0, false, .iload_n 1, 1, 0, (0, 0, 0, 0), 0, []),
  (1, false, .aload_n 0, 1, 0, (0, 0, 0, 0), 0, []),
  (2, false, .getfield 78, 3, 179, (3, 16, 0, 0), 0, []),
  (5, false, .aload_n 0, 1, 0, (0, 0, 0, 0), 0, []),
  (6, false, .getfield 78, 3, 179, (3, 16, 0, 0), 0, []),
  (9, false, .sipush 5000, 3, 0, (0, 0, 0, 0), 0, []),
  (12, false, .iadd, 1, 0, (0, 0, 0, 0), 0, []),
  (13, false, .ldc 95, 2, 239, (0, 0, 0, 0), 400000, []),
  (15, false, .invokestatic 172, 3, 456, (169, 2, 0, 0), 0, [0, 0]),
  (18, false, .invokestatic 91, 3, 228, (72, 3, 0, 0), 0, [0, 0, 0]),
  (21, false, .ifCond .ne 6, 3, 0, (27, 0, 0, 0), 0, []),
  (24, false, .bipush (-2), 2, 0, (0, 0, 0, 0), 0, []),
  (26, false, .ireturn, 1, 0, (0, 0, 0, 0), 0, []),
  (27, false, .aload_n 0, 1, 0, (0, 0, 0, 0), 0, []),
  (28, false, .getfield 66, 3, 175, (3, 12, 0, 0), 0, []),
  (31, false, .istore_n 2, 1, 0, (0, 0, 0, 0), 0, []),
  (32, false, .iload_n 1, 1, 0, (0, 0, 0, 0), 0, []),
  (33, false, .aload_n 0, 1, 0, (0, 0, 0, 0), 0, []),
  (34, false, .getfield 78, 3, 179, (3, 16, 0, 0), 0, []),
  (37, false, .isub, 1, 0, (0, 0, 0, 0), 0, []),
  (38, false, .istore_n 3, 1, 0, (0, 0, 0, 0), 0, []),
  (39, false, .iconst 0, 1, 0, (0, 0, 0, 0), 0, []),
  (40, false, .istore 4, 2, 0, (0, 0, 0, 0), 0, []),
  (42, true, .iload 4, 2, 0, (0, 0, 0, 0), 0, []),
  (44, false, .iload_n 3, 1, 0, (0, 0, 0, 0), 0, []),
  (45, false, .if_icmp .ge 13, 3, 0, (58, 0, 0, 0), 0, []),
  (48, false, .aload_n 0, 1, 0, (0, 0, 0, 0), 0, []),
  (49, false, .invokevirtual 177, 3, 459, (25, 1, 999, 0), 0, [5]),
  (52, false, .iinc 4 1, 3, 0, (0, 0, 0, 0), 0, []),
  (55, false, .goto (-13), 3, 0, (42, 0, 0, 0), 0, []),
  (58, false, .aload_n 0, 1, 0, (0, 0, 0, 0), 0, []),
  (59, false, .getfield 66, 3, 175, (3, 12, 0, 0), 0, []),
  (62, false, .iload_n 2, 1, 0, (0, 0, 0, 0), 0, []),
  (63, false, .isub, 1, 0, (0, 0, 0, 0), 0, []),
  (64, false, .ireturn, 1, 0, (0, 0, 0, 0), 0, [])]
theorem zc_x_clock : zk_x_clock.all (zz_ck zz_inf zM_x_clock) = true ∧ zz_ch zk_x_clock = true := ⟨by decide +kernel, by decide +kernel⟩
noncomputable def x_clock_42 : Nat → Int → Int → Int → zz_S → zz_R
  | 0, _, _, _, _ => none
  | n + 1, v2, v3, v4, σ => (if v4 < v3 then ((x_treatMinute σ).bind fun q1 => (x_clock_42 n v2 v3 (zz_r (v4 + 1)) q1.2)) else (some ((zz_r ((zz_h σ 3 1 12) - v2)), σ)))
set_option maxRecDepth 100000 in
set_option maxHeartbeats 4000000 in
theorem ze_x_clock_42 (n : Nat) (v2 v3 v4 : Int) (σ : zz_S) : x_clock_42 (n + 1) v2 v3 v4 σ = zz_ev (zz_CE [(25, zw_x_treatMinute)]) (zz_KE [(42, [(0, 5, true), (2, 0, false), (3, 0, false), (4, 0, false)], zz_f3 (x_clock_42 n))]) zk_x_clock 0 false 0 0 400 true (zz_sk zk_x_clock 42) [(0, 5, 1), (2, 0, v2), (3, 0, v3), (4, 0, v4)] [] σ := rfl
theorem zo_x_clock_42 : ∀ n : Nat, zz_okb zM_x_clock 42 [(0, 5, true), (2, 0, false), (3, 0, false), (4, 0, false)] (zz_f3 (x_clock_42 n))
  | 0 => fun vs σ r τ h => by
    obtain ⟨v2, v3, v4, rfl, h⟩ := zz_f3_ok h
    exact nomatch (show (none : zz_R) = some (r, τ) from h)
  | n + 1 => by
    have ih := zo_x_clock_42 n
    exact fun vs σ r τ h => by
        obtain ⟨v2, v3, v4, rfl, h⟩ := zz_f3_ok h
        exact zz_from zc_x_clock (zz_occ zo_m_x_treatMinute zz_oc0) (zz_olc ih zz_ol0) ((ze_x_clock_42 n v2 v3 v4 σ).symm.trans h)
noncomputable def x_clock (v1 : Int) (σ : zz_S) : zz_R := ((j_min (zz_r ((zz_h σ 3 1 16) + 5000)) 400000 σ).bind fun q1 => ((x_isWithin v1 (zz_h σ 3 1 16) q1.1 q1.2).bind fun q2 => (if q2.1 = 0 then (some ((-2), q2.2)) else (x_clock_42 zz_fu (zz_h q2.2 3 1 12) (zz_r (v1 - (zz_h q2.2 3 1 16))) 0 q2.2))))
set_option maxRecDepth 100000 in
set_option maxHeartbeats 4000000 in
theorem ze_x_clock (v1 : Int) (σ : zz_S) : x_clock v1 σ = zz_ev (zz_CE [(72, zw_x_isWithin), (169, zw_j_min)]) (zz_KE [(42, [(0, 5, true), (2, 0, false), (3, 0, false), (4, 0, false)], zz_f3 (x_clock_42 zz_fu))]) zk_x_clock 0 false 0 0 400 true (zz_sk zk_x_clock 0) [(0, 5, 1), (1, 0, v1)] [] σ := rfl
theorem zo_x_clock : zz_okb zM_x_clock 0 [(0, 5, true), (1, 0, false)] (zz_f1 x_clock) :=
  fun vs σ r τ h => by
    obtain ⟨v1, rfl, h⟩ := zz_f1_ok h
    exact zz_from zc_x_clock (zz_occ zo_m_x_isWithin (zz_occ zo_m_j_min zz_oc0)) (zz_olc (zo_x_clock_42 zz_fu) zz_ol0) ((ze_x_clock v1 σ).symm.trans h)
noncomputable def zw_x_clock : List Int → zz_S → zz_R := zz_f2 fun a0 a1 σ => if a0 = 1 then x_clock a1 σ else none
theorem zo_m_x_clock : zz_okm zz_inf 24 zw_x_clock := fun vs σ r τ h => by
  obtain ⟨a0, a1, rfl, h⟩ := zz_f2_ok h
  obtain ⟨e, h⟩ := zz_it h
  subst e
  exact zz_meth zi_x_clock zy_x_clock (zo_x_clock [a1] σ r τ h)
def zk_xC_firstFit : List zz_E := [(0, false, .aload_n 0, 1, 0, (0, 0, 0, 0), 0, []),
  (1, false, .getfield 17, 3, 255, (8, 1, 1, 0), 0, []),
  (4, false, .lconst 0, 1, 0, (0, 0, 0, 0), 0, []),
  (5, false, .lcmp, 1, 0, (0, 0, 0, 0), 0, []),
  (6, false, .ifCond .eq 17, 3, 0, (23, 0, 0, 0), 0, []),
  (9, false, .aload_n 0, 1, 0, (0, 0, 0, 0), 0, []),
  (10, false, .getfield 21, 3, 256, (8, 2, 0, 0), 0, []),
  (13, false, .ifCond .eq 10, 3, 0, (23, 0, 0, 0), 0, []),
  (16, false, .aload_n 0, 1, 0, (0, 0, 0, 0), 0, []),
  (17, false, .getfield 24, 3, 257, (8, 3, 0, 0), 0, []),
  (20, false, .ifCond .ne 5, 3, 0, (25, 0, 0, 0), 0, []),
  (23, false, .iconst (-1), 1, 0, (0, 0, 0, 0), 0, []),
  (24, false, .ireturn, 1, 0, (0, 0, 0, 0), 0, []),
  (25, false, .iload_n 1, 1, 0, (0, 0, 0, 0), 0, []),
  (26, false, .iconst 0, 1, 0, (0, 0, 0, 0), 0, []),
  (27, false, .invokestatic 69, 3, 694, (168, 2, 0, 0), 0, [0, 0]),
  (30, false, .istore_n 3, 1, 0, (0, 0, 0, 0), 0, []),
  (31, true, .iload_n 3, 1, 0, (0, 0, 0, 0), 0, []),
  (32, false, .iload_n 2, 1, 0, (0, 0, 0, 0), 0, []),
  (33, false, .if_icmp .gt 73, 3, 0, (106, 0, 0, 0), 0, []),
  (36, false, .iload_n 3, 1, 0, (0, 0, 0, 0), 0, []),
  (37, false, .ldc 75, 2, 695, (0, 0, 0, 0), 525600, []),
  (39, false, .if_icmp .ge 67, 3, 0, (106, 0, 0, 0), 0, []),
  (42, false, .aload_n 0, 1, 0, (0, 0, 0, 0), 0, []),
  (43, false, .iload_n 3, 1, 0, (0, 0, 0, 0), 0, []),
  (44, false, .sipush 1440, 3, 0, (0, 0, 0, 0), 0, []),
  (47, false, .idiv, 1, 0, (0, 0, 0, 0), 0, []),
  (48, false, .invokevirtual 59, 3, 570, (100, 2, 0, 0), 0, [0, 10]),
  (51, false, .ifCond .ne 18, 3, 0, (69, 0, 0, 0), 0, []),
  (54, false, .iload_n 3, 1, 0, (0, 0, 0, 0), 0, []),
  (55, false, .sipush 1440, 3, 0, (0, 0, 0, 0), 0, []),
  (58, false, .idiv, 1, 0, (0, 0, 0, 0), 0, []),
  (59, false, .iconst 1, 1, 0, (0, 0, 0, 0), 0, []),
  (60, false, .iadd, 1, 0, (0, 0, 0, 0), 0, []),
  (61, false, .sipush 1440, 3, 0, (0, 0, 0, 0), 0, []),
  (64, false, .imul, 1, 0, (0, 0, 0, 0), 0, []),
  (65, false, .istore_n 3, 1, 0, (0, 0, 0, 0), 0, []),
  (66, false, .goto (-35), 3, 0, (31, 0, 0, 0), 0, []),
  (69, false, .aload_n 0, 1, 0, (0, 0, 0, 0), 0, []),
  (70, false, .iload_n 3, 1, 0, (0, 0, 0, 0), 0, []),
  (71, false, .invokevirtual 56, 3, 566, (99, 2, 0, 0), 0, [0, 10]),
  (74, false, .ifCond .ne 16, 3, 0, (90, 0, 0, 0), 0, []),
  (77, false, .iload_n 3, 1, 0, (0, 0, 0, 0), 0, []),
  (78, false, .bipush 60, 2, 0, (0, 0, 0, 0), 0, []),
  (80, false, .idiv, 1, 0, (0, 0, 0, 0), 0, []),
  (81, false, .iconst 1, 1, 0, (0, 0, 0, 0), 0, []),
  (82, false, .iadd, 1, 0, (0, 0, 0, 0), 0, []),
  (83, false, .bipush 60, 2, 0, (0, 0, 0, 0), 0, []),
  (85, false, .imul, 1, 0, (0, 0, 0, 0), 0, []),
  (86, false, .istore_n 3, 1, 0, (0, 0, 0, 0), 0, []),
  (87, false, .goto (-56), 3, 0, (31, 0, 0, 0), 0, []),
  (90, false, .aload_n 0, 1, 0, (0, 0, 0, 0), 0, []),
  (91, false, .iload_n 3, 1, 0, (0, 0, 0, 0), 0, []),
  (92, false, .invokevirtual 52, 3, 562, (98, 2, 0, 0), 0, [0, 10]),
  (95, false, .ifCond .ne 9, 3, 0, (104, 0, 0, 0), 0, []),
  (98, false, .iinc 3 1, 3, 0, (0, 0, 0, 0), 0, []),
  (101, false, .goto (-70), 3, 0, (31, 0, 0, 0), 0, []),
  (104, false, .iload_n 3, 1, 0, (0, 0, 0, 0), 0, []),
  (105, false, .ireturn, 1, 0, (0, 0, 0, 0), 0, []),
  (106, false, .iconst (-1), 1, 0, (0, 0, 0, 0), 0, []),
  (107, false, .ireturn, 1, 0, (0, 0, 0, 0), 0, [])]
theorem zc_xC_firstFit : zk_xC_firstFit.all (zz_ck zz_inf zM_xC_firstFit) = true ∧ zz_ch zk_xC_firstFit = true := ⟨by decide +kernel, by decide +kernel⟩
noncomputable def xC_firstFit_31 : Nat → Int → Int → Int → zz_S → zz_R
  | 0, _, _, _, _ => none
  | n + 1, v0, v2, v3, σ => (if v3 ≤ v2 then (if v3 < 525600 then (if v0 = 0 then none else ((xC_dayFits v0 (zz_div v3 1440) σ).bind fun q1 => (if q1.1 = 0 then (xC_firstFit_31 n v0 v2 (zz_r ((zz_r ((zz_div v3 1440) + 1)) * 1440)) q1.2) else (if v0 = 0 then none else ((xC_hourFits v0 v3 q1.2).bind fun q2 => (if q2.1 = 0 then (xC_firstFit_31 n v0 v2 (zz_r ((zz_r ((zz_div v3 60) + 1)) * 60)) q2.2) else (if v0 = 0 then none else ((xC_minuteFits v0 v3 q2.2).bind fun q3 => (if q3.1 = 0 then (xC_firstFit_31 n v0 v2 (zz_r (v3 + 1)) q3.2) else (some (v3, q3.2))))))))))) else (some ((-1), σ))) else (some ((-1), σ)))
set_option maxRecDepth 100000 in
set_option maxHeartbeats 4000000 in
theorem ze_xC_firstFit_31 (n : Nat) (v0 v2 v3 : Int) (σ : zz_S) : xC_firstFit_31 (n + 1) v0 v2 v3 σ = zz_ev (zz_CE [(98, zw_xC_minuteFits), (99, zw_xC_hourFits), (100, zw_xC_dayFits)]) (zz_KE [(31, [(0, 10, false), (2, 0, false), (3, 0, false)], zz_f3 (xC_firstFit_31 n))]) zk_xC_firstFit 0 false 0 0 400 true (zz_sk zk_xC_firstFit 31) [(0, 10, v0), (2, 0, v2), (3, 0, v3)] [] σ := rfl
theorem zo_xC_firstFit_31 : ∀ n : Nat, zz_okb zM_xC_firstFit 31 [(0, 10, false), (2, 0, false), (3, 0, false)] (zz_f3 (xC_firstFit_31 n))
  | 0 => fun vs σ r τ h => by
    obtain ⟨v0, v2, v3, rfl, h⟩ := zz_f3_ok h
    exact nomatch (show (none : zz_R) = some (r, τ) from h)
  | n + 1 => by
    have ih := zo_xC_firstFit_31 n
    exact fun vs σ r τ h => by
        obtain ⟨v0, v2, v3, rfl, h⟩ := zz_f3_ok h
        exact zz_from zc_xC_firstFit (zz_occ zo_m_xC_minuteFits (zz_occ zo_m_xC_hourFits (zz_occ zo_m_xC_dayFits zz_oc0))) (zz_olc ih zz_ol0) ((ze_xC_firstFit_31 n v0 v2 v3 σ).symm.trans h)
noncomputable def xC_firstFit (v0 v1 v2 : Int) (σ : zz_S) : zz_R := (if v0 = 0 then none else (if (zz_lc (zz_h σ 8 v0 1) 0) = 0 then (some ((-1), σ)) else (if v0 = 0 then none else (if (zz_h σ 8 v0 2) = 0 then (some ((-1), σ)) else (if v0 = 0 then none else (if (zz_h σ 8 v0 3) = 0 then (some ((-1), σ)) else ((j_max v1 0 σ).bind fun q1 => (xC_firstFit_31 zz_fu v0 v2 q1.1 q1.2))))))))
set_option maxRecDepth 100000 in
set_option maxHeartbeats 4000000 in
theorem ze_xC_firstFit (v0 v1 v2 : Int) (σ : zz_S) : xC_firstFit v0 v1 v2 σ = zz_ev (zz_CE [(168, zw_j_max)]) (zz_KE [(31, [(0, 10, false), (2, 0, false), (3, 0, false)], zz_f3 (xC_firstFit_31 zz_fu))]) zk_xC_firstFit 0 false 0 0 400 true (zz_sk zk_xC_firstFit 0) [(0, 10, v0), (1, 0, v1), (2, 0, v2)] [] σ := rfl
theorem zo_xC_firstFit : zz_okb zM_xC_firstFit 0 [(0, 10, false), (1, 0, false), (2, 0, false)] (zz_f3 xC_firstFit) :=
  fun vs σ r τ h => by
    obtain ⟨v0, v1, v2, rfl, h⟩ := zz_f3_ok h
    exact zz_from zc_xC_firstFit (zz_occ zo_m_j_max zz_oc0) (zz_olc (zo_xC_firstFit_31 zz_fu) zz_ol0) ((ze_xC_firstFit v0 v1 v2 σ).symm.trans h)
noncomputable def zw_xC_firstFit : List Int → zz_S → zz_R := zz_f3 fun a0 a1 a2 σ => xC_firstFit a0 a1 a2 σ
theorem zo_m_xC_firstFit : zz_okm zz_inf 101 zw_xC_firstFit := fun vs σ r τ h => by
  obtain ⟨a0, a1, a2, rfl, h⟩ := zz_f3_ok h
  exact zz_meth zi_xC_firstFit zy_xC_firstFit (zo_xC_firstFit [a0, a1, a2] σ r τ h)
def zk_x_missJumped : List zz_E := [(0, false, .aload_n 1, 1, 0, (0, 0, 0, 0), 0, []),
  (1, false, .getfield 111, 3, 308, (7, 4, 30, 1), 0, []),
  (4, false, .iconst 4, 1, 0, (0, 0, 0, 0), 0, []),
  (5, false, .iaload, 1, 0, (28, 0, 0, 0), 0, []),
  (6, false, .istore 4, 2, 0, (0, 0, 0, 0), 0, []),
  (8, false, .aload_n 1, 1, 0, (0, 0, 0, 0), 0, []),
  (9, false, .getfield 122, 3, 311, (7, 5, 10, 1), 0, []),
  (12, false, .iload_n 2, 1, 0, (0, 0, 0, 0), 0, []),
  (13, false, .iload_n 3, 1, 0, (0, 0, 0, 0), 0, []),
  (14, false, .invokevirtual 377, 3, 690, (101, 3, 0, 0), 0, [0, 0, 10]),
  (17, false, .istore 5, 2, 0, (0, 0, 0, 0), 0, []),
  (19, false, .iconst 0, 1, 0, (0, 0, 0, 0), 0, []),
  (20, false, .istore 6, 2, 0, (0, 0, 0, 0), 0, []),
  (22, true, .iload 6, 2, 0, (0, 0, 0, 0), 0, []),
  (24, false, .sipush 720, 3, 0, (0, 0, 0, 0), 0, []),
  (27, false, .if_icmp .ge 63, 3, 0, (90, 0, 0, 0), 0, []),
  (30, false, .iload 5, 2, 0, (0, 0, 0, 0), 0, []),
  (32, false, .iconst (-1), 1, 0, (0, 0, 0, 0), 0, []),
  (33, false, .if_icmp .eq 57, 3, 0, (90, 0, 0, 0), 0, []),
  (36, false, .iload 4, 2, 0, (0, 0, 0, 0), 0, []),
  (38, false, .ifCond .ne 20, 3, 0, (58, 0, 0, 0), 0, []),
  (41, false, .aload_n 0, 1, 0, (0, 0, 0, 0), 0, []),
  (42, false, .getfield 34, 3, 167, (3, 4, 7, 1), 0, []),
  (45, false, .aload_n 1, 1, 0, (0, 0, 0, 0), 0, []),
  (46, false, .getfield 162, 3, 299, (7, 0, 0, 0), 0, []),
  (49, false, .iload 5, 2, 0, (0, 0, 0, 0), 0, []),
  (51, false, .iconst 3, 1, 0, (0, 0, 0, 0), 0, []),
  (52, false, .invokevirtual 314, 3, 534, (82, 4, 999, 0), 0, [0, 0, 0, 7]),
  (55, false, .goto 8, 3, 0, (63, 0, 0, 0), 0, []),
  (58, false, .aload_n 0, 1, 0, (0, 0, 0, 0), 0, []),
  (59, false, .aload_n 1, 1, 0, (0, 0, 0, 0), 0, []),
  (60, false, .invokevirtual 280, 3, 522, (36, 2, 999, 0), 0, [9, 5]),
  (63, true, .iload 4, 2, 0, (0, 0, 0, 0), 0, []),
  (65, false, .iconst 1, 1, 0, (0, 0, 0, 0), 0, []),
  (66, false, .if_icmp .ne 4, 3, 0, (70, 0, 0, 0), 0, []),
  (69, false, .return_, 1, 0, (0, 0, 0, 0), 0, []),
  (70, false, .aload_n 1, 1, 0, (0, 0, 0, 0), 0, []),
  (71, false, .getfield 122, 3, 311, (7, 5, 10, 1), 0, []),
  (74, false, .iload 5, 2, 0, (0, 0, 0, 0), 0, []),
  (76, false, .iconst 1, 1, 0, (0, 0, 0, 0), 0, []),
  (77, false, .iadd, 1, 0, (0, 0, 0, 0), 0, []),
  (78, false, .iload_n 3, 1, 0, (0, 0, 0, 0), 0, []),
  (79, false, .invokevirtual 377, 3, 690, (101, 3, 0, 0), 0, [0, 0, 10]),
  (82, false, .istore 5, 2, 0, (0, 0, 0, 0), 0, []),
  (84, false, .iinc 6 1, 3, 0, (0, 0, 0, 0), 0, []),
  (87, false, .goto (-65), 3, 0, (22, 0, 0, 0), 0, []),
  (90, false, .return_, 1, 0, (0, 0, 0, 0), 0, [])]
theorem zc_x_missJumped : zk_x_missJumped.all (zz_ck zz_inf zM_x_missJumped) = true ∧ zz_ch zk_x_missJumped = true := ⟨by decide +kernel, by decide +kernel⟩
noncomputable def x_missJumped_63 (k22 : Int → Int → Int → Int → Int → zz_S → zz_R) (v1 v3 v4 v5 v6 : Int) (σ : zz_S) : zz_R := (if v4 = 1 then (some (0, σ)) else (if v1 = 0 then none else (if v1 = 0 then none else ((xC_firstFit v1 (zz_r (v5 + 1)) v3 σ).bind fun q1 => (k22 v1 v3 v4 q1.1 (zz_r (v6 + 1)) q1.2)))))
set_option maxRecDepth 100000 in
set_option maxHeartbeats 4000000 in
theorem ze_x_missJumped_63 (k22 : Int → Int → Int → Int → Int → zz_S → zz_R) (v1 v3 v4 v5 v6 : Int) (σ : zz_S) : x_missJumped_63 k22 v1 v3 v4 v5 v6 σ = zz_ev (zz_CE [(101, zw_xC_firstFit)]) (zz_KE [(22, [(0, 5, true), (1, 9, false), (3, 0, false), (4, 0, false), (5, 0, false), (6, 0, false)], zz_f5 k22)]) zk_x_missJumped 999 false 0 0 400 true (zz_sk zk_x_missJumped 63) [(0, 5, 1), (1, 9, v1), (3, 0, v3), (4, 0, v4), (5, 0, v5), (6, 0, v6)] [] σ := rfl
theorem zo_x_missJumped_63 (k22 : Int → Int → Int → Int → Int → zz_S → zz_R) (hk22 : zz_okb zM_x_missJumped 22 [(0, 5, true), (1, 9, false), (3, 0, false), (4, 0, false), (5, 0, false), (6, 0, false)] (zz_f5 k22)) : zz_okb zM_x_missJumped 63 [(0, 5, true), (1, 9, false), (3, 0, false), (4, 0, false), (5, 0, false), (6, 0, false)] (zz_f5 (x_missJumped_63 k22)) :=
  fun vs σ r τ h => by
    obtain ⟨v1, v3, v4, v5, v6, rfl, h⟩ := zz_f5_ok h
    exact zz_from zc_x_missJumped (zz_occ zo_m_xC_firstFit zz_oc0) (zz_olc hk22 zz_ol0) ((ze_x_missJumped_63 k22 v1 v3 v4 v5 v6 σ).symm.trans h)
noncomputable def x_missJumped_22 : Nat → Int → Int → Int → Int → Int → zz_S → zz_R
  | 0, _, _, _, _, _, _ => none
  | n + 1, v1, v3, v4, v5, v6, σ => (if v6 < 720 then (if v5 = (-1) then (some (0, σ)) else (if v4 = 0 then (if v1 = 0 then none else ((xB_add (zz_h σ 7 v1 0) v5 3 σ).bind fun q1 => (x_missJumped_63 (x_missJumped_22 n) v1 v3 v4 v5 v6 q1.2))) else ((x_comeDue v1 σ).bind fun q2 => (x_missJumped_63 (x_missJumped_22 n) v1 v3 v4 v5 v6 q2.2)))) else (some (0, σ)))
set_option maxRecDepth 100000 in
set_option maxHeartbeats 4000000 in
theorem ze_x_missJumped_22 (n : Nat) (v1 v3 v4 v5 v6 : Int) (σ : zz_S) : x_missJumped_22 (n + 1) v1 v3 v4 v5 v6 σ = zz_ev (zz_CE [(36, zw_x_comeDue), (82, zw_xB_add)]) (zz_KE [(63, [(0, 5, true), (1, 9, false), (3, 0, false), (4, 0, false), (5, 0, false), (6, 0, false)], zz_f5 (x_missJumped_63 (x_missJumped_22 n)))]) zk_x_missJumped 999 false 0 0 400 true (zz_sk zk_x_missJumped 22) [(0, 5, 1), (1, 9, v1), (3, 0, v3), (4, 0, v4), (5, 0, v5), (6, 0, v6)] [] σ := rfl
theorem zo_x_missJumped_22 : ∀ n : Nat, zz_okb zM_x_missJumped 22 [(0, 5, true), (1, 9, false), (3, 0, false), (4, 0, false), (5, 0, false), (6, 0, false)] (zz_f5 (x_missJumped_22 n))
  | 0 => fun vs σ r τ h => by
    obtain ⟨v1, v3, v4, v5, v6, rfl, h⟩ := zz_f5_ok h
    exact nomatch (show (none : zz_R) = some (r, τ) from h)
  | n + 1 => by
    have ih := zo_x_missJumped_22 n
    exact fun vs σ r τ h => by
        obtain ⟨v1, v3, v4, v5, v6, rfl, h⟩ := zz_f5_ok h
        exact zz_from zc_x_missJumped (zz_occ zo_m_x_comeDue (zz_occ zo_m_xB_add zz_oc0)) (zz_olc (zo_x_missJumped_63 (x_missJumped_22 n) ih) zz_ol0) ((ze_x_missJumped_22 n v1 v3 v4 v5 v6 σ).symm.trans h)
noncomputable def x_missJumped (v1 v2 v3 : Int) (σ : zz_S) : zz_R := (if v1 = 0 then none else (if v1 = 0 then none else (if zz_b σ 28 v1 4 then (if v1 = 0 then none else (if v1 = 0 then none else ((xC_firstFit v1 v2 v3 σ).bind fun q1 => (x_missJumped_22 zz_fu v1 v3 (zz_h σ 28 v1 4) q1.1 0 q1.2)))) else none)))
set_option maxRecDepth 100000 in
set_option maxHeartbeats 4000000 in
theorem ze_x_missJumped (v1 v2 v3 : Int) (σ : zz_S) : x_missJumped v1 v2 v3 σ = zz_ev (zz_CE [(101, zw_xC_firstFit)]) (zz_KE [(22, [(0, 5, true), (1, 9, false), (3, 0, false), (4, 0, false), (5, 0, false), (6, 0, false)], zz_f5 (x_missJumped_22 zz_fu))]) zk_x_missJumped 999 false 0 0 400 true (zz_sk zk_x_missJumped 0) [(0, 5, 1), (1, 9, v1), (2, 0, v2), (3, 0, v3)] [] σ := rfl
theorem zo_x_missJumped : zz_okb zM_x_missJumped 0 [(0, 5, true), (1, 9, false), (2, 0, false), (3, 0, false)] (zz_f3 x_missJumped) :=
  fun vs σ r τ h => by
    obtain ⟨v1, v2, v3, rfl, h⟩ := zz_f3_ok h
    exact zz_from zc_x_missJumped (zz_occ zo_m_xC_firstFit zz_oc0) (zz_olc (zo_x_missJumped_22 zz_fu) zz_ol0) ((ze_x_missJumped v1 v2 v3 σ).symm.trans h)
noncomputable def zw_x_missJumped : List Int → zz_S → zz_R := zz_f4 fun a0 a1 a2 a3 σ => if a0 = 1 then x_missJumped a1 a2 a3 σ else none
theorem zo_m_x_missJumped : zz_okm zz_inf 50 zw_x_missJumped := fun vs σ r τ h => by
  obtain ⟨a0, a1, a2, a3, rfl, h⟩ := zz_f4_ok h
  obtain ⟨e, h⟩ := zz_it h
  subst e
  exact zz_meth zi_x_missJumped zy_x_missJumped (zo_x_missJumped [a1, a2, a3] σ r τ h)
def zk_x_jumpOver : List zz_E := [(0, false, .iload_n 1, 1, 0, (0, 0, 0, 0), 0, []),
  (1, false, .aload_n 0, 1, 0, (0, 0, 0, 0), 0, []),
  (2, false, .getfield 84, 3, 181, (3, 18, 0, 0), 0, []),
  (5, false, .iconst 1, 1, 0, (0, 0, 0, 0), 0, []),
  (6, false, .iadd, 1, 0, (0, 0, 0, 0), 0, []),
  (7, false, .invokestatic 258, 3, 510, (168, 2, 0, 0), 0, [0, 0]),
  (10, false, .istore_n 3, 1, 0, (0, 0, 0, 0), 0, []),
  (11, false, .iconst 0, 1, 0, (0, 0, 0, 0), 0, []),
  (12, false, .istore 4, 2, 0, (0, 0, 0, 0), 0, []),
  (14, true, .iload 4, 2, 0, (0, 0, 0, 0), 0, []),
  (16, false, .aload_n 0, 1, 0, (0, 0, 0, 0), 0, []),
  (17, false, .getfield 62, 3, 174, (3, 11, 0, 0), 0, []),
  (20, false, .if_icmp .ge 42, 3, 0, (62, 0, 0, 0), 0, []),
  (23, false, .aload_n 0, 1, 0, (0, 0, 0, 0), 0, []),
  (24, false, .iload 4, 2, 0, (0, 0, 0, 0), 0, []),
  (26, false, .invokevirtual 100, 3, 385, (73, 2, 9, 0), 0, [0, 5]),
  (29, false, .astore 5, 2, 0, (0, 0, 0, 0), 0, []),
  (31, false, .aload 5, 2, 0, (0, 0, 0, 0), 0, []),
  (33, false, .invokestatic 273, 3, 515, (74, 1, 0, 0), 0, [9]),
  (36, false, .ifCond .eq 20, 3, 0, (56, 0, 0, 0), 0, []),
  (39, false, .aload 5, 2, 0, (0, 0, 0, 0), 0, []),
  (41, false, .getfield 114, 3, 301, (7, 1, 0, 0), 0, []),
  (44, false, .iconst 3, 1, 0, (0, 0, 0, 0), 0, []),
  (45, false, .if_icmp .ne 11, 3, 0, (56, 0, 0, 0), 0, []),
  (48, false, .aload_n 0, 1, 0, (0, 0, 0, 0), 0, []),
  (49, false, .aload 5, 2, 0, (0, 0, 0, 0), 0, []),
  (51, false, .iload_n 3, 1, 0, (0, 0, 0, 0), 0, []),
  (52, false, .iload_n 2, 1, 0, (0, 0, 0, 0), 0, []),
  (53, false, .invokevirtual 373, 3, 686, (50, 4, 999, 0), 0, [0, 0, 9, 5]),
  (56, false, .iinc 4 1, 3, 0, (0, 0, 0, 0), 0, []),
  (59, false, .goto (-45), 3, 0, (14, 0, 0, 0), 0, []),
  (62, false, .aload_n 0, 1, 0, (0, 0, 0, 0), 0, []),
  (63, false, .aload_n 0, 1, 0, (0, 0, 0, 0), 0, []),
  (64, false, .getfield 84, 3, 181, (3, 18, 0, 0), 0, []),
  (67, false, .iload_n 2, 1, 0, (0, 0, 0, 0), 0, []),
  (68, false, .invokestatic 258, 3, 510, (168, 2, 0, 0), 0, [0, 0]),
  (71, false, .putfield 84, 3, 181, (3, 18, 0, 0), 0, []),
  (74, false, .return_, 1, 0, (0, 0, 0, 0), 0, [])]
theorem zc_x_jumpOver : zk_x_jumpOver.all (zz_ck zz_inf zM_x_jumpOver) = true ∧ zz_ch zk_x_jumpOver = true := ⟨by decide +kernel, by decide +kernel⟩
noncomputable def x_jumpOver_14 : Nat → Int → Int → Int → zz_S → zz_R
  | 0, _, _, _, _ => none
  | n + 1, v2, v3, v4, σ => (if v4 < (zz_h σ 3 1 11) then ((x_taskAt v4 σ).bind fun q1 => ((x_isActive q1.1 q1.2).bind fun q2 => (if q2.1 = 0 then (x_jumpOver_14 n v2 v3 (zz_r (v4 + 1)) q2.2) else (if q1.1 = 0 then none else (if (zz_h q2.2 7 q1.1 1) = 3 then ((x_missJumped q1.1 v3 v2 q2.2).bind fun q3 => (x_jumpOver_14 n v2 v3 (zz_r (v4 + 1)) q3.2)) else (x_jumpOver_14 n v2 v3 (zz_r (v4 + 1)) q2.2)))))) else ((j_max (zz_h σ 3 1 18) v2 σ).bind fun q4 => (let s5 := zz_w q4.2 3 1 18 q4.1; (some (0, s5)))))
set_option maxRecDepth 100000 in
set_option maxHeartbeats 4000000 in
theorem ze_x_jumpOver_14 (n : Nat) (v2 v3 v4 : Int) (σ : zz_S) : x_jumpOver_14 (n + 1) v2 v3 v4 σ = zz_ev (zz_CE [(50, zw_x_missJumped), (73, zw_x_taskAt), (74, zw_x_isActive), (168, zw_j_max)]) (zz_KE [(14, [(0, 5, true), (2, 0, false), (3, 0, false), (4, 0, false)], zz_f3 (x_jumpOver_14 n))]) zk_x_jumpOver 999 false 0 0 400 true (zz_sk zk_x_jumpOver 14) [(0, 5, 1), (2, 0, v2), (3, 0, v3), (4, 0, v4)] [] σ := rfl
theorem zo_x_jumpOver_14 : ∀ n : Nat, zz_okb zM_x_jumpOver 14 [(0, 5, true), (2, 0, false), (3, 0, false), (4, 0, false)] (zz_f3 (x_jumpOver_14 n))
  | 0 => fun vs σ r τ h => by
    obtain ⟨v2, v3, v4, rfl, h⟩ := zz_f3_ok h
    exact nomatch (show (none : zz_R) = some (r, τ) from h)
  | n + 1 => by
    have ih := zo_x_jumpOver_14 n
    exact fun vs σ r τ h => by
        obtain ⟨v2, v3, v4, rfl, h⟩ := zz_f3_ok h
        exact zz_from zc_x_jumpOver (zz_occ zo_m_x_missJumped (zz_occ zo_m_x_taskAt (zz_occ zo_m_x_isActive (zz_occ zo_m_j_max zz_oc0)))) (zz_olc ih zz_ol0) ((ze_x_jumpOver_14 n v2 v3 v4 σ).symm.trans h)
noncomputable def x_jumpOver (v1 v2 : Int) (σ : zz_S) : zz_R := ((j_max v1 (zz_r ((zz_h σ 3 1 18) + 1)) σ).bind fun q1 => (x_jumpOver_14 zz_fu v2 q1.1 0 q1.2))
set_option maxRecDepth 100000 in
set_option maxHeartbeats 4000000 in
theorem ze_x_jumpOver (v1 v2 : Int) (σ : zz_S) : x_jumpOver v1 v2 σ = zz_ev (zz_CE [(168, zw_j_max)]) (zz_KE [(14, [(0, 5, true), (2, 0, false), (3, 0, false), (4, 0, false)], zz_f3 (x_jumpOver_14 zz_fu))]) zk_x_jumpOver 999 false 0 0 400 true (zz_sk zk_x_jumpOver 0) [(0, 5, 1), (1, 0, v1), (2, 0, v2)] [] σ := rfl
theorem zo_x_jumpOver : zz_okb zM_x_jumpOver 0 [(0, 5, true), (1, 0, false), (2, 0, false)] (zz_f2 x_jumpOver) :=
  fun vs σ r τ h => by
    obtain ⟨v1, v2, rfl, h⟩ := zz_f2_ok h
    exact zz_from zc_x_jumpOver (zz_occ zo_m_j_max zz_oc0) (zz_olc (zo_x_jumpOver_14 zz_fu) zz_ol0) ((ze_x_jumpOver v1 v2 σ).symm.trans h)
noncomputable def zw_x_jumpOver : List Int → zz_S → zz_R := zz_f3 fun a0 a1 a2 σ => if a0 = 1 then x_jumpOver a1 a2 σ else none
theorem zo_m_x_jumpOver : zz_okm zz_inf 49 zw_x_jumpOver := fun vs σ r τ h => by
  obtain ⟨a0, a1, a2, rfl, h⟩ := zz_f3_ok h
  obtain ⟨e, h⟩ := zz_it h
  subst e
  exact zz_meth zi_x_jumpOver zy_x_jumpOver (zo_x_jumpOver [a1, a2] σ r τ h)
