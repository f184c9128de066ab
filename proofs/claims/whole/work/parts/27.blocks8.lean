def zk_m_after : List zz_E := [(0, false, .aload_n 0, 1, 0, (0, 0, 0, 0), 0, []),
  (1, false, .iload_n 1, 1, 0, (0, 0, 0, 0), 0, []),
  (2, false, .invokevirtual 262, 3, 1017, (109, 2, 0, 0), 0, [0, 42]),
  (5, false, .ifCond .eq 35, 3, 0, (40, 0, 0, 0), 0, []),
  (8, false, .aload_n 0, 1, 0, (0, 0, 0, 0), 0, []),
  (9, false, .getfield 26, 3, 804, (40, 10, 46, 1), 0, []),
  (12, false, .iload_n 1, 1, 0, (0, 0, 0, 0), 0, []),
  (13, false, .iaload, 1, 0, (44, 0, 0, 0), 0, []),
  (14, false, .iconst 4, 1, 0, (0, 0, 0, 0), 0, []),
  (15, false, .if_icmp .ne 25, 3, 0, (40, 0, 0, 0), 0, []),
  (18, false, .aload_n 0, 1, 0, (0, 0, 0, 0), 0, []),
  (19, false, .iload_n 2, 1, 0, (0, 0, 0, 0), 0, []),
  (20, false, .invokevirtual 262, 3, 1017, (109, 2, 0, 0), 0, [0, 42]),
  (23, false, .ifCond .eq 17, 3, 0, (40, 0, 0, 0), 0, []),
  (26, false, .iload_n 2, 1, 0, (0, 0, 0, 0), 0, []),
  (27, false, .iload_n 1, 1, 0, (0, 0, 0, 0), 0, []),
  (28, false, .if_icmp .eq 12, 3, 0, (40, 0, 0, 0), 0, []),
  (31, false, .iload_n 3, 1, 0, (0, 0, 0, 0), 0, []),
  (32, false, .iconst 0, 1, 0, (0, 0, 0, 0), 0, []),
  (33, false, .iconst 2, 1, 0, (0, 0, 0, 0), 0, []),
  (34, false, .invokestatic 174, 3, 1021, (108, 3, 0, 0), 0, [0, 0, 0]),
  (37, false, .ifCond .ne 6, 3, 0, (43, 0, 0, 0), 0, []),
  (40, false, .bipush (-2), 2, 0, (0, 0, 0, 0), 0, []),
  (42, false, .ireturn, 1, 0, (0, 0, 0, 0), 0, []),
  (43, false, .aload_n 0, 1, 0, (0, 0, 0, 0), 0, []),
  (44, false, .iload_n 2, 1, 0, (0, 0, 0, 0), 0, []),
  (45, false, .iload_n 1, 1, 0, (0, 0, 0, 0), 0, []),
  (46, false, .invokevirtual 322, 3, 1147, (149, 3, 0, 0), 0, [0, 0, 42]),
  (49, false, .ifCond .eq 6, 3, 0, (55, 0, 0, 0), 0, []),
  (52, false, .bipush (-3), 2, 0, (0, 0, 0, 0), 0, []),
  (54, false, .ireturn, 1, 0, (0, 0, 0, 0), 0, []),
  (55, false, .aload_n 0, 1, 0, (0, 0, 0, 0), 0, []),
  (56, false, .getfield 99, 3, 828, (40, 34, 70, 1), 0, []),
  (59, false, .iload_n 1, 1, 0, (0, 0, 0, 0), 0, []),
  (60, false, .iaload, 1, 0, (68, 0, 0, 0), 0, []),
  (61, false, .iconst 4, 1, 0, (0, 0, 0, 0), 0, []),
  (62, false, .if_icmp .ne 6, 3, 0, (68, 0, 0, 0), 0, []),
  (65, false, .bipush (-4), 2, 0, (0, 0, 0, 0), 0, []),
  (67, false, .ireturn, 1, 0, (0, 0, 0, 0), 0, []),
  (68, false, .aload_n 0, 1, 0, (0, 0, 0, 0), 0, []),
  (69, false, .getfield 102, 3, 829, (40, 35, 71, 1), 0, []),
  (72, false, .iconst 4, 1, 0, (0, 0, 0, 0), 0, []),
  (73, false, .iload_n 1, 1, 0, (0, 0, 0, 0), 0, []),
  (74, false, .imul, 1, 0, (0, 0, 0, 0), 0, []),
  (75, false, .aload_n 0, 1, 0, (0, 0, 0, 0), 0, []),
  (76, false, .getfield 99, 3, 828, (40, 34, 70, 1), 0, []),
  (79, false, .iload_n 1, 1, 0, (0, 0, 0, 0), 0, []),
  (80, false, .iaload, 1, 0, (68, 0, 0, 0), 0, []),
  (81, false, .iadd, 1, 0, (0, 0, 0, 0), 0, []),
  (82, false, .iload_n 2, 1, 0, (0, 0, 0, 0), 0, []),
  (83, false, .iastore, 1, 0, (69, 0, 0, 0), 0, []),
  (84, false, .aload_n 0, 1, 0, (0, 0, 0, 0), 0, []),
  (85, false, .getfield 105, 3, 830, (40, 36, 72, 1), 0, []),
  (88, false, .iconst 4, 1, 0, (0, 0, 0, 0), 0, []),
  (89, false, .iload_n 1, 1, 0, (0, 0, 0, 0), 0, []),
  (90, false, .imul, 1, 0, (0, 0, 0, 0), 0, []),
  (91, false, .aload_n 0, 1, 0, (0, 0, 0, 0), 0, []),
  (92, false, .getfield 99, 3, 828, (40, 34, 70, 1), 0, []),
  (95, false, .iload_n 1, 1, 0, (0, 0, 0, 0), 0, []),
  (96, false, .iaload, 1, 0, (68, 0, 0, 0), 0, []),
  (97, false, .iadd, 1, 0, (0, 0, 0, 0), 0, []),
  (98, false, .iload_n 3, 1, 0, (0, 0, 0, 0), 0, []),
  (99, false, .iastore, 1, 0, (70, 0, 0, 0), 0, []),
  (100, false, .aload_n 0, 1, 0, (0, 0, 0, 0), 0, []),
  (101, false, .getfield 99, 3, 828, (40, 34, 70, 1), 0, []),
  (104, false, .iload_n 1, 1, 0, (0, 0, 0, 0), 0, []),
  (105, false, .dup2, 1, 0, (0, 0, 0, 0), 0, []),
  (106, false, .iaload, 1, 0, (68, 0, 0, 0), 0, []),
  (107, false, .iconst 1, 1, 0, (0, 0, 0, 0), 0, []),
  (108, false, .iadd, 1, 0, (0, 0, 0, 0), 0, []),
  (109, false, .dup_x2, 1, 0, (0, 0, 0, 0), 0, []),
  (110, false, .iastore, 1, 0, (68, 0, 0, 0), 0, []),
  (111, false, .ireturn, 1, 0, (0, 0, 0, 0), 0, [])]
theorem zc_m_after : zk_m_after.all (zz_ck zz_inf zM_m_after) = true ∧ zz_ch zk_m_after = true := ⟨by decide +kernel, by decide +kernel⟩
noncomputable def m_after (v1 v2 v3 : Int) (σ : zz_S) : zz_R := ((m_isTask v1 σ).bind fun q1 => (if q1.1 = 0 then (some ((-2), q1.2)) else (if zz_b q1.2 44 1 v1 then (if (zz_h q1.2 44 1 v1) = 4 then ((m_isTask v2 q1.2).bind fun q2 => (if q2.1 = 0 then (some ((-2), q2.2)) else (if v2 = v1 then (some ((-2), q2.2)) else ((m_in v3 0 2 q2.2).bind fun q3 => (if q3.1 = 0 then (some ((-2), q3.2)) else ((m_leads v2 v1 q3.2).bind fun q4 => (if q4.1 = 0 then (if zz_b q4.2 68 1 v1 then (if (zz_h q4.2 68 1 v1) = 4 then (some ((-4), q4.2)) else (if zz_b q4.2 68 1 v1 then (if zz_b q4.2 69 1 (zz_r ((zz_r (4 * v1)) + (zz_h q4.2 68 1 v1))) then (let s5 := zz_w q4.2 69 1 (zz_r ((zz_r (4 * v1)) + (zz_h q4.2 68 1 v1))) v2; (if zz_b s5 68 1 v1 then (if zz_b s5 70 1 (zz_r ((zz_r (4 * v1)) + (zz_h s5 68 1 v1))) then (let s6 := zz_w s5 70 1 (zz_r ((zz_r (4 * v1)) + (zz_h s5 68 1 v1))) v3; (if zz_b s6 68 1 v1 then (if zz_b s6 68 1 v1 then (let s7 := zz_w s6 68 1 v1 (zz_r ((zz_h s6 68 1 v1) + 1)); (some ((zz_r ((zz_h s6 68 1 v1) + 1)), s7))) else none) else none)) else none) else none)) else none) else none)) else none) else (some ((-3), q4.2))))))))) else (some ((-2), q1.2))) else none)))
set_option maxRecDepth 100000 in
set_option maxHeartbeats 4000000 in
theorem ze_m_after (v1 v2 v3 : Int) (σ : zz_S) : m_after v1 v2 v3 σ = zz_ev (zz_CE [(108, zw_m_in), (109, zw_m_isTask), (149, zw_m_leads)]) (zz_KE []) zk_m_after 0 false 0 1 400 true (zz_sk zk_m_after 0) [(0, 42, 1), (1, 0, v1), (2, 0, v2), (3, 0, v3)] [] σ := rfl
theorem zo_m_after : zz_okb zM_m_after 0 [(0, 42, true), (1, 0, false), (2, 0, false), (3, 0, false)] (zz_f3 m_after) :=
  fun vs σ r τ h => by
    obtain ⟨v1, v2, v3, rfl, h⟩ := zz_f3_ok h
    exact zz_from zc_m_after (zz_occ zo_m_m_in (zz_occ zo_m_m_isTask (zz_occ zo_m_m_leads zz_oc0))) zz_ol0 ((ze_m_after v1 v2 v3 σ).symm.trans h)
noncomputable def zw_m_after : List Int → zz_S → zz_R := zz_f4 fun a0 a1 a2 a3 σ => if a0 = 1 then m_after a1 a2 a3 σ else none
theorem zo_m_m_after : zz_okm zz_inf 150 zw_m_after := fun vs σ r τ h => by
  obtain ⟨a0, a1, a2, a3, rfl, h⟩ := zz_f4_ok h
  obtain ⟨e, h⟩ := zz_it h
  subst e
  exact zz_meth zi_m_after zy_m_after (zo_m_after [a1, a2, a3] σ r τ h)
def zk_m_plan : List zz_E := [(0, false, .aload_n 0, 1, 0, (0, 0, 0, 0), 0, []),
  (1, false, .iload_n 1, 1, 0, (0, 0, 0, 0), 0, []),
  (2, false, .invokevirtual 262, 3, 1017, (109, 2, 0, 0), 0, [0, 42]),
  (5, false, .ifCond .eq 23, 3, 0, (28, 0, 0, 0), 0, []),
  (8, false, .iload_n 2, 1, 0, (0, 0, 0, 0), 0, []),
  (9, false, .iconst 1, 1, 0, (0, 0, 0, 0), 0, []),
  (10, false, .bipush 50, 2, 0, (0, 0, 0, 0), 0, []),
  (12, false, .invokestatic 174, 3, 1021, (108, 3, 0, 0), 0, [0, 0, 0]),
  (15, false, .ifCond .eq 13, 3, 0, (28, 0, 0, 0), 0, []),
  (18, false, .iload_n 3, 1, 0, (0, 0, 0, 0), 0, []),
  (19, false, .iconst 0, 1, 0, (0, 0, 0, 0), 0, []),
  (20, false, .bipush 15, 2, 0, (0, 0, 0, 0), 0, []),
  (22, false, .invokestatic 174, 3, 1021, (108, 3, 0, 0), 0, [0, 0, 0]),
  (25, false, .ifCond .ne 6, 3, 0, (31, 0, 0, 0), 0, []),
  (28, false, .bipush (-2), 2, 0, (0, 0, 0, 0), 0, []),
  (30, false, .ireturn, 1, 0, (0, 0, 0, 0), 0, []),
  (31, false, .iconst 0, 1, 0, (0, 0, 0, 0), 0, []),
  (32, false, .istore 4, 2, 0, (0, 0, 0, 0), 0, []),
  (34, true, .iload 4, 2, 0, (0, 0, 0, 0), 0, []),
  (36, false, .aload_n 0, 1, 0, (0, 0, 0, 0), 0, []),
  (37, false, .getfield 259, 3, 831, (40, 37, 0, 0), 0, []),
  (40, false, .if_icmp .ge 44, 3, 0, (84, 0, 0, 0), 0, []),
  (43, false, .aload_n 0, 1, 0, (0, 0, 0, 0), 0, []),
  (44, false, .getfield 108, 3, 832, (40, 38, 73, 1), 0, []),
  (47, false, .iload 4, 2, 0, (0, 0, 0, 0), 0, []),
  (49, false, .iaload, 1, 0, (71, 0, 0, 0), 0, []),
  (50, false, .iload_n 1, 1, 0, (0, 0, 0, 0), 0, []),
  (51, false, .if_icmp .ne 27, 3, 0, (78, 0, 0, 0), 0, []),
  (54, false, .aload_n 0, 1, 0, (0, 0, 0, 0), 0, []),
  (55, false, .getfield 111, 3, 833, (40, 39, 74, 1), 0, []),
  (58, false, .iload 4, 2, 0, (0, 0, 0, 0), 0, []),
  (60, false, .iaload, 1, 0, (72, 0, 0, 0), 0, []),
  (61, false, .iload_n 2, 1, 0, (0, 0, 0, 0), 0, []),
  (62, false, .if_icmp .ne 16, 3, 0, (78, 0, 0, 0), 0, []),
  (65, false, .aload_n 0, 1, 0, (0, 0, 0, 0), 0, []),
  (66, false, .getfield 114, 3, 834, (40, 40, 75, 1), 0, []),
  (69, false, .iload 4, 2, 0, (0, 0, 0, 0), 0, []),
  (71, false, .iload_n 3, 1, 0, (0, 0, 0, 0), 0, []),
  (72, false, .iastore, 1, 0, (73, 0, 0, 0), 0, []),
  (73, false, .aload_n 0, 1, 0, (0, 0, 0, 0), 0, []),
  (74, false, .getfield 259, 3, 831, (40, 37, 0, 0), 0, []),
  (77, false, .ireturn, 1, 0, (0, 0, 0, 0), 0, []),
  (78, false, .iinc 4 1, 3, 0, (0, 0, 0, 0), 0, []),
  (81, false, .goto (-47), 3, 0, (34, 0, 0, 0), 0, []),
  (84, false, .aload_n 0, 1, 0, (0, 0, 0, 0), 0, []),
  (85, false, .getfield 259, 3, 831, (40, 37, 0, 0), 0, []),
  (88, false, .bipush 40, 2, 0, (0, 0, 0, 0), 0, []),
  (90, false, .if_icmp .ne 6, 3, 0, (96, 0, 0, 0), 0, []),
  (93, false, .bipush (-4), 2, 0, (0, 0, 0, 0), 0, []),
  (95, false, .ireturn, 1, 0, (0, 0, 0, 0), 0, []),
  (96, false, .aload_n 0, 1, 0, (0, 0, 0, 0), 0, []),
  (97, false, .getfield 108, 3, 832, (40, 38, 73, 1), 0, []),
  (100, false, .aload_n 0, 1, 0, (0, 0, 0, 0), 0, []),
  (101, false, .getfield 259, 3, 831, (40, 37, 0, 0), 0, []),
  (104, false, .iload_n 1, 1, 0, (0, 0, 0, 0), 0, []),
  (105, false, .iastore, 1, 0, (71, 0, 0, 0), 0, []),
  (106, false, .aload_n 0, 1, 0, (0, 0, 0, 0), 0, []),
  (107, false, .getfield 111, 3, 833, (40, 39, 74, 1), 0, []),
  (110, false, .aload_n 0, 1, 0, (0, 0, 0, 0), 0, []),
  (111, false, .getfield 259, 3, 831, (40, 37, 0, 0), 0, []),
  (114, false, .iload_n 2, 1, 0, (0, 0, 0, 0), 0, []),
  (115, false, .iastore, 1, 0, (72, 0, 0, 0), 0, []),
  (116, false, .aload_n 0, 1, 0, (0, 0, 0, 0), 0, []),
  (117, false, .getfield 114, 3, 834, (40, 40, 75, 1), 0, []),
  (120, false, .aload_n 0, 1, 0, (0, 0, 0, 0), 0, []),
  (121, false, .getfield 259, 3, 831, (40, 37, 0, 0), 0, []),
  (124, false, .iload_n 3, 1, 0, (0, 0, 0, 0), 0, []),
  (125, false, .iastore, 1, 0, (73, 0, 0, 0), 0, []),
  (126, false, .aload_n 0, 1, 0, (0, 0, 0, 0), 0, []),
  (127, false, .dup, 1, 0, (0, 0, 0, 0), 0, []),
  (128, false, .getfield 259, 3, 831, (40, 37, 0, 0), 0, []),
  (131, false, .iconst 1, 1, 0, (0, 0, 0, 0), 0, []),
  (132, false, .iadd, 1, 0, (0, 0, 0, 0), 0, []),
  (133, false, .dup_x1, 1, 0, (0, 0, 0, 0), 0, []),
  (134, false, .putfield 259, 3, 831, (40, 37, 0, 0), 0, []),
  (137, false, .ireturn, 1, 0, (0, 0, 0, 0), 0, [])]
theorem zc_m_plan : zk_m_plan.all (zz_ck zz_inf zM_m_plan) = true ∧ zz_ch zk_m_plan = true := ⟨by decide +kernel, by decide +kernel⟩
noncomputable def m_plan_34 : Nat → Int → Int → Int → Int → zz_S → zz_R
  | 0, _, _, _, _, _ => none
  | n + 1, v1, v2, v3, v4, σ => (if v4 < (zz_h σ 40 1 37) then (if zz_b σ 71 1 v4 then (if (zz_h σ 71 1 v4) = v1 then (if zz_b σ 72 1 v4 then (if (zz_h σ 72 1 v4) = v2 then (if zz_b σ 73 1 v4 then (let s1 := zz_w σ 73 1 v4 v3; (some ((zz_h s1 40 1 37), s1))) else none) else (m_plan_34 n v1 v2 v3 (zz_r (v4 + 1)) σ)) else none) else (m_plan_34 n v1 v2 v3 (zz_r (v4 + 1)) σ)) else none) else (if (zz_h σ 40 1 37) = 40 then (some ((-4), σ)) else (if zz_b σ 71 1 (zz_h σ 40 1 37) then (let s2 := zz_w σ 71 1 (zz_h σ 40 1 37) v1; (if zz_b s2 72 1 (zz_h s2 40 1 37) then (let s3 := zz_w s2 72 1 (zz_h s2 40 1 37) v2; (if zz_b s3 73 1 (zz_h s3 40 1 37) then (let s4 := zz_w s3 73 1 (zz_h s3 40 1 37) v3; (let s5 := zz_w s4 40 1 37 (zz_r ((zz_h s4 40 1 37) + 1)); (some ((zz_r ((zz_h s4 40 1 37) + 1)), s5)))) else none)) else none)) else none)))
set_option maxRecDepth 100000 in
set_option maxHeartbeats 4000000 in
theorem ze_m_plan_34 (n : Nat) (v1 v2 v3 v4 : Int) (σ : zz_S) : m_plan_34 (n + 1) v1 v2 v3 v4 σ = zz_ev (zz_CE []) (zz_KE [(34, [(0, 42, true), (1, 0, false), (2, 0, false), (3, 0, false), (4, 0, false)], zz_f4 (m_plan_34 n))]) zk_m_plan 0 false 0 1 400 true (zz_sk zk_m_plan 34) [(0, 42, 1), (1, 0, v1), (2, 0, v2), (3, 0, v3), (4, 0, v4)] [] σ := rfl
theorem zo_m_plan_34 : ∀ n : Nat, zz_okb zM_m_plan 34 [(0, 42, true), (1, 0, false), (2, 0, false), (3, 0, false), (4, 0, false)] (zz_f4 (m_plan_34 n))
  | 0 => fun vs σ r τ h => by
    obtain ⟨v1, v2, v3, v4, rfl, h⟩ := zz_f4_ok h
    exact nomatch (show (none : zz_R) = some (r, τ) from h)
  | n + 1 => by
    have ih := zo_m_plan_34 n
    exact fun vs σ r τ h => by
        obtain ⟨v1, v2, v3, v4, rfl, h⟩ := zz_f4_ok h
        exact zz_from zc_m_plan zz_oc0 (zz_olc ih zz_ol0) ((ze_m_plan_34 n v1 v2 v3 v4 σ).symm.trans h)
noncomputable def m_plan (v1 v2 v3 : Int) (σ : zz_S) : zz_R := ((m_isTask v1 σ).bind fun q1 => (if q1.1 = 0 then (some ((-2), q1.2)) else ((m_in v2 1 50 q1.2).bind fun q2 => (if q2.1 = 0 then (some ((-2), q2.2)) else ((m_in v3 0 15 q2.2).bind fun q3 => (if q3.1 = 0 then (some ((-2), q3.2)) else (m_plan_34 zz_fu v1 v2 v3 0 q3.2)))))))
set_option maxRecDepth 100000 in
set_option maxHeartbeats 4000000 in
theorem ze_m_plan (v1 v2 v3 : Int) (σ : zz_S) : m_plan v1 v2 v3 σ = zz_ev (zz_CE [(108, zw_m_in), (109, zw_m_isTask)]) (zz_KE [(34, [(0, 42, true), (1, 0, false), (2, 0, false), (3, 0, false), (4, 0, false)], zz_f4 (m_plan_34 zz_fu))]) zk_m_plan 0 false 0 1 400 true (zz_sk zk_m_plan 0) [(0, 42, 1), (1, 0, v1), (2, 0, v2), (3, 0, v3)] [] σ := rfl
theorem zo_m_plan : zz_okb zM_m_plan 0 [(0, 42, true), (1, 0, false), (2, 0, false), (3, 0, false)] (zz_f3 m_plan) :=
  fun vs σ r τ h => by
    obtain ⟨v1, v2, v3, rfl, h⟩ := zz_f3_ok h
    exact zz_from zc_m_plan (zz_occ zo_m_m_in (zz_occ zo_m_m_isTask zz_oc0)) (zz_olc (zo_m_plan_34 zz_fu) zz_ol0) ((ze_m_plan v1 v2 v3 σ).symm.trans h)
noncomputable def zw_m_plan : List Int → zz_S → zz_R := zz_f4 fun a0 a1 a2 a3 σ => if a0 = 1 then m_plan a1 a2 a3 σ else none
theorem zo_m_m_plan : zz_okm zz_inf 151 zw_m_plan := fun vs σ r τ h => by
  obtain ⟨a0, a1, a2, a3, rfl, h⟩ := zz_f4_ok h
  obtain ⟨e, h⟩ := zz_it h
  subst e
  exact zz_meth zi_m_plan zy_m_plan (zo_m_plan [a1, a2, a3] σ r τ h)
def zk_m_clearPlan : List zz_E := [(0, false, .aload_n 0, 1, 0, (0, 0, 0, 0), 0, []),
  (1, false, .getfield 259, 3, 831, (40, 37, 0, 0), 0, []),
  (4, false, .istore_n 1, 1, 0, (0, 0, 0, 0), 0, []),
  (5, false, .aload_n 0, 1, 0, (0, 0, 0, 0), 0, []),
  (6, false, .iconst 0, 1, 0, (0, 0, 0, 0), 0, []),
  (7, false, .putfield 259, 3, 831, (40, 37, 0, 0), 0, []),
  (10, false, .iload_n 1, 1, 0, (0, 0, 0, 0), 0, []),
  (11, false, .ireturn, 1, 0, (0, 0, 0, 0), 0, [])]
theorem zc_m_clearPlan : zk_m_clearPlan.all (zz_ck zz_inf zM_m_clearPlan) = true ∧ zz_ch zk_m_clearPlan = true := ⟨by decide +kernel, by decide +kernel⟩
noncomputable def m_clearPlan (σ : zz_S) : zz_R := (let s1 := zz_w σ 40 1 37 0; (some ((zz_h σ 40 1 37), s1)))
set_option maxRecDepth 100000 in
set_option maxHeartbeats 4000000 in
theorem ze_m_clearPlan (σ : zz_S) : m_clearPlan σ = zz_ev (zz_CE []) (zz_KE []) zk_m_clearPlan 0 false 0 1 400 true (zz_sk zk_m_clearPlan 0) [(0, 42, 1)] [] σ := rfl
theorem zo_m_clearPlan : zz_okb zM_m_clearPlan 0 [(0, 42, true)] (zz_f0 m_clearPlan) :=
  fun vs σ r τ h => by
    obtain ⟨rfl, h⟩ := zz_f0_ok h
    exact zz_from zc_m_clearPlan zz_oc0 zz_ol0 ((ze_m_clearPlan σ).symm.trans h)
noncomputable def zw_m_clearPlan : List Int → zz_S → zz_R := zz_f1 fun a0 σ => if a0 = 1 then m_clearPlan σ else none
theorem zo_m_m_clearPlan : zz_okm zz_inf 152 zw_m_clearPlan := fun vs σ r τ h => by
  obtain ⟨a0, rfl, h⟩ := zz_f1_ok h
  obtain ⟨e, h⟩ := zz_it h
  subst e
  exact zz_meth zi_m_clearPlan zy_m_clearPlan (zo_m_clearPlan [] σ r τ h)
def zk_m_jump : List zz_E := [(0, false, .iload_n 1, 1, 0, (0, 0, 0, 0), 0, []),
  (1, false, .sipush (-720), 3, 0, (0, 0, 0, 0), 0, []),
  (4, false, .sipush 720, 3, 0, (0, 0, 0, 0), 0, []),
  (7, false, .invokestatic 174, 3, 1021, (108, 3, 0, 0), 0, [0, 0, 0]),
  (10, false, .ifCond .eq 39, 3, 0, (49, 0, 0, 0), 0, []),
  (13, false, .iload_n 1, 1, 0, (0, 0, 0, 0), 0, []),
  (14, false, .ifCond .eq 35, 3, 0, (49, 0, 0, 0), 0, []),
  (17, false, .aload_n 0, 1, 0, (0, 0, 0, 0), 0, []),
  (18, false, .getfield 214, 3, 795, (40, 1, 0, 0), 0, []),
  (21, false, .iload_n 1, 1, 0, (0, 0, 0, 0), 0, []),
  (22, false, .iadd, 1, 0, (0, 0, 0, 0), 0, []),
  (23, false, .sipush (-1440), 3, 0, (0, 0, 0, 0), 0, []),
  (26, false, .sipush 1440, 3, 0, (0, 0, 0, 0), 0, []),
  (29, false, .invokestatic 174, 3, 1021, (108, 3, 0, 0), 0, [0, 0, 0]),
  (32, false, .ifCond .eq 17, 3, 0, (49, 0, 0, 0), 0, []),
  (35, false, .aload_n 0, 1, 0, (0, 0, 0, 0), 0, []),
  (36, false, .getfield 250, 3, 794, (40, 0, 0, 0), 0, []),
  (39, false, .aload_n 0, 1, 0, (0, 0, 0, 0), 0, []),
  (40, false, .getfield 214, 3, 795, (40, 1, 0, 0), 0, []),
  (43, false, .iadd, 1, 0, (0, 0, 0, 0), 0, []),
  (44, false, .iload_n 1, 1, 0, (0, 0, 0, 0), 0, []),
  (45, false, .iadd, 1, 0, (0, 0, 0, 0), 0, []),
  (46, false, .ifCond .ge 6, 3, 0, (52, 0, 0, 0), 0, []),
  (49, false, .bipush (-2), 2, 0, (0, 0, 0, 0), 0, []),
  (51, false, .ireturn, 1, 0, (0, 0, 0, 0), 0, []),
  (52, false, .iload_n 1, 1, 0, (0, 0, 0, 0), 0, []),
  (53, false, .ifCond .le 161, 3, 0, (214, 0, 0, 0), 0, []),
  (56, false, .aload_n 0, 1, 0, (0, 0, 0, 0), 0, []),
  (57, false, .getfield 250, 3, 794, (40, 0, 0, 0), 0, []),
  (60, false, .aload_n 0, 1, 0, (0, 0, 0, 0), 0, []),
  (61, false, .getfield 214, 3, 795, (40, 1, 0, 0), 0, []),
  (64, false, .iadd, 1, 0, (0, 0, 0, 0), 0, []),
  (65, false, .istore_n 2, 1, 0, (0, 0, 0, 0), 0, []),
  (66, false, .iconst 0, 1, 0, (0, 0, 0, 0), 0, []),
  (67, false, .istore_n 3, 1, 0, (0, 0, 0, 0), 0, []),
  (68, true, .iload_n 3, 1, 0, (0, 0, 0, 0), 0, []),
  (69, false, .aload_n 0, 1, 0, (0, 0, 0, 0), 0, []),
  (70, false, .getfield 171, 3, 803, (40, 9, 0, 0), 0, []),
  (73, false, .if_icmp .ge 120, 3, 0, (193, 0, 0, 0), 0, []),
  (76, false, .aload_n 0, 1, 0, (0, 0, 0, 0), 0, []),
  (77, false, .iload_n 3, 1, 0, (0, 0, 0, 0), 0, []),
  (78, false, .invokevirtual 241, 3, 1024, (110, 2, 0, 0), 0, [0, 42]),
  (81, false, .ifCond .eq 106, 3, 0, (187, 0, 0, 0), 0, []),
  (84, false, .aload_n 0, 1, 0, (0, 0, 0, 0), 0, []),
  (85, false, .getfield 26, 3, 804, (40, 10, 46, 1), 0, []),
  (88, false, .iload_n 3, 1, 0, (0, 0, 0, 0), 0, []),
  (89, false, .iaload, 1, 0, (44, 0, 0, 0), 0, []),
  (90, false, .iconst 3, 1, 0, (0, 0, 0, 0), 0, []),
  (91, false, .if_icmp .eq 6, 3, 0, (97, 0, 0, 0), 0, []),
  (94, false, .goto 93, 3, 0, (187, 0, 0, 0), 0, []),
  (97, false, .iconst 0, 1, 0, (0, 0, 0, 0), 0, []),
  (98, false, .istore 4, 2, 0, (0, 0, 0, 0), 0, []),
  (100, false, .iload_n 2, 1, 0, (0, 0, 0, 0), 0, []),
  (101, false, .istore 5, 2, 0, (0, 0, 0, 0), 0, []),
  (103, true, .iload 5, 2, 0, (0, 0, 0, 0), 0, []),
  (105, false, .iload_n 2, 1, 0, (0, 0, 0, 0), 0, []),
  (106, false, .iload_n 1, 1, 0, (0, 0, 0, 0), 0, []),
  (107, false, .iadd, 1, 0, (0, 0, 0, 0), 0, []),
  (108, false, .if_icmp .ge 79, 3, 0, (187, 0, 0, 0), 0, []),
  (111, false, .iload 5, 2, 0, (0, 0, 0, 0), 0, []),
  (113, false, .aload_n 0, 1, 0, (0, 0, 0, 0), 0, []),
  (114, false, .getfield 7, 3, 796, (40, 2, 0, 0), 0, []),
  (117, false, .if_icmp .le 64, 3, 0, (181, 0, 0, 0), 0, []),
  (120, false, .aload_n 0, 1, 0, (0, 0, 0, 0), 0, []),
  (121, false, .iload_n 3, 1, 0, (0, 0, 0, 0), 0, []),
  (122, false, .iload 5, 2, 0, (0, 0, 0, 0), 0, []),
  (124, false, .invokevirtual 293, 3, 1068, (119, 3, 0, 0), 0, [0, 0, 42]),
  (127, false, .ifCond .ne 6, 3, 0, (133, 0, 0, 0), 0, []),
  (130, false, .goto 51, 3, 0, (181, 0, 0, 0), 0, []),
  (133, false, .iinc 4 1, 3, 0, (0, 0, 0, 0), 0, []),
  (136, false, .aload_n 0, 1, 0, (0, 0, 0, 0), 0, []),
  (137, false, .getfield 47, 3, 811, (40, 17, 53, 1), 0, []),
  (140, false, .iload_n 3, 1, 0, (0, 0, 0, 0), 0, []),
  (141, false, .iaload, 1, 0, (51, 0, 0, 0), 0, []),
  (142, false, .ifCond .ne 14, 3, 0, (156, 0, 0, 0), 0, []),
  (145, false, .aload_n 0, 1, 0, (0, 0, 0, 0), 0, []),
  (146, false, .iload_n 3, 1, 0, (0, 0, 0, 0), 0, []),
  (147, false, .iload 5, 2, 0, (0, 0, 0, 0), 0, []),
  (149, false, .iconst 3, 1, 0, (0, 0, 0, 0), 0, []),
  (150, false, .invokevirtual 227, 3, 1052, (123, 4, 999, 0), 0, [0, 0, 0, 42]),
  (153, false, .goto 28, 3, 0, (181, 0, 0, 0), 0, []),
  (156, false, .aload_n 0, 1, 0, (0, 0, 0, 0), 0, []),
  (157, false, .getfield 47, 3, 811, (40, 17, 53, 1), 0, []),
  (160, false, .iload_n 3, 1, 0, (0, 0, 0, 0), 0, []),
  (161, false, .iaload, 1, 0, (51, 0, 0, 0), 0, []),
  (162, false, .iconst 2, 1, 0, (0, 0, 0, 0), 0, []),
  (163, false, .if_icmp .eq 9, 3, 0, (172, 0, 0, 0), 0, []),
  (166, false, .iload 4, 2, 0, (0, 0, 0, 0), 0, []),
  (168, false, .iconst 1, 1, 0, (0, 0, 0, 0), 0, []),
  (169, false, .if_icmp .ne 12, 3, 0, (181, 0, 0, 0), 0, []),
  (172, false, .aload_n 0, 1, 0, (0, 0, 0, 0), 0, []),
  (173, false, .iload_n 3, 1, 0, (0, 0, 0, 0), 0, []),
  (174, false, .aload_n 0, 1, 0, (0, 0, 0, 0), 0, []),
  (175, false, .getfield 250, 3, 794, (40, 0, 0, 0), 0, []),
  (178, false, .invokevirtual 244, 3, 1048, (125, 3, 999, 0), 0, [0, 0, 42]),
  (181, false, .iinc 5 1, 3, 0, (0, 0, 0, 0), 0, []),
  (184, false, .goto (-81), 3, 0, (103, 0, 0, 0), 0, []),
  (187, false, .iinc 3 1, 3, 0, (0, 0, 0, 0), 0, []),
  (190, false, .goto (-122), 3, 0, (68, 0, 0, 0), 0, []),
  (193, false, .iload_n 2, 1, 0, (0, 0, 0, 0), 0, []),
  (194, false, .iload_n 1, 1, 0, (0, 0, 0, 0), 0, []),
  (195, false, .iadd, 1, 0, (0, 0, 0, 0), 0, []),
  (196, false, .iconst 1, 1, 0, (0, 0, 0, 0), 0, []),
  (197, false, .isub, 1, 0, (0, 0, 0, 0), 0, []),
  (198, false, .aload_n 0, 1, 0, (0, 0, 0, 0), 0, []),
  (199, false, .getfield 7, 3, 796, (40, 2, 0, 0), 0, []),
  (202, false, .if_icmp .le 12, 3, 0, (214, 0, 0, 0), 0, []),
  (205, false, .aload_n 0, 1, 0, (0, 0, 0, 0), 0, []),
  (206, false, .iload_n 2, 1, 0, (0, 0, 0, 0), 0, []),
  (207, false, .iload_n 1, 1, 0, (0, 0, 0, 0), 0, []),
  (208, false, .iadd, 1, 0, (0, 0, 0, 0), 0, []),
  (209, false, .iconst 1, 1, 0, (0, 0, 0, 0), 0, []),
  (210, false, .isub, 1, 0, (0, 0, 0, 0), 0, []),
  (211, false, .putfield 7, 3, 796, (40, 2, 0, 0), 0, []),
  (214, true, .aload_n 0, 1, 0, (0, 0, 0, 0), 0, []),
  (215, false, .dup, 1, 0, (0, 0, 0, 0), 0, []),
  (216, false, .getfield 214, 3, 795, (40, 1, 0, 0), 0, []),
  (219, false, .iload_n 1, 1, 0, (0, 0, 0, 0), 0, []),
  (220, false, .iadd, 1, 0, (0, 0, 0, 0), 0, []),
  (221, false, .putfield 214, 3, 795, (40, 1, 0, 0), 0, []),
  (224, false, .aload_n 0, 1, 0, (0, 0, 0, 0), 0, []),
  (225, false, .getfield 214, 3, 795, (40, 1, 0, 0), 0, []),
  (228, false, .ireturn, 1, 0, (0, 0, 0, 0), 0, [])]
theorem zc_m_jump : zk_m_jump.all (zz_ck zz_inf zM_m_jump) = true ∧ zz_ch zk_m_jump = true := ⟨by decide +kernel, by decide +kernel⟩
noncomputable def m_jump_214 (v1 : Int) (σ : zz_S) : zz_R := (let s1 := zz_w σ 40 1 1 (zz_r ((zz_h σ 40 1 1) + v1)); (some ((zz_h s1 40 1 1), s1)))
set_option maxRecDepth 100000 in
set_option maxHeartbeats 4000000 in
theorem ze_m_jump_214 (v1 : Int) (σ : zz_S) : m_jump_214 v1 σ = zz_ev (zz_CE []) (zz_KE []) zk_m_jump 0 false 0 1 400 true (zz_sk zk_m_jump 214) [(0, 42, 1), (1, 0, v1)] [] σ := rfl
theorem zo_m_jump_214 : zz_okb zM_m_jump 214 [(0, 42, true), (1, 0, false)] (zz_f1 m_jump_214) :=
  fun vs σ r τ h => by
    obtain ⟨v1, rfl, h⟩ := zz_f1_ok h
    exact zz_from zc_m_jump zz_oc0 zz_ol0 ((ze_m_jump_214 v1 σ).symm.trans h)
noncomputable def m_jump_103 (k68 : Int → Int → Int → zz_S → zz_R) : Nat → Int → Int → Int → Int → Int → zz_S → zz_R
  | 0, _, _, _, _, _, _ => none
  | n + 1, v1, v2, v3, v4, v5, σ => (if v5 < (zz_r (v2 + v1)) then (if v5 ≤ (zz_h σ 40 1 2) then (m_jump_103 k68 n v1 v2 v3 v4 (zz_r (v5 + 1)) σ) else ((m_fits v3 v5 σ).bind fun q1 => (if q1.1 = 0 then (m_jump_103 k68 n v1 v2 v3 v4 (zz_r (v5 + 1)) q1.2) else (if zz_b q1.2 51 1 v3 then (if (zz_h q1.2 51 1 v3) = 0 then ((m_books v3 v5 3 q1.2).bind fun q2 => (m_jump_103 k68 n v1 v2 v3 (zz_r (v4 + 1)) (zz_r (v5 + 1)) q2.2)) else (if zz_b q1.2 51 1 v3 then (if (zz_h q1.2 51 1 v3) = 2 then ((m_comes v3 (zz_h q1.2 40 1 0) q1.2).bind fun q3 => (m_jump_103 k68 n v1 v2 v3 (zz_r (v4 + 1)) (zz_r (v5 + 1)) q3.2)) else (if (zz_r (v4 + 1)) = 1 then ((m_comes v3 (zz_h q1.2 40 1 0) q1.2).bind fun q4 => (m_jump_103 k68 n v1 v2 v3 (zz_r (v4 + 1)) (zz_r (v5 + 1)) q4.2)) else (m_jump_103 k68 n v1 v2 v3 (zz_r (v4 + 1)) (zz_r (v5 + 1)) q1.2))) else none)) else none)))) else (k68 v1 v2 (zz_r (v3 + 1)) σ))
set_option maxRecDepth 100000 in
set_option maxHeartbeats 4000000 in
theorem ze_m_jump_103 (k68 : Int → Int → Int → zz_S → zz_R) (n : Nat) (v1 v2 v3 v4 v5 : Int) (σ : zz_S) : m_jump_103 k68 (n + 1) v1 v2 v3 v4 v5 σ = zz_ev (zz_CE [(119, zw_m_fits), (123, zw_m_books), (125, zw_m_comes)]) (zz_KE [(68, [(0, 42, true), (1, 0, false), (2, 0, false), (3, 0, false)], zz_f3 k68), (103, [(0, 42, true), (1, 0, false), (2, 0, false), (3, 0, false), (4, 0, false), (5, 0, false)], zz_f5 (m_jump_103 k68 n))]) zk_m_jump 0 false 0 1 400 true (zz_sk zk_m_jump 103) [(0, 42, 1), (1, 0, v1), (2, 0, v2), (3, 0, v3), (4, 0, v4), (5, 0, v5)] [] σ := rfl
theorem zo_m_jump_103 (k68 : Int → Int → Int → zz_S → zz_R) (hk68 : zz_okb zM_m_jump 68 [(0, 42, true), (1, 0, false), (2, 0, false), (3, 0, false)] (zz_f3 k68)) : ∀ n : Nat, zz_okb zM_m_jump 103 [(0, 42, true), (1, 0, false), (2, 0, false), (3, 0, false), (4, 0, false), (5, 0, false)] (zz_f5 (m_jump_103 k68 n))
  | 0 => fun vs σ r τ h => by
    obtain ⟨v1, v2, v3, v4, v5, rfl, h⟩ := zz_f5_ok h
    exact nomatch (show (none : zz_R) = some (r, τ) from h)
  | n + 1 => by
    have ih := zo_m_jump_103 k68 hk68 n
    exact fun vs σ r τ h => by
        obtain ⟨v1, v2, v3, v4, v5, rfl, h⟩ := zz_f5_ok h
        exact zz_from zc_m_jump (zz_occ zo_m_m_fits (zz_occ zo_m_m_books (zz_occ zo_m_m_comes zz_oc0))) (zz_olc hk68 (zz_olc ih zz_ol0)) ((ze_m_jump_103 k68 n v1 v2 v3 v4 v5 σ).symm.trans h)
noncomputable def m_jump_68 : Nat → Int → Int → Int → zz_S → zz_R
  | 0, _, _, _, _ => none
  | n + 1, v1, v2, v3, σ => (if v3 < (zz_h σ 40 1 9) then ((m_isActive v3 σ).bind fun q1 => (if q1.1 = 0 then (m_jump_68 n v1 v2 (zz_r (v3 + 1)) q1.2) else (if zz_b q1.2 44 1 v3 then (if (zz_h q1.2 44 1 v3) = 3 then (m_jump_103 (m_jump_68 n) zz_fu v1 v2 v3 0 v2 q1.2) else (m_jump_68 n v1 v2 (zz_r (v3 + 1)) q1.2)) else none))) else (if (zz_r ((zz_r (v2 + v1)) - 1)) ≤ (zz_h σ 40 1 2) then (m_jump_214 v1 σ) else (let s2 := zz_w σ 40 1 2 (zz_r ((zz_r (v2 + v1)) - 1)); (m_jump_214 v1 s2))))
set_option maxRecDepth 100000 in
set_option maxHeartbeats 4000000 in
theorem ze_m_jump_68 (n : Nat) (v1 v2 v3 : Int) (σ : zz_S) : m_jump_68 (n + 1) v1 v2 v3 σ = zz_ev (zz_CE [(110, zw_m_isActive)]) (zz_KE [(68, [(0, 42, true), (1, 0, false), (2, 0, false), (3, 0, false)], zz_f3 (m_jump_68 n)), (103, [(0, 42, true), (1, 0, false), (2, 0, false), (3, 0, false), (4, 0, false), (5, 0, false)], zz_f5 (m_jump_103 (m_jump_68 n) zz_fu)), (214, [(0, 42, true), (1, 0, false)], zz_f1 (m_jump_214))]) zk_m_jump 0 false 0 1 400 true (zz_sk zk_m_jump 68) [(0, 42, 1), (1, 0, v1), (2, 0, v2), (3, 0, v3)] [] σ := rfl
theorem zo_m_jump_68 : ∀ n : Nat, zz_okb zM_m_jump 68 [(0, 42, true), (1, 0, false), (2, 0, false), (3, 0, false)] (zz_f3 (m_jump_68 n))
  | 0 => fun vs σ r τ h => by
    obtain ⟨v1, v2, v3, rfl, h⟩ := zz_f3_ok h
    exact nomatch (show (none : zz_R) = some (r, τ) from h)
  | n + 1 => by
    have ih := zo_m_jump_68 n
    exact fun vs σ r τ h => by
        obtain ⟨v1, v2, v3, rfl, h⟩ := zz_f3_ok h
        exact zz_from zc_m_jump (zz_occ zo_m_m_isActive zz_oc0) (zz_olc ih (zz_olc (zo_m_jump_103 (m_jump_68 n) ih zz_fu) (zz_olc (zo_m_jump_214) zz_ol0))) ((ze_m_jump_68 n v1 v2 v3 σ).symm.trans h)
noncomputable def m_jump (v1 : Int) (σ : zz_S) : zz_R := ((m_in v1 (-720) 720 σ).bind fun q1 => (if q1.1 = 0 then (some ((-2), q1.2)) else (if v1 = 0 then (some ((-2), q1.2)) else ((m_in (zz_r ((zz_h q1.2 40 1 1) + v1)) (-1440) 1440 q1.2).bind fun q2 => (if q2.1 = 0 then (some ((-2), q2.2)) else (if (zz_r ((zz_r ((zz_h q2.2 40 1 0) + (zz_h q2.2 40 1 1))) + v1)) < 0 then (some ((-2), q2.2)) else (if v1 ≤ 0 then (m_jump_214 v1 q2.2) else (m_jump_68 zz_fu v1 (zz_r ((zz_h q2.2 40 1 0) + (zz_h q2.2 40 1 1))) 0 q2.2))))))))
set_option maxRecDepth 100000 in
set_option maxHeartbeats 4000000 in
theorem ze_m_jump (v1 : Int) (σ : zz_S) : m_jump v1 σ = zz_ev (zz_CE [(108, zw_m_in)]) (zz_KE [(68, [(0, 42, true), (1, 0, false), (2, 0, false), (3, 0, false)], zz_f3 (m_jump_68 zz_fu)), (214, [(0, 42, true), (1, 0, false)], zz_f1 (m_jump_214))]) zk_m_jump 0 false 0 1 400 true (zz_sk zk_m_jump 0) [(0, 42, 1), (1, 0, v1)] [] σ := rfl
theorem zo_m_jump : zz_okb zM_m_jump 0 [(0, 42, true), (1, 0, false)] (zz_f1 m_jump) :=
  fun vs σ r τ h => by
    obtain ⟨v1, rfl, h⟩ := zz_f1_ok h
    exact zz_from zc_m_jump (zz_occ zo_m_m_in zz_oc0) (zz_olc (zo_m_jump_68 zz_fu) (zz_olc (zo_m_jump_214) zz_ol0)) ((ze_m_jump v1 σ).symm.trans h)
noncomputable def zw_m_jump : List Int → zz_S → zz_R := zz_f2 fun a0 a1 σ => if a0 = 1 then m_jump a1 σ else none
theorem zo_m_m_jump : zz_okm zz_inf 153 zw_m_jump := fun vs σ r τ h => by
  obtain ⟨a0, a1, rfl, h⟩ := zz_f2_ok h
  obtain ⟨e, h⟩ := zz_it h
  subst e
  exact zz_meth zi_m_jump zy_m_jump (zo_m_jump [a1] σ r τ h)
def zk_m_cancel : List zz_E := [(0, false, .aload_n 0, 1, 0, (0, 0, 0, 0), 0, []),
  (1, false, .iload_n 1, 1, 0, (0, 0, 0, 0), 0, []),
  (2, false, .invokevirtual 262, 3, 1017, (109, 2, 0, 0), 0, [0, 42]),
  (5, false, .ifCond .eq 12, 3, 0, (17, 0, 0, 0), 0, []),
  (8, false, .iload_n 2, 1, 0, (0, 0, 0, 0), 0, []),
  (9, false, .iconst 0, 1, 0, (0, 0, 0, 0), 0, []),
  (10, false, .iconst 1, 1, 0, (0, 0, 0, 0), 0, []),
  (11, false, .invokestatic 174, 3, 1021, (108, 3, 0, 0), 0, [0, 0, 0]),
  (14, false, .ifCond .ne 6, 3, 0, (20, 0, 0, 0), 0, []),
  (17, false, .bipush (-2), 2, 0, (0, 0, 0, 0), 0, []),
  (19, false, .ireturn, 1, 0, (0, 0, 0, 0), 0, []),
  (20, false, .aload_n 0, 1, 0, (0, 0, 0, 0), 0, []),
  (21, false, .iload_n 1, 1, 0, (0, 0, 0, 0), 0, []),
  (22, false, .invokevirtual 241, 3, 1024, (110, 2, 0, 0), 0, [0, 42]),
  (25, false, .ifCond .ne 6, 3, 0, (31, 0, 0, 0), 0, []),
  (28, false, .bipush (-3), 2, 0, (0, 0, 0, 0), 0, []),
  (30, false, .ireturn, 1, 0, (0, 0, 0, 0), 0, []),
  (31, false, .aload_n 0, 1, 0, (0, 0, 0, 0), 0, []),
  (32, false, .getfield 62, 3, 816, (40, 22, 58, 1), 0, []),
  (35, false, .iload_n 1, 1, 0, (0, 0, 0, 0), 0, []),
  (36, false, .iconst 3, 1, 0, (0, 0, 0, 0), 0, []),
  (37, false, .iastore, 1, 0, (56, 0, 0, 0), 0, []),
  (38, false, .aload_n 0, 1, 0, (0, 0, 0, 0), 0, []),
  (39, false, .iload_n 1, 1, 0, (0, 0, 0, 0), 0, []),
  (40, false, .invokevirtual 265, 3, 1028, (127, 2, 999, 0), 0, [0, 42]),
  (43, false, .iload_n 2, 1, 0, (0, 0, 0, 0), 0, []),
  (44, false, .iconst 1, 1, 0, (0, 0, 0, 0), 0, []),
  (45, false, .if_icmp .ne 9, 3, 0, (54, 0, 0, 0), 0, []),
  (48, false, .aload_n 0, 1, 0, (0, 0, 0, 0), 0, []),
  (49, false, .iload_n 1, 1, 0, (0, 0, 0, 0), 0, []),
  (50, false, .iconst 0, 1, 0, (0, 0, 0, 0), 0, []),
  (51, false, .invokevirtual 325, 3, 1167, (130, 3, 999, 0), 0, [0, 0, 42]),
  (54, false, .iconst 1, 1, 0, (0, 0, 0, 0), 0, []),
  (55, false, .ireturn, 1, 0, (0, 0, 0, 0), 0, [])]
theorem zc_m_cancel : zk_m_cancel.all (zz_ck zz_inf zM_m_cancel) = true ∧ zz_ch zk_m_cancel = true := ⟨by decide +kernel, by decide +kernel⟩
noncomputable def m_cancel (v1 v2 : Int) (σ : zz_S) : zz_R := ((m_isTask v1 σ).bind fun q1 => (if q1.1 = 0 then (some ((-2), q1.2)) else ((m_in v2 0 1 q1.2).bind fun q2 => (if q2.1 = 0 then (some ((-2), q2.2)) else ((m_isActive v1 q2.2).bind fun q3 => (if q3.1 = 0 then (some ((-3), q3.2)) else (if zz_b q3.2 56 1 v1 then (let s4 := zz_w q3.2 56 1 v1 3; ((m_dropDues v1 s4).bind fun q5 => (if v2 = 1 then ((m_interrupts v1 0 q5.2).bind fun q6 => (some (1, q6.2))) else (some (1, q5.2))))) else none)))))))
set_option maxRecDepth 100000 in
set_option maxHeartbeats 4000000 in
theorem ze_m_cancel (v1 v2 : Int) (σ : zz_S) : m_cancel v1 v2 σ = zz_ev (zz_CE [(108, zw_m_in), (109, zw_m_isTask), (110, zw_m_isActive), (127, zw_m_dropDues), (130, zw_m_interrupts)]) (zz_KE []) zk_m_cancel 0 false 0 1 400 true (zz_sk zk_m_cancel 0) [(0, 42, 1), (1, 0, v1), (2, 0, v2)] [] σ := rfl
theorem zo_m_cancel : zz_okb zM_m_cancel 0 [(0, 42, true), (1, 0, false), (2, 0, false)] (zz_f2 m_cancel) :=
  fun vs σ r τ h => by
    obtain ⟨v1, v2, rfl, h⟩ := zz_f2_ok h
    exact zz_from zc_m_cancel (zz_occ zo_m_m_in (zz_occ zo_m_m_isTask (zz_occ zo_m_m_isActive (zz_occ zo_m_m_dropDues (zz_occ zo_m_m_interrupts zz_oc0))))) zz_ol0 ((ze_m_cancel v1 v2 σ).symm.trans h)
noncomputable def zw_m_cancel : List Int → zz_S → zz_R := zz_f3 fun a0 a1 a2 σ => if a0 = 1 then m_cancel a1 a2 σ else none
theorem zo_m_m_cancel : zz_okm zz_inf 154 zw_m_cancel := fun vs σ r τ h => by
  obtain ⟨a0, a1, a2, rfl, h⟩ := zz_f3_ok h
  obtain ⟨e, h⟩ := zz_it h
  subst e
  exact zz_meth zi_m_cancel zy_m_cancel (zo_m_cancel [a1, a2] σ r τ h)
def zk_m_stop : List zz_E := [(0, false, .iload_n 1, 1, 0, (0, 0, 0, 0), 0, []),
  (1, false, .iconst 0, 1, 0, (0, 0, 0, 0), 0, []),
  (2, false, .iconst 1, 1, 0, (0, 0, 0, 0), 0, []),
  (3, false, .invokestatic 174, 3, 1021, (108, 3, 0, 0), 0, [0, 0, 0]),
  (6, false, .ifCond .ne 6, 3, 0, (12, 0, 0, 0), 0, []),
  (9, false, .bipush (-2), 2, 0, (0, 0, 0, 0), 0, []),
  (11, false, .ireturn, 1, 0, (0, 0, 0, 0), 0, []),
  (12, false, .aload_n 0, 1, 0, (0, 0, 0, 0), 0, []),
  (13, false, .getfield 223, 3, 797, (40, 3, 0, 0), 1, []),
  (16, false, .ifCond .eq 6, 3, 0, (22, 0, 0, 0), 0, []),
  (19, false, .bipush (-3), 2, 0, (0, 0, 0, 0), 0, []),
  (21, false, .ireturn, 1, 0, (0, 0, 0, 0), 0, []),
  (22, false, .aload_n 0, 1, 0, (0, 0, 0, 0), 0, []),
  (23, false, .iconst 1, 1, 0, (0, 0, 0, 0), 0, []),
  (24, false, .putfield 223, 3, 797, (40, 3, 0, 0), 1, []),
  (27, false, .iload_n 1, 1, 0, (0, 0, 0, 0), 0, []),
  (28, false, .iconst 1, 1, 0, (0, 0, 0, 0), 0, []),
  (29, false, .if_icmp .ne 74, 3, 0, (103, 0, 0, 0), 0, []),
  (32, false, .iconst 0, 1, 0, (0, 0, 0, 0), 0, []),
  (33, false, .istore_n 2, 1, 0, (0, 0, 0, 0), 0, []),
  (34, true, .iload_n 2, 1, 0, (0, 0, 0, 0), 0, []),
  (35, false, .aload_n 0, 1, 0, (0, 0, 0, 0), 0, []),
  (36, false, .getfield 178, 3, 847, (40, 53, 0, 0), 0, []),
  (39, false, .if_icmp .ge 53, 3, 0, (92, 0, 0, 0), 0, []),
  (42, false, .aload_n 0, 1, 0, (0, 0, 0, 0), 0, []),
  (43, false, .aload_n 0, 1, 0, (0, 0, 0, 0), 0, []),
  (44, false, .getfield 150, 3, 848, (40, 54, 87, 1), 0, []),
  (47, false, .iload_n 2, 1, 0, (0, 0, 0, 0), 0, []),
  (48, false, .iaload, 1, 0, (85, 0, 0, 0), 0, []),
  (49, false, .aload_n 0, 1, 0, (0, 0, 0, 0), 0, []),
  (50, false, .getfield 153, 3, 849, (40, 55, 88, 1), 0, []),
  (53, false, .iload_n 2, 1, 0, (0, 0, 0, 0), 0, []),
  (54, false, .iaload, 1, 0, (86, 0, 0, 0), 0, []),
  (55, false, .iconst 4, 1, 0, (0, 0, 0, 0), 0, []),
  (56, false, .invokevirtual 227, 3, 1052, (123, 4, 999, 0), 0, [0, 0, 0, 42]),
  (59, false, .aload_n 0, 1, 0, (0, 0, 0, 0), 0, []),
  (60, false, .aload_n 0, 1, 0, (0, 0, 0, 0), 0, []),
  (61, false, .getfield 150, 3, 848, (40, 54, 87, 1), 0, []),
  (64, false, .iload_n 2, 1, 0, (0, 0, 0, 0), 0, []),
  (65, false, .iaload, 1, 0, (85, 0, 0, 0), 0, []),
  (66, false, .invokevirtual 241, 3, 1024, (110, 2, 0, 0), 0, [0, 42]),
  (69, false, .ifCond .eq 17, 3, 0, (86, 0, 0, 0), 0, []),
  (72, false, .aload_n 0, 1, 0, (0, 0, 0, 0), 0, []),
  (73, false, .aload_n 0, 1, 0, (0, 0, 0, 0), 0, []),
  (74, false, .getfield 150, 3, 848, (40, 54, 87, 1), 0, []),
  (77, false, .iload_n 2, 1, 0, (0, 0, 0, 0), 0, []),
  (78, false, .iaload, 1, 0, (85, 0, 0, 0), 0, []),
  (79, false, .aload_n 0, 1, 0, (0, 0, 0, 0), 0, []),
  (80, false, .getfield 250, 3, 794, (40, 0, 0, 0), 0, []),
  (83, false, .invokevirtual 231, 3, 1056, (124, 3, 999, 0), 0, [0, 0, 42]),
  (86, false, .iinc 2 1, 3, 0, (0, 0, 0, 0), 0, []),
  (89, false, .goto (-55), 3, 0, (34, 0, 0, 0), 0, []),
  (92, false, .aload_n 0, 1, 0, (0, 0, 0, 0), 0, []),
  (93, false, .iconst 0, 1, 0, (0, 0, 0, 0), 0, []),
  (94, false, .putfield 178, 3, 847, (40, 53, 0, 0), 0, []),
  (97, false, .aload_n 0, 1, 0, (0, 0, 0, 0), 0, []),
  (98, false, .iconst 0, 1, 0, (0, 0, 0, 0), 0, []),
  (99, false, .iconst 1, 1, 0, (0, 0, 0, 0), 0, []),
  (100, false, .invokevirtual 325, 3, 1167, (130, 3, 999, 0), 0, [0, 0, 42]),
  (103, false, .iconst 1, 1, 0, (0, 0, 0, 0), 0, []),
  (104, false, .ireturn, 1, 0, (0, 0, 0, 0), 0, [])]
theorem zc_m_stop : zk_m_stop.all (zz_ck zz_inf zM_m_stop) = true ∧ zz_ch zk_m_stop = true := ⟨by decide +kernel, by decide +kernel⟩
noncomputable def m_stop_34 : Nat → Int → zz_S → zz_R
  | 0, _, _ => none
  | n + 1, v2, σ => (if v2 < (zz_h σ 40 1 53) then (if zz_b σ 85 1 v2 then (if zz_b σ 86 1 v2 then ((m_books (zz_h σ 85 1 v2) (zz_h σ 86 1 v2) 4 σ).bind fun q1 => (if zz_b q1.2 85 1 v2 then ((m_isActive (zz_h q1.2 85 1 v2) q1.2).bind fun q2 => (if q2.1 = 0 then (m_stop_34 n (zz_r (v2 + 1)) q2.2) else (if zz_b q2.2 85 1 v2 then ((m_dueGone (zz_h q2.2 85 1 v2) (zz_h q2.2 40 1 0) q2.2).bind fun q3 => (m_stop_34 n (zz_r (v2 + 1)) q3.2)) else none))) else none)) else none) else none) else (let s4 := zz_w σ 40 1 53 0; ((m_interrupts 0 1 s4).bind fun q5 => (some (1, q5.2)))))
set_option maxRecDepth 100000 in
set_option maxHeartbeats 4000000 in
theorem ze_m_stop_34 (n : Nat) (v2 : Int) (σ : zz_S) : m_stop_34 (n + 1) v2 σ = zz_ev (zz_CE [(110, zw_m_isActive), (123, zw_m_books), (124, zw_m_dueGone), (130, zw_m_interrupts)]) (zz_KE [(34, [(0, 42, true), (2, 0, false)], zz_f1 (m_stop_34 n))]) zk_m_stop 0 false 0 1 400 true (zz_sk zk_m_stop 34) [(0, 42, 1), (2, 0, v2)] [] σ := rfl
theorem zo_m_stop_34 : ∀ n : Nat, zz_okb zM_m_stop 34 [(0, 42, true), (2, 0, false)] (zz_f1 (m_stop_34 n))
  | 0 => fun vs σ r τ h => by
    obtain ⟨v2, rfl, h⟩ := zz_f1_ok h
    exact nomatch (show (none : zz_R) = some (r, τ) from h)
  | n + 1 => by
    have ih := zo_m_stop_34 n
    exact fun vs σ r τ h => by
        obtain ⟨v2, rfl, h⟩ := zz_f1_ok h
        exact zz_from zc_m_stop (zz_occ zo_m_m_isActive (zz_occ zo_m_m_books (zz_occ zo_m_m_dueGone (zz_occ zo_m_m_interrupts zz_oc0)))) (zz_olc ih zz_ol0) ((ze_m_stop_34 n v2 σ).symm.trans h)
noncomputable def m_stop (v1 : Int) (σ : zz_S) : zz_R := ((m_in v1 0 1 σ).bind fun q1 => (if q1.1 = 0 then (some ((-2), q1.2)) else (if (zz_h q1.2 40 1 3) = 0 then (let s2 := zz_w q1.2 40 1 3 1; (if v1 = 1 then (m_stop_34 zz_fu 0 s2) else (some (1, s2)))) else (some ((-3), q1.2)))))
set_option maxRecDepth 100000 in
set_option maxHeartbeats 4000000 in
theorem ze_m_stop (v1 : Int) (σ : zz_S) : m_stop v1 σ = zz_ev (zz_CE [(108, zw_m_in)]) (zz_KE [(34, [(0, 42, true), (2, 0, false)], zz_f1 (m_stop_34 zz_fu))]) zk_m_stop 0 false 0 1 400 true (zz_sk zk_m_stop 0) [(0, 42, 1), (1, 0, v1)] [] σ := rfl
theorem zo_m_stop : zz_okb zM_m_stop 0 [(0, 42, true), (1, 0, false)] (zz_f1 m_stop) :=
  fun vs σ r τ h => by
    obtain ⟨v1, rfl, h⟩ := zz_f1_ok h
    exact zz_from zc_m_stop (zz_occ zo_m_m_in zz_oc0) (zz_olc (zo_m_stop_34 zz_fu) zz_ol0) ((ze_m_stop v1 σ).symm.trans h)
noncomputable def zw_m_stop : List Int → zz_S → zz_R := zz_f2 fun a0 a1 σ => if a0 = 1 then m_stop a1 σ else none
theorem zo_m_m_stop : zz_okm zz_inf 155 zw_m_stop := fun vs σ r τ h => by
  obtain ⟨a0, a1, rfl, h⟩ := zz_f2_ok h
  obtain ⟨e, h⟩ := zz_it h
  subst e
  exact zz_meth zi_m_stop zy_m_stop (zo_m_stop [a1] σ r τ h)
def zk_m_go : List zz_E := [(0, false, .aload_n 0, 1, 0, (0, 0, 0, 0), 0, []),
  (1, false, .getfield 223, 3, 797, (40, 3, 0, 0), 1, []),
  (4, false, .ifCond .ne 6, 3, 0, (10, 0, 0, 0), 0, []),
  (7, false, .bipush (-3), 2, 0, (0, 0, 0, 0), 0, []),
  (9, false, .ireturn, 1, 0, (0, 0, 0, 0), 0, []),
  (10, false, .aload_n 0, 1, 0, (0, 0, 0, 0), 0, []),
  (11, false, .iconst 0, 1, 0, (0, 0, 0, 0), 0, []),
  (12, false, .putfield 223, 3, 797, (40, 3, 0, 0), 1, []),
  (15, false, .iconst 1, 1, 0, (0, 0, 0, 0), 0, []),
  (16, false, .ireturn, 1, 0, (0, 0, 0, 0), 0, [])]
theorem zc_m_go : zk_m_go.all (zz_ck zz_inf zM_m_go) = true ∧ zz_ch zk_m_go = true := ⟨by decide +kernel, by decide +kernel⟩
noncomputable def m_go (σ : zz_S) : zz_R := (if (zz_h σ 40 1 3) = 0 then (some ((-3), σ)) else (let s1 := zz_w σ 40 1 3 0; (some (1, s1))))
set_option maxRecDepth 100000 in
set_option maxHeartbeats 4000000 in
theorem ze_m_go (σ : zz_S) : m_go σ = zz_ev (zz_CE []) (zz_KE []) zk_m_go 0 false 0 1 400 true (zz_sk zk_m_go 0) [(0, 42, 1)] [] σ := rfl
theorem zo_m_go : zz_okb zM_m_go 0 [(0, 42, true)] (zz_f0 m_go) :=
  fun vs σ r τ h => by
    obtain ⟨rfl, h⟩ := zz_f0_ok h
    exact zz_from zc_m_go zz_oc0 zz_ol0 ((ze_m_go σ).symm.trans h)
noncomputable def zw_m_go : List Int → zz_S → zz_R := zz_f1 fun a0 σ => if a0 = 1 then m_go σ else none
theorem zo_m_m_go : zz_okm zz_inf 156 zw_m_go := fun vs σ r τ h => by
  obtain ⟨a0, rfl, h⟩ := zz_f1_ok h
  obtain ⟨e, h⟩ := zz_it h
  subst e
  exact zz_meth zi_m_go zy_m_go (zo_m_go [] σ r τ h)
def zk_m_run : List zz_E := [(0, false, .iload_n 1, 1, 0, (0, 0, 0, 0), 0, []),
  (1, false, .iconst 0, 1, 0, (0, 0, 0, 0), 0, []),
  (2, false, .aload_n 0, 1, 0, (0, 0, 0, 0), 0, []),
  (3, false, .getfield 247, 3, 836, (40, 42, 0, 0), 0, []),
  (6, false, .iconst 1, 1, 0, (0, 0, 0, 0), 0, []),
  (7, false, .isub, 1, 0, (0, 0, 0, 0), 0, []),
  (8, false, .invokestatic 174, 3, 1021, (108, 3, 0, 0), 0, [0, 0, 0]),
  (11, false, .ifCond .ne 6, 3, 0, (17, 0, 0, 0), 0, []),
  (14, false, .bipush (-2), 2, 0, (0, 0, 0, 0), 0, []),
  (16, false, .ireturn, 1, 0, (0, 0, 0, 0), 0, []),
  (17, false, .iload_n 2, 1, 0, (0, 0, 0, 0), 0, []),
  (18, false, .tableswitch 102 0 7 #[46, 53, 60, 67, 74, 81, 88, 95], 46, 0, (120, 0, 0, 0), 0, [64, 71, 78, 85, 92, 99, 106, 113]),
  (64, false, .aload_n 0, 1, 0, (0, 0, 0, 0), 0, []),
  (65, false, .getfield 120, 3, 837, (40, 43, 77, 1), 0, []),
  (68, false, .iload_n 1, 1, 0, (0, 0, 0, 0), 0, []),
  (69, false, .iaload, 1, 0, (75, 0, 0, 0), 0, []),
  (70, false, .ireturn, 1, 0, (0, 0, 0, 0), 0, []),
  (71, false, .aload_n 0, 1, 0, (0, 0, 0, 0), 0, []),
  (72, false, .getfield 123, 3, 838, (40, 44, 78, 1), 0, []),
  (75, false, .iload_n 1, 1, 0, (0, 0, 0, 0), 0, []),
  (76, false, .iaload, 1, 0, (76, 0, 0, 0), 0, []),
  (77, false, .ireturn, 1, 0, (0, 0, 0, 0), 0, []),
  (78, false, .aload_n 0, 1, 0, (0, 0, 0, 0), 0, []),
  (79, false, .getfield 126, 3, 839, (40, 45, 79, 1), 0, []),
  (82, false, .iload_n 1, 1, 0, (0, 0, 0, 0), 0, []),
  (83, false, .iaload, 1, 0, (77, 0, 0, 0), 0, []),
  (84, false, .ireturn, 1, 0, (0, 0, 0, 0), 0, []),
  (85, false, .aload_n 0, 1, 0, (0, 0, 0, 0), 0, []),
  (86, false, .getfield 132, 3, 841, (40, 47, 81, 1), 0, []),
  (89, false, .iload_n 1, 1, 0, (0, 0, 0, 0), 0, []),
  (90, false, .iaload, 1, 0, (79, 0, 0, 0), 0, []),
  (91, false, .ireturn, 1, 0, (0, 0, 0, 0), 0, []),
  (92, false, .aload_n 0, 1, 0, (0, 0, 0, 0), 0, []),
  (93, false, .getfield 135, 3, 842, (40, 48, 82, 1), 0, []),
  (96, false, .iload_n 1, 1, 0, (0, 0, 0, 0), 0, []),
  (97, false, .iaload, 1, 0, (80, 0, 0, 0), 0, []),
  (98, false, .ireturn, 1, 0, (0, 0, 0, 0), 0, []),
  (99, false, .aload_n 0, 1, 0, (0, 0, 0, 0), 0, []),
  (100, false, .getfield 138, 3, 843, (40, 49, 83, 1), 0, []),
  (103, false, .iload_n 1, 1, 0, (0, 0, 0, 0), 0, []),
  (104, false, .iaload, 1, 0, (81, 0, 0, 0), 0, []),
  (105, false, .ireturn, 1, 0, (0, 0, 0, 0), 0, []),
  (106, false, .aload_n 0, 1, 0, (0, 0, 0, 0), 0, []),
  (107, false, .getfield 141, 3, 844, (40, 50, 84, 1), 0, []),
  (110, false, .iload_n 1, 1, 0, (0, 0, 0, 0), 0, []),
  (111, false, .iaload, 1, 0, (82, 0, 0, 0), 0, []),
  (112, false, .ireturn, 1, 0, (0, 0, 0, 0), 0, []),
  (113, false, .aload_n 0, 1, 0, (0, 0, 0, 0), 0, []),
  (114, false, .getfield 144, 3, 845, (40, 51, 85, 1), 0, []),
  (117, false, .iload_n 1, 1, 0, (0, 0, 0, 0), 0, []),
  (118, false, .iaload, 1, 0, (83, 0, 0, 0), 0, []),
  (119, false, .ireturn, 1, 0, (0, 0, 0, 0), 0, []),
  (120, false, .bipush (-2), 2, 0, (0, 0, 0, 0), 0, []),
  (122, false, .ireturn, 1, 0, (0, 0, 0, 0), 0, [])]
theorem zc_m_run : zk_m_run.all (zz_ck zz_inf zM_m_run) = true ∧ zz_ch zk_m_run = true := ⟨by decide +kernel, by decide +kernel⟩
noncomputable def m_run (v1 v2 : Int) (σ : zz_S) : zz_R := ((m_in v1 0 (zz_r ((zz_h σ 40 1 42) - 1)) σ).bind fun q1 => (if q1.1 = 0 then (some ((-2), q1.2)) else (if v2 = 0 then (if zz_b q1.2 75 1 v1 then (some ((zz_h q1.2 75 1 v1), q1.2)) else none) else (if v2 = 1 then (if zz_b q1.2 76 1 v1 then (some ((zz_h q1.2 76 1 v1), q1.2)) else none) else (if v2 = 2 then (if zz_b q1.2 77 1 v1 then (some ((zz_h q1.2 77 1 v1), q1.2)) else none) else (if v2 = 3 then (if zz_b q1.2 79 1 v1 then (some ((zz_h q1.2 79 1 v1), q1.2)) else none) else (if v2 = 4 then (if zz_b q1.2 80 1 v1 then (some ((zz_h q1.2 80 1 v1), q1.2)) else none) else (if v2 = 5 then (if zz_b q1.2 81 1 v1 then (some ((zz_h q1.2 81 1 v1), q1.2)) else none) else (if v2 = 6 then (if zz_b q1.2 82 1 v1 then (some ((zz_h q1.2 82 1 v1), q1.2)) else none) else (if v2 = 7 then (if zz_b q1.2 83 1 v1 then (some ((zz_h q1.2 83 1 v1), q1.2)) else none) else (some ((-2), q1.2))))))))))))
set_option maxRecDepth 100000 in
set_option maxHeartbeats 4000000 in
theorem ze_m_run (v1 v2 : Int) (σ : zz_S) : m_run v1 v2 σ = zz_ev (zz_CE [(108, zw_m_in)]) (zz_KE []) zk_m_run 0 false 0 1 400 true (zz_sk zk_m_run 0) [(0, 42, 1), (1, 0, v1), (2, 0, v2)] [] σ := rfl
theorem zo_m_run : zz_okb zM_m_run 0 [(0, 42, true), (1, 0, false), (2, 0, false)] (zz_f2 m_run) :=
  fun vs σ r τ h => by
    obtain ⟨v1, v2, rfl, h⟩ := zz_f2_ok h
    exact zz_from zc_m_run (zz_occ zo_m_m_in zz_oc0) zz_ol0 ((ze_m_run v1 v2 σ).symm.trans h)
noncomputable def zw_m_run : List Int → zz_S → zz_R := zz_f3 fun a0 a1 a2 σ => if a0 = 1 then m_run a1 a2 σ else none
theorem zo_m_m_run : zz_okm zz_inf 157 zw_m_run := fun vs σ r τ h => by
  obtain ⟨a0, a1, a2, rfl, h⟩ := zz_f3_ok h
  obtain ⟨e, h⟩ := zz_it h
  subst e
  exact zz_meth zi_m_run zy_m_run (zo_m_run [a1, a2] σ r τ h)
def zk_m_of : List zz_E := [(0, false, .aload_n 0, 1, 0, (0, 0, 0, 0), 0, []),
  (1, false, .iload_n 1, 1, 0, (0, 0, 0, 0), 0, []),
  (2, false, .invokevirtual 262, 3, 1017, (109, 2, 0, 0), 0, [0, 42]),
  (5, false, .ifCond .ne 6, 3, 0, (11, 0, 0, 0), 0, []),
  (8, false, .bipush (-2), 2, 0, (0, 0, 0, 0), 0, []),
  (10, false, .ireturn, 1, 0, (0, 0, 0, 0), 0, []),
  (11, false, .iload_n 2, 1, 0, (0, 0, 0, 0), 0, []),
  (12, false, .tableswitch 175 0 7 #[48, 110, 117, 124, 131, 137, 144, 168], 48, 0, (187, 0, 0, 0), 0, [60, 122, 129, 136, 143, 149, 156, 180]),
  (60, false, .aload_n 0, 1, 0, (0, 0, 0, 0), 0, []),
  (61, false, .getfield 62, 3, 816, (40, 22, 58, 1), 0, []),
  (64, false, .iload_n 1, 1, 0, (0, 0, 0, 0), 0, []),
  (65, false, .iaload, 1, 0, (56, 0, 0, 0), 0, []),
  (66, false, .ifCond .eq 10, 3, 0, (76, 0, 0, 0), 0, []),
  (69, false, .aload_n 0, 1, 0, (0, 0, 0, 0), 0, []),
  (70, false, .getfield 62, 3, 816, (40, 22, 58, 1), 0, []),
  (73, false, .iload_n 1, 1, 0, (0, 0, 0, 0), 0, []),
  (74, false, .iaload, 1, 0, (56, 0, 0, 0), 0, []),
  (75, false, .ireturn, 1, 0, (0, 0, 0, 0), 0, []),
  (76, false, .aload_n 0, 1, 0, (0, 0, 0, 0), 0, []),
  (77, false, .iload_n 1, 1, 0, (0, 0, 0, 0), 0, []),
  (78, false, .invokevirtual 235, 3, 1060, (112, 2, 0, 0), 0, [0, 42]),
  (81, false, .ifCond .eq 5, 3, 0, (86, 0, 0, 0), 0, []),
  (84, false, .iconst 1, 1, 0, (0, 0, 0, 0), 0, []),
  (85, false, .ireturn, 1, 0, (0, 0, 0, 0), 0, []),
  (86, false, .aload_n 0, 1, 0, (0, 0, 0, 0), 0, []),
  (87, false, .getfield 26, 3, 804, (40, 10, 46, 1), 0, []),
  (90, false, .iload_n 1, 1, 0, (0, 0, 0, 0), 0, []),
  (91, false, .iaload, 1, 0, (44, 0, 0, 0), 0, []),
  (92, false, .ifCond .ne 28, 3, 0, (120, 0, 0, 0), 0, []),
  (95, false, .aload_n 0, 1, 0, (0, 0, 0, 0), 0, []),
  (96, false, .getfield 29, 3, 805, (40, 11, 47, 1), 0, []),
  (99, false, .iload_n 1, 1, 0, (0, 0, 0, 0), 0, []),
  (100, false, .iaload, 1, 0, (45, 0, 0, 0), 0, []),
  (101, false, .aload_n 0, 1, 0, (0, 0, 0, 0), 0, []),
  (102, false, .getfield 250, 3, 794, (40, 0, 0, 0), 0, []),
  (105, false, .if_icmp .ge 15, 3, 0, (120, 0, 0, 0), 0, []),
  (108, false, .aload_n 0, 1, 0, (0, 0, 0, 0), 0, []),
  (109, false, .iload_n 1, 1, 0, (0, 0, 0, 0), 0, []),
  (110, false, .invokevirtual 296, 3, 1091, (114, 2, 0, 0), 0, [0, 42]),
  (113, false, .ifCond .ne 7, 3, 0, (120, 0, 0, 0), 0, []),
  (116, false, .iconst 2, 1, 0, (0, 0, 0, 0), 0, []),
  (117, false, .goto 4, 3, 0, (121, 0, 0, 0), 0, []),
  (120, false, .iconst 0, 1, 0, (0, 0, 0, 0), 0, []),
  (121, false, .ireturn, 1, 0, (0, 0, 0, 0), 0, []),
  (122, false, .aload_n 0, 1, 0, (0, 0, 0, 0), 0, []),
  (123, false, .getfield 26, 3, 804, (40, 10, 46, 1), 0, []),
  (126, false, .iload_n 1, 1, 0, (0, 0, 0, 0), 0, []),
  (127, false, .iaload, 1, 0, (44, 0, 0, 0), 0, []),
  (128, false, .ireturn, 1, 0, (0, 0, 0, 0), 0, []),
  (129, false, .aload_n 0, 1, 0, (0, 0, 0, 0), 0, []),
  (130, false, .getfield 77, 3, 821, (40, 27, 63, 1), 0, []),
  (133, false, .iload_n 1, 1, 0, (0, 0, 0, 0), 0, []),
  (134, false, .iaload, 1, 0, (61, 0, 0, 0), 0, []),
  (135, false, .ireturn, 1, 0, (0, 0, 0, 0), 0, []),
  (136, false, .aload_n 0, 1, 0, (0, 0, 0, 0), 0, []),
  (137, false, .getfield 68, 3, 818, (40, 24, 60, 1), 0, []),
  (140, false, .iload_n 1, 1, 0, (0, 0, 0, 0), 0, []),
  (141, false, .iaload, 1, 0, (58, 0, 0, 0), 0, []),
  (142, false, .ireturn, 1, 0, (0, 0, 0, 0), 0, []),
  (143, false, .aload_n 0, 1, 0, (0, 0, 0, 0), 0, []),
  (144, false, .iload_n 1, 1, 0, (0, 0, 0, 0), 0, []),
  (145, false, .invokevirtual 296, 3, 1091, (114, 2, 0, 0), 0, [0, 42]),
  (148, false, .ireturn, 1, 0, (0, 0, 0, 0), 0, []),
  (149, false, .aload_n 0, 1, 0, (0, 0, 0, 0), 0, []),
  (150, false, .getfield 71, 3, 819, (40, 25, 61, 1), 0, []),
  (153, false, .iload_n 1, 1, 0, (0, 0, 0, 0), 0, []),
  (154, false, .iaload, 1, 0, (59, 0, 0, 0), 0, []),
  (155, false, .ireturn, 1, 0, (0, 0, 0, 0), 0, []),
  (156, false, .aload_n 0, 1, 0, (0, 0, 0, 0), 0, []),
  (157, false, .getfield 74, 3, 820, (40, 26, 62, 1), 0, []),
  (160, false, .iload_n 1, 1, 0, (0, 0, 0, 0), 0, []),
  (161, false, .iaload, 1, 0, (60, 0, 0, 0), 0, []),
  (162, false, .aload_n 0, 1, 0, (0, 0, 0, 0), 0, []),
  (163, false, .getfield 250, 3, 794, (40, 0, 0, 0), 0, []),
  (166, false, .if_icmp .le 12, 3, 0, (178, 0, 0, 0), 0, []),
  (169, false, .aload_n 0, 1, 0, (0, 0, 0, 0), 0, []),
  (170, false, .getfield 74, 3, 820, (40, 26, 62, 1), 0, []),
  (173, false, .iload_n 1, 1, 0, (0, 0, 0, 0), 0, []),
  (174, false, .iaload, 1, 0, (60, 0, 0, 0), 0, []),
  (175, false, .goto 4, 3, 0, (179, 0, 0, 0), 0, []),
  (178, false, .iconst (-1), 1, 0, (0, 0, 0, 0), 0, []),
  (179, false, .ireturn, 1, 0, (0, 0, 0, 0), 0, []),
  (180, false, .aload_n 0, 1, 0, (0, 0, 0, 0), 0, []),
  (181, false, .getfield 53, 3, 813, (40, 19, 55, 1), 0, []),
  (184, false, .iload_n 1, 1, 0, (0, 0, 0, 0), 0, []),
  (185, false, .iaload, 1, 0, (53, 0, 0, 0), 0, []),
  (186, false, .ireturn, 1, 0, (0, 0, 0, 0), 0, []),
  (187, false, .bipush (-2), 2, 0, (0, 0, 0, 0), 0, []),
  (189, false, .ireturn, 1, 0, (0, 0, 0, 0), 0, [])]
theorem zc_m_of : zk_m_of.all (zz_ck zz_inf zM_m_of) = true ∧ zz_ch zk_m_of = true := ⟨by decide +kernel, by decide +kernel⟩
noncomputable def m_of (v1 v2 : Int) (σ : zz_S) : zz_R := ((m_isTask v1 σ).bind fun q1 => (if q1.1 = 0 then (some ((-2), q1.2)) else (if v2 = 0 then (if zz_b q1.2 56 1 v1 then (if (zz_h q1.2 56 1 v1) = 0 then ((m_isRunning v1 q1.2).bind fun q3 => (if q3.1 = 0 then (if zz_b q3.2 44 1 v1 then (if (zz_h q3.2 44 1 v1) = 0 then (if zz_b q3.2 45 1 v1 then (if (zz_h q3.2 45 1 v1) < (zz_h q3.2 40 1 0) then ((m_duesOf v1 q3.2).bind fun q4 => (if q4.1 = 0 then (some (2, q4.2)) else (some (0, q4.2)))) else (some (0, q3.2))) else none) else (some (0, q3.2))) else none) else (some (1, q3.2)))) else (if zz_b q1.2 56 1 v1 then (some ((zz_h q1.2 56 1 v1), q1.2)) else none)) else none) else (if v2 = 1 then (if zz_b q1.2 44 1 v1 then (some ((zz_h q1.2 44 1 v1), q1.2)) else none) else (if v2 = 2 then (if zz_b q1.2 61 1 v1 then (some ((zz_h q1.2 61 1 v1), q1.2)) else none) else (if v2 = 3 then (if zz_b q1.2 58 1 v1 then (some ((zz_h q1.2 58 1 v1), q1.2)) else none) else (if v2 = 4 then ((m_duesOf v1 q1.2).bind fun q2 => (some (q2.1, q2.2))) else (if v2 = 5 then (if zz_b q1.2 59 1 v1 then (some ((zz_h q1.2 59 1 v1), q1.2)) else none) else (if v2 = 6 then (if zz_b q1.2 60 1 v1 then (if (zz_h q1.2 60 1 v1) ≤ (zz_h q1.2 40 1 0) then (some ((-1), q1.2)) else (if zz_b q1.2 60 1 v1 then (some ((zz_h q1.2 60 1 v1), q1.2)) else none)) else none) else (if v2 = 7 then (if zz_b q1.2 53 1 v1 then (some ((zz_h q1.2 53 1 v1), q1.2)) else none) else (some ((-2), q1.2))))))))))))
set_option maxRecDepth 100000 in
set_option maxHeartbeats 4000000 in
theorem ze_m_of (v1 v2 : Int) (σ : zz_S) : m_of v1 v2 σ = zz_ev (zz_CE [(109, zw_m_isTask), (112, zw_m_isRunning), (114, zw_m_duesOf)]) (zz_KE []) zk_m_of 0 false 0 1 400 true (zz_sk zk_m_of 0) [(0, 42, 1), (1, 0, v1), (2, 0, v2)] [] σ := rfl
theorem zo_m_of : zz_okb zM_m_of 0 [(0, 42, true), (1, 0, false), (2, 0, false)] (zz_f2 m_of) :=
  fun vs σ r τ h => by
    obtain ⟨v1, v2, rfl, h⟩ := zz_f2_ok h
    exact zz_from zc_m_of (zz_occ zo_m_m_isTask (zz_occ zo_m_m_isRunning (zz_occ zo_m_m_duesOf zz_oc0))) zz_ol0 ((ze_m_of v1 v2 σ).symm.trans h)
noncomputable def zw_m_of : List Int → zz_S → zz_R := zz_f3 fun a0 a1 a2 σ => if a0 = 1 then m_of a1 a2 σ else none
theorem zo_m_m_of : zz_okm zz_inf 158 zw_m_of := fun vs σ r τ h => by
  obtain ⟨a0, a1, a2, rfl, h⟩ := zz_f3_ok h
  obtain ⟨e, h⟩ := zz_it h
  subst e
  exact zz_meth zi_m_of zy_m_of (zo_m_of [a1, a2] σ r τ h)
def zk_m_next : List zz_E := [(0, false, .aload_n 0, 1, 0, (0, 0, 0, 0), 0, []),
  (1, false, .iload_n 1, 1, 0, (0, 0, 0, 0), 0, []),
  (2, false, .invokevirtual 262, 3, 1017, (109, 2, 0, 0), 0, [0, 42]),
  (5, false, .ifCond .eq 13, 3, 0, (18, 0, 0, 0), 0, []),
  (8, false, .iload_n 2, 1, 0, (0, 0, 0, 0), 0, []),
  (9, false, .iconst 0, 1, 0, (0, 0, 0, 0), 0, []),
  (10, false, .bipush 9, 2, 0, (0, 0, 0, 0), 0, []),
  (12, false, .invokestatic 174, 3, 1021, (108, 3, 0, 0), 0, [0, 0, 0]),
  (15, false, .ifCond .ne 6, 3, 0, (21, 0, 0, 0), 0, []),
  (18, false, .bipush (-2), 2, 0, (0, 0, 0, 0), 0, []),
  (20, false, .ireturn, 1, 0, (0, 0, 0, 0), 0, []),
  (21, false, .aload_n 0, 1, 0, (0, 0, 0, 0), 0, []),
  (22, false, .getfield 26, 3, 804, (40, 10, 46, 1), 0, []),
  (25, false, .iload_n 1, 1, 0, (0, 0, 0, 0), 0, []),
  (26, false, .iaload, 1, 0, (44, 0, 0, 0), 0, []),
  (27, false, .iconst 2, 1, 0, (0, 0, 0, 0), 0, []),
  (28, false, .if_icmp .ne 21, 3, 0, (49, 0, 0, 0), 0, []),
  (31, false, .iload_n 2, 1, 0, (0, 0, 0, 0), 0, []),
  (32, false, .ifCond .ne 15, 3, 0, (47, 0, 0, 0), 0, []),
  (35, false, .aload_n 0, 1, 0, (0, 0, 0, 0), 0, []),
  (36, false, .iload_n 1, 1, 0, (0, 0, 0, 0), 0, []),
  (37, false, .aload_n 0, 1, 0, (0, 0, 0, 0), 0, []),
  (38, false, .getfield 250, 3, 794, (40, 0, 0, 0), 0, []),
  (41, false, .invokevirtual 329, 3, 1191, (121, 3, 0, 0), 0, [0, 0, 42]),
  (44, false, .goto 4, 3, 0, (48, 0, 0, 0), 0, []),
  (47, false, .iconst (-1), 1, 0, (0, 0, 0, 0), 0, []),
  (48, false, .ireturn, 1, 0, (0, 0, 0, 0), 0, []),
  (49, false, .aload_n 0, 1, 0, (0, 0, 0, 0), 0, []),
  (50, false, .getfield 250, 3, 794, (40, 0, 0, 0), 0, []),
  (53, false, .iconst 1, 1, 0, (0, 0, 0, 0), 0, []),
  (54, false, .isub, 1, 0, (0, 0, 0, 0), 0, []),
  (55, false, .istore_n 3, 1, 0, (0, 0, 0, 0), 0, []),
  (56, false, .iconst 0, 1, 0, (0, 0, 0, 0), 0, []),
  (57, false, .istore 4, 2, 0, (0, 0, 0, 0), 0, []),
  (59, true, .iload 4, 2, 0, (0, 0, 0, 0), 0, []),
  (61, false, .iload_n 2, 1, 0, (0, 0, 0, 0), 0, []),
  (62, false, .if_icmp .gt 25, 3, 0, (87, 0, 0, 0), 0, []),
  (65, false, .aload_n 0, 1, 0, (0, 0, 0, 0), 0, []),
  (66, false, .iload_n 1, 1, 0, (0, 0, 0, 0), 0, []),
  (67, false, .iload_n 3, 1, 0, (0, 0, 0, 0), 0, []),
  (68, false, .iconst 1, 1, 0, (0, 0, 0, 0), 0, []),
  (69, false, .iadd, 1, 0, (0, 0, 0, 0), 0, []),
  (70, false, .invokevirtual 329, 3, 1191, (121, 3, 0, 0), 0, [0, 0, 42]),
  (73, false, .istore_n 3, 1, 0, (0, 0, 0, 0), 0, []),
  (74, false, .iload_n 3, 1, 0, (0, 0, 0, 0), 0, []),
  (75, false, .iconst (-1), 1, 0, (0, 0, 0, 0), 0, []),
  (76, false, .if_icmp .ne 5, 3, 0, (81, 0, 0, 0), 0, []),
  (79, false, .iconst (-1), 1, 0, (0, 0, 0, 0), 0, []),
  (80, false, .ireturn, 1, 0, (0, 0, 0, 0), 0, []),
  (81, false, .iinc 4 1, 3, 0, (0, 0, 0, 0), 0, []),
  (84, false, .goto (-25), 3, 0, (59, 0, 0, 0), 0, []),
  (87, false, .iload_n 3, 1, 0, (0, 0, 0, 0), 0, []),
  (88, false, .ireturn, 1, 0, (0, 0, 0, 0), 0, [])]
theorem zc_m_next : zk_m_next.all (zz_ck zz_inf zM_m_next) = true ∧ zz_ch zk_m_next = true := ⟨by decide +kernel, by decide +kernel⟩
noncomputable def m_next_59 : Nat → Int → Int → Int → Int → zz_S → zz_R
  | 0, _, _, _, _, _ => none
  | n + 1, v1, v2, v3, v4, σ => (if v4 ≤ v2 then ((m_dueFrom v1 (zz_r (v3 + 1)) σ).bind fun q1 => (if q1.1 = (-1) then (some ((-1), q1.2)) else (m_next_59 n v1 v2 q1.1 (zz_r (v4 + 1)) q1.2))) else (some (v3, σ)))
set_option maxRecDepth 100000 in
set_option maxHeartbeats 4000000 in
theorem ze_m_next_59 (n : Nat) (v1 v2 v3 v4 : Int) (σ : zz_S) : m_next_59 (n + 1) v1 v2 v3 v4 σ = zz_ev (zz_CE [(121, zw_m_dueFrom)]) (zz_KE [(59, [(0, 42, true), (1, 0, false), (2, 0, false), (3, 0, false), (4, 0, false)], zz_f4 (m_next_59 n))]) zk_m_next 0 false 0 1 400 true (zz_sk zk_m_next 59) [(0, 42, 1), (1, 0, v1), (2, 0, v2), (3, 0, v3), (4, 0, v4)] [] σ := rfl
theorem zo_m_next_59 : ∀ n : Nat, zz_okb zM_m_next 59 [(0, 42, true), (1, 0, false), (2, 0, false), (3, 0, false), (4, 0, false)] (zz_f4 (m_next_59 n))
  | 0 => fun vs σ r τ h => by
    obtain ⟨v1, v2, v3, v4, rfl, h⟩ := zz_f4_ok h
    exact nomatch (show (none : zz_R) = some (r, τ) from h)
  | n + 1 => by
    have ih := zo_m_next_59 n
    exact fun vs σ r τ h => by
        obtain ⟨v1, v2, v3, v4, rfl, h⟩ := zz_f4_ok h
        exact zz_from zc_m_next (zz_occ zo_m_m_dueFrom zz_oc0) (zz_olc ih zz_ol0) ((ze_m_next_59 n v1 v2 v3 v4 σ).symm.trans h)
noncomputable def m_next (v1 v2 : Int) (σ : zz_S) : zz_R := ((m_isTask v1 σ).bind fun q1 => (if q1.1 = 0 then (some ((-2), q1.2)) else ((m_in v2 0 9 q1.2).bind fun q2 => (if q2.1 = 0 then (some ((-2), q2.2)) else (if zz_b q2.2 44 1 v1 then (if (zz_h q2.2 44 1 v1) = 2 then (if v2 = 0 then ((m_dueFrom v1 (zz_h q2.2 40 1 0) q2.2).bind fun q3 => (some (q3.1, q3.2))) else (some ((-1), q2.2))) else (m_next_59 zz_fu v1 v2 (zz_r ((zz_h q2.2 40 1 0) - 1)) 0 q2.2)) else none)))))
set_option maxRecDepth 100000 in
set_option maxHeartbeats 4000000 in
theorem ze_m_next (v1 v2 : Int) (σ : zz_S) : m_next v1 v2 σ = zz_ev (zz_CE [(108, zw_m_in), (109, zw_m_isTask), (121, zw_m_dueFrom)]) (zz_KE [(59, [(0, 42, true), (1, 0, false), (2, 0, false), (3, 0, false), (4, 0, false)], zz_f4 (m_next_59 zz_fu))]) zk_m_next 0 false 0 1 400 true (zz_sk zk_m_next 0) [(0, 42, 1), (1, 0, v1), (2, 0, v2)] [] σ := rfl
theorem zo_m_next : zz_okb zM_m_next 0 [(0, 42, true), (1, 0, false), (2, 0, false)] (zz_f2 m_next) :=
  fun vs σ r τ h => by
    obtain ⟨v1, v2, rfl, h⟩ := zz_f2_ok h
    exact zz_from zc_m_next (zz_occ zo_m_m_in (zz_occ zo_m_m_isTask (zz_occ zo_m_m_dueFrom zz_oc0))) (zz_olc (zo_m_next_59 zz_fu) zz_ol0) ((ze_m_next v1 v2 σ).symm.trans h)
noncomputable def zw_m_next : List Int → zz_S → zz_R := zz_f3 fun a0 a1 a2 σ => if a0 = 1 then m_next a1 a2 σ else none
theorem zo_m_m_next : zz_okm zz_inf 159 zw_m_next := fun vs σ r τ h => by
  obtain ⟨a0, a1, a2, rfl, h⟩ := zz_f3_ok h
  obtain ⟨e, h⟩ := zz_it h
  subst e
  exact zz_meth zi_m_next zy_m_next (zo_m_next [a1, a2] σ r τ h)
def zk_m_waiting : List zz_E := [(0, false, .iload_n 2, 1, 0, (0, 0, 0, 0), 0, []),
  (1, false, .iconst 0, 1, 0, (0, 0, 0, 0), 0, []),
  (2, false, .iconst 2, 1, 0, (0, 0, 0, 0), 0, []),
  (3, false, .invokestatic 174, 3, 1021, (108, 3, 0, 0), 0, [0, 0, 0]),
  (6, false, .ifCond .ne 6, 3, 0, (12, 0, 0, 0), 0, []),
  (9, false, .bipush (-2), 2, 0, (0, 0, 0, 0), 0, []),
  (11, false, .ireturn, 1, 0, (0, 0, 0, 0), 0, []),
  (12, false, .iload_n 1, 1, 0, (0, 0, 0, 0), 0, []),
  (13, false, .iconst 0, 1, 0, (0, 0, 0, 0), 0, []),
  (14, false, .aload_n 0, 1, 0, (0, 0, 0, 0), 0, []),
  (15, false, .getfield 178, 3, 847, (40, 53, 0, 0), 0, []),
  (18, false, .iconst 1, 1, 0, (0, 0, 0, 0), 0, []),
  (19, false, .isub, 1, 0, (0, 0, 0, 0), 0, []),
  (20, false, .invokestatic 174, 3, 1021, (108, 3, 0, 0), 0, [0, 0, 0]),
  (23, false, .ifCond .ne 5, 3, 0, (28, 0, 0, 0), 0, []),
  (26, false, .iconst (-1), 1, 0, (0, 0, 0, 0), 0, []),
  (27, false, .ireturn, 1, 0, (0, 0, 0, 0), 0, []),
  (28, false, .iload_n 2, 1, 0, (0, 0, 0, 0), 0, []),
  (29, false, .ifCond .ne 12, 3, 0, (41, 0, 0, 0), 0, []),
  (32, false, .aload_n 0, 1, 0, (0, 0, 0, 0), 0, []),
  (33, false, .getfield 150, 3, 848, (40, 54, 87, 1), 0, []),
  (36, false, .iload_n 1, 1, 0, (0, 0, 0, 0), 0, []),
  (37, false, .iaload, 1, 0, (85, 0, 0, 0), 0, []),
  (38, false, .goto 31, 3, 0, (69, 0, 0, 0), 0, []),
  (41, false, .iload_n 2, 1, 0, (0, 0, 0, 0), 0, []),
  (42, false, .iconst 1, 1, 0, (0, 0, 0, 0), 0, []),
  (43, false, .if_icmp .ne 12, 3, 0, (55, 0, 0, 0), 0, []),
  (46, false, .aload_n 0, 1, 0, (0, 0, 0, 0), 0, []),
  (47, false, .getfield 153, 3, 849, (40, 55, 88, 1), 0, []),
  (50, false, .iload_n 1, 1, 0, (0, 0, 0, 0), 0, []),
  (51, false, .iaload, 1, 0, (86, 0, 0, 0), 0, []),
  (52, false, .goto 17, 3, 0, (69, 0, 0, 0), 0, []),
  (55, false, .aload_n 0, 1, 0, (0, 0, 0, 0), 0, []),
  (56, false, .getfield 156, 3, 850, (40, 56, 89, 1), 0, []),
  (59, false, .iload_n 1, 1, 0, (0, 0, 0, 0), 0, []),
  (60, false, .baload, 1, 0, (87, 0, 0, 0), 0, []),
  (61, false, .ifCond .eq 7, 3, 0, (68, 0, 0, 0), 0, []),
  (64, false, .iconst 1, 1, 0, (0, 0, 0, 0), 0, []),
  (65, false, .goto 4, 3, 0, (69, 0, 0, 0), 0, []),
  (68, false, .iconst 0, 1, 0, (0, 0, 0, 0), 0, []),
  (69, false, .ireturn, 1, 0, (0, 0, 0, 0), 0, [])]
theorem zc_m_waiting : zk_m_waiting.all (zz_ck zz_inf zM_m_waiting) = true ∧ zz_ch zk_m_waiting = true := ⟨by decide +kernel, by decide +kernel⟩
noncomputable def m_waiting (v1 v2 : Int) (σ : zz_S) : zz_R := ((m_in v2 0 2 σ).bind fun q1 => (if q1.1 = 0 then (some ((-2), q1.2)) else ((m_in v1 0 (zz_r ((zz_h q1.2 40 1 53) - 1)) q1.2).bind fun q2 => (if q2.1 = 0 then (some ((-1), q2.2)) else (if v2 = 0 then (if zz_b q2.2 85 1 v1 then (some ((zz_h q2.2 85 1 v1), q2.2)) else none) else (if v2 = 1 then (if zz_b q2.2 86 1 v1 then (some ((zz_h q2.2 86 1 v1), q2.2)) else none) else (if zz_b q2.2 87 1 v1 then (if (zz_h q2.2 87 1 v1) = 0 then (some (0, q2.2)) else (some (1, q2.2))) else none)))))))
set_option maxRecDepth 100000 in
set_option maxHeartbeats 4000000 in
theorem ze_m_waiting (v1 v2 : Int) (σ : zz_S) : m_waiting v1 v2 σ = zz_ev (zz_CE [(108, zw_m_in)]) (zz_KE []) zk_m_waiting 0 false 0 1 400 true (zz_sk zk_m_waiting 0) [(0, 42, 1), (1, 0, v1), (2, 0, v2)] [] σ := rfl
theorem zo_m_waiting : zz_okb zM_m_waiting 0 [(0, 42, true), (1, 0, false), (2, 0, false)] (zz_f2 m_waiting) :=
  fun vs σ r τ h => by
    obtain ⟨v1, v2, rfl, h⟩ := zz_f2_ok h
    exact zz_from zc_m_waiting (zz_occ zo_m_m_in zz_oc0) zz_ol0 ((ze_m_waiting v1 v2 σ).symm.trans h)
noncomputable def zw_m_waiting : List Int → zz_S → zz_R := zz_f3 fun a0 a1 a2 σ => if a0 = 1 then m_waiting a1 a2 σ else none
theorem zo_m_m_waiting : zz_okm zz_inf 160 zw_m_waiting := fun vs σ r τ h => by
  obtain ⟨a0, a1, a2, rfl, h⟩ := zz_f3_ok h
  obtain ⟨e, h⟩ := zz_it h
  subst e
  exact zz_meth zi_m_waiting zy_m_waiting (zo_m_waiting [a1, a2] σ r τ h)
def zk_m_book : List zz_E := [(0, false, .iload_n 2, 1, 0, (0, 0, 0, 0), 0, []),
  (1, false, .iconst 0, 1, 0, (0, 0, 0, 0), 0, []),
  (2, false, .iconst 2, 1, 0, (0, 0, 0, 0), 0, []),
  (3, false, .invokestatic 174, 3, 1021, (108, 3, 0, 0), 0, [0, 0, 0]),
  (6, false, .ifCond .ne 6, 3, 0, (12, 0, 0, 0), 0, []),
  (9, false, .bipush (-2), 2, 0, (0, 0, 0, 0), 0, []),
  (11, false, .ireturn, 1, 0, (0, 0, 0, 0), 0, []),
  (12, false, .iload_n 1, 1, 0, (0, 0, 0, 0), 0, []),
  (13, false, .iconst 0, 1, 0, (0, 0, 0, 0), 0, []),
  (14, false, .aload_n 0, 1, 0, (0, 0, 0, 0), 0, []),
  (15, false, .getfield 220, 3, 851, (40, 57, 0, 0), 0, []),
  (18, false, .iconst 1, 1, 0, (0, 0, 0, 0), 0, []),
  (19, false, .isub, 1, 0, (0, 0, 0, 0), 0, []),
  (20, false, .invokestatic 174, 3, 1021, (108, 3, 0, 0), 0, [0, 0, 0]),
  (23, false, .ifCond .eq 10, 3, 0, (33, 0, 0, 0), 0, []),
  (26, false, .iload_n 1, 1, 0, (0, 0, 0, 0), 0, []),
  (27, false, .sipush 300, 3, 0, (0, 0, 0, 0), 0, []),
  (30, false, .if_icmp .lt 5, 3, 0, (35, 0, 0, 0), 0, []),
  (33, false, .iconst (-1), 1, 0, (0, 0, 0, 0), 0, []),
  (34, false, .ireturn, 1, 0, (0, 0, 0, 0), 0, []),
  (35, false, .iload_n 2, 1, 0, (0, 0, 0, 0), 0, []),
  (36, false, .ifCond .ne 12, 3, 0, (48, 0, 0, 0), 0, []),
  (39, false, .aload_n 0, 1, 0, (0, 0, 0, 0), 0, []),
  (40, false, .getfield 159, 3, 852, (40, 58, 90, 1), 0, []),
  (43, false, .iload_n 1, 1, 0, (0, 0, 0, 0), 0, []),
  (44, false, .iaload, 1, 0, (88, 0, 0, 0), 0, []),
  (45, false, .goto 23, 3, 0, (68, 0, 0, 0), 0, []),
  (48, false, .iload_n 2, 1, 0, (0, 0, 0, 0), 0, []),
  (49, false, .iconst 1, 1, 0, (0, 0, 0, 0), 0, []),
  (50, false, .if_icmp .ne 12, 3, 0, (62, 0, 0, 0), 0, []),
  (53, false, .aload_n 0, 1, 0, (0, 0, 0, 0), 0, []),
  (54, false, .getfield 162, 3, 853, (40, 59, 91, 1), 0, []),
  (57, false, .iload_n 1, 1, 0, (0, 0, 0, 0), 0, []),
  (58, false, .iaload, 1, 0, (89, 0, 0, 0), 0, []),
  (59, false, .goto 9, 3, 0, (68, 0, 0, 0), 0, []),
  (62, false, .aload_n 0, 1, 0, (0, 0, 0, 0), 0, []),
  (63, false, .getfield 165, 3, 854, (40, 60, 92, 1), 0, []),
  (66, false, .iload_n 1, 1, 0, (0, 0, 0, 0), 0, []),
  (67, false, .iaload, 1, 0, (90, 0, 0, 0), 0, []),
  (68, false, .ireturn, 1, 0, (0, 0, 0, 0), 0, [])]
theorem zc_m_book : zk_m_book.all (zz_ck zz_inf zM_m_book) = true ∧ zz_ch zk_m_book = true := ⟨by decide +kernel, by decide +kernel⟩
noncomputable def m_book (v1 v2 : Int) (σ : zz_S) : zz_R := ((m_in v2 0 2 σ).bind fun q1 => (if q1.1 = 0 then (some ((-2), q1.2)) else ((m_in v1 0 (zz_r ((zz_h q1.2 40 1 57) - 1)) q1.2).bind fun q2 => (if q2.1 = 0 then (some ((-1), q2.2)) else (if v1 < 300 then (if v2 = 0 then (if zz_b q2.2 88 1 v1 then (some ((zz_h q2.2 88 1 v1), q2.2)) else none) else (if v2 = 1 then (if zz_b q2.2 89 1 v1 then (some ((zz_h q2.2 89 1 v1), q2.2)) else none) else (if zz_b q2.2 90 1 v1 then (some ((zz_h q2.2 90 1 v1), q2.2)) else none))) else (some ((-1), q2.2)))))))
set_option maxRecDepth 100000 in
set_option maxHeartbeats 4000000 in
theorem ze_m_book (v1 v2 : Int) (σ : zz_S) : m_book v1 v2 σ = zz_ev (zz_CE [(108, zw_m_in)]) (zz_KE []) zk_m_book 0 false 0 1 400 true (zz_sk zk_m_book 0) [(0, 42, 1), (1, 0, v1), (2, 0, v2)] [] σ := rfl
theorem zo_m_book : zz_okb zM_m_book 0 [(0, 42, true), (1, 0, false), (2, 0, false)] (zz_f2 m_book) :=
  fun vs σ r τ h => by
    obtain ⟨v1, v2, rfl, h⟩ := zz_f2_ok h
    exact zz_from zc_m_book (zz_occ zo_m_m_in zz_oc0) zz_ol0 ((ze_m_book v1 v2 σ).symm.trans h)
noncomputable def zw_m_book : List Int → zz_S → zz_R := zz_f3 fun a0 a1 a2 σ => if a0 = 1 then m_book a1 a2 σ else none
theorem zo_m_m_book : zz_okm zz_inf 161 zw_m_book := fun vs σ r τ h => by
  obtain ⟨a0, a1, a2, rfl, h⟩ := zz_f3_ok h
  obtain ⟨e, h⟩ := zz_it h
  subst e
  exact zz_meth zi_m_book zy_m_book (zo_m_book [a1, a2] σ r τ h)
def zk_m_count : List zz_E := [(0, false, .iload_n 1, 1, 0, (0, 0, 0, 0), 0, []),
  (1, false, .tableswitch 122 0 10 #[59, 64, 69, 74, 79, 84, 89, 94, 99, 104, 109], 59, 0, (123, 0, 0, 0), 0, [60, 65, 70, 75, 80, 85, 90, 95, 100, 105, 110]),
  (60, false, .aload_n 0, 1, 0, (0, 0, 0, 0), 0, []),
  (61, false, .getfield 171, 3, 803, (40, 9, 0, 0), 0, []),
  (64, false, .ireturn, 1, 0, (0, 0, 0, 0), 0, []),
  (65, false, .aload_n 0, 1, 0, (0, 0, 0, 0), 0, []),
  (66, false, .getfield 247, 3, 836, (40, 42, 0, 0), 0, []),
  (69, false, .ireturn, 1, 0, (0, 0, 0, 0), 0, []),
  (70, false, .aload_n 0, 1, 0, (0, 0, 0, 0), 0, []),
  (71, false, .getfield 178, 3, 847, (40, 53, 0, 0), 0, []),
  (74, false, .ireturn, 1, 0, (0, 0, 0, 0), 0, []),
  (75, false, .aload_n 0, 1, 0, (0, 0, 0, 0), 0, []),
  (76, false, .invokevirtual 302, 3, 1099, (111, 1, 0, 0), 0, [42]),
  (79, false, .ireturn, 1, 0, (0, 0, 0, 0), 0, []),
  (80, false, .aload_n 0, 1, 0, (0, 0, 0, 0), 0, []),
  (81, false, .getfield 250, 3, 794, (40, 0, 0, 0), 0, []),
  (84, false, .ireturn, 1, 0, (0, 0, 0, 0), 0, []),
  (85, false, .aload_n 0, 1, 0, (0, 0, 0, 0), 0, []),
  (86, false, .getfield 214, 3, 795, (40, 1, 0, 0), 0, []),
  (89, false, .ireturn, 1, 0, (0, 0, 0, 0), 0, []),
  (90, false, .aload_n 0, 1, 0, (0, 0, 0, 0), 0, []),
  (91, false, .getfield 220, 3, 851, (40, 57, 0, 0), 0, []),
  (94, false, .ireturn, 1, 0, (0, 0, 0, 0), 0, []),
  (95, false, .aload_n 0, 1, 0, (0, 0, 0, 0), 0, []),
  (96, false, .getfield 315, 3, 801, (40, 7, 0, 0), 0, []),
  (99, false, .ireturn, 1, 0, (0, 0, 0, 0), 0, []),
  (100, false, .aload_n 0, 1, 0, (0, 0, 0, 0), 0, []),
  (101, false, .getfield 13, 3, 798, (40, 4, 0, 0), 0, []),
  (104, false, .ireturn, 1, 0, (0, 0, 0, 0), 0, []),
  (105, false, .aload_n 0, 1, 0, (0, 0, 0, 0), 0, []),
  (106, false, .getfield 7, 3, 796, (40, 2, 0, 0), 0, []),
  (109, false, .ireturn, 1, 0, (0, 0, 0, 0), 0, []),
  (110, false, .aload_n 0, 1, 0, (0, 0, 0, 0), 0, []),
  (111, false, .getfield 223, 3, 797, (40, 3, 0, 0), 1, []),
  (114, false, .ifCond .eq 7, 3, 0, (121, 0, 0, 0), 0, []),
  (117, false, .iconst 1, 1, 0, (0, 0, 0, 0), 0, []),
  (118, false, .goto 4, 3, 0, (122, 0, 0, 0), 0, []),
  (121, false, .iconst 0, 1, 0, (0, 0, 0, 0), 0, []),
  (122, false, .ireturn, 1, 0, (0, 0, 0, 0), 0, []),
  (123, false, .bipush (-2), 2, 0, (0, 0, 0, 0), 0, []),
  (125, false, .ireturn, 1, 0, (0, 0, 0, 0), 0, [])]
theorem zc_m_count : zk_m_count.all (zz_ck zz_inf zM_m_count) = true ∧ zz_ch zk_m_count = true := ⟨by decide +kernel, by decide +kernel⟩
noncomputable def m_count (v1 : Int) (σ : zz_S) : zz_R := (if v1 = 0 then (some ((zz_h σ 40 1 9), σ)) else (if v1 = 1 then (some ((zz_h σ 40 1 42), σ)) else (if v1 = 2 then (some ((zz_h σ 40 1 53), σ)) else (if v1 = 3 then ((m_atWork σ).bind fun q1 => (some (q1.1, q1.2))) else (if v1 = 4 then (some ((zz_h σ 40 1 0), σ)) else (if v1 = 5 then (some ((zz_h σ 40 1 1), σ)) else (if v1 = 6 then (some ((zz_h σ 40 1 57), σ)) else (if v1 = 7 then (some ((zz_h σ 40 1 7), σ)) else (if v1 = 8 then (some ((zz_h σ 40 1 4), σ)) else (if v1 = 9 then (some ((zz_h σ 40 1 2), σ)) else (if v1 = 10 then (if (zz_h σ 40 1 3) = 0 then (some (0, σ)) else (some (1, σ))) else (some ((-2), σ)))))))))))))
set_option maxRecDepth 100000 in
set_option maxHeartbeats 4000000 in
theorem ze_m_count (v1 : Int) (σ : zz_S) : m_count v1 σ = zz_ev (zz_CE [(111, zw_m_atWork)]) (zz_KE []) zk_m_count 0 false 0 1 400 true (zz_sk zk_m_count 0) [(0, 42, 1), (1, 0, v1)] [] σ := rfl
theorem zo_m_count : zz_okb zM_m_count 0 [(0, 42, true), (1, 0, false)] (zz_f1 m_count) :=
  fun vs σ r τ h => by
    obtain ⟨v1, rfl, h⟩ := zz_f1_ok h
    exact zz_from zc_m_count (zz_occ zo_m_m_atWork zz_oc0) zz_ol0 ((ze_m_count v1 σ).symm.trans h)
noncomputable def zw_m_count : List Int → zz_S → zz_R := zz_f2 fun a0 a1 σ => if a0 = 1 then m_count a1 σ else none
theorem zo_m_m_count : zz_okm zz_inf 162 zw_m_count := fun vs σ r τ h => by
  obtain ⟨a0, a1, rfl, h⟩ := zz_f2_ok h
  obtain ⟨e, h⟩ := zz_it h
  subst e
  exact zz_meth zi_m_count zy_m_count (zo_m_count [a1] σ r τ h)
def zk_m_cell : List zz_E := [(0, false, .iload_n 1, 1, 0, (0, 0, 0, 0), 0, []),
  (1, false, .iconst 0, 1, 0, (0, 0, 0, 0), 0, []),
  (2, false, .bipush 7, 2, 0, (0, 0, 0, 0), 0, []),
  (4, false, .invokestatic 174, 3, 1021, (108, 3, 0, 0), 0, [0, 0, 0]),
  (7, false, .ifCond .eq 12, 3, 0, (19, 0, 0, 0), 0, []),
  (10, false, .aload_n 0, 1, 0, (0, 0, 0, 0), 0, []),
  (11, false, .getfield 117, 3, 835, (40, 41, 76, 1), 0, []),
  (14, false, .iload_n 1, 1, 0, (0, 0, 0, 0), 0, []),
  (15, false, .iaload, 1, 0, (74, 0, 0, 0), 0, []),
  (16, false, .goto 4, 3, 0, (20, 0, 0, 0), 0, []),
  (19, false, .iconst 0, 1, 0, (0, 0, 0, 0), 0, []),
  (20, false, .ireturn, 1, 0, (0, 0, 0, 0), 0, [])]
theorem zc_m_cell : zk_m_cell.all (zz_ck zz_inf zM_m_cell) = true ∧ zz_ch zk_m_cell = true := ⟨by decide +kernel, by decide +kernel⟩
noncomputable def m_cell (v1 : Int) (σ : zz_S) : zz_R := ((m_in v1 0 7 σ).bind fun q1 => (if q1.1 = 0 then (some (0, q1.2)) else (if zz_b q1.2 74 1 v1 then (some ((zz_h q1.2 74 1 v1), q1.2)) else none)))
set_option maxRecDepth 100000 in
set_option maxHeartbeats 4000000 in
theorem ze_m_cell (v1 : Int) (σ : zz_S) : m_cell v1 σ = zz_ev (zz_CE [(108, zw_m_in)]) (zz_KE []) zk_m_cell 0 false 0 1 400 true (zz_sk zk_m_cell 0) [(0, 42, 1), (1, 0, v1)] [] σ := rfl
theorem zo_m_cell : zz_okb zM_m_cell 0 [(0, 42, true), (1, 0, false)] (zz_f1 m_cell) :=
  fun vs σ r τ h => by
    obtain ⟨v1, rfl, h⟩ := zz_f1_ok h
    exact zz_from zc_m_cell (zz_occ zo_m_m_in zz_oc0) zz_ol0 ((ze_m_cell v1 σ).symm.trans h)
noncomputable def zw_m_cell : List Int → zz_S → zz_R := zz_f2 fun a0 a1 σ => if a0 = 1 then m_cell a1 σ else none
theorem zo_m_m_cell : zz_okm zz_inf 163 zw_m_cell := fun vs σ r τ h => by
  obtain ⟨a0, a1, rfl, h⟩ := zz_f2_ok h
  obtain ⟨e, h⟩ := zz_it h
  subst e
  exact zz_meth zi_m_cell zy_m_cell (zo_m_cell [a1] σ r τ h)
def zk_m_day : List zz_E := [(0, false, .iload_n 1, 1, 0, (0, 0, 0, 0), 0, []),
  (1, false, .iconst 0, 1, 0, (0, 0, 0, 0), 0, []),
  (2, false, .ldc_w 332, 3, 1223, (0, 0, 0, 0), 525599, []),
  (5, false, .invokestatic 174, 3, 1021, (108, 3, 0, 0), 0, [0, 0, 0]),
  (8, false, .ifCond .eq 12, 3, 0, (20, 0, 0, 0), 0, []),
  (11, false, .iload_n 2, 1, 0, (0, 0, 0, 0), 0, []),
  (12, false, .iconst 0, 1, 0, (0, 0, 0, 0), 0, []),
  (13, false, .iconst 4, 1, 0, (0, 0, 0, 0), 0, []),
  (14, false, .invokestatic 174, 3, 1021, (108, 3, 0, 0), 0, [0, 0, 0]),
  (17, false, .ifCond .ne 6, 3, 0, (23, 0, 0, 0), 0, []),
  (20, false, .bipush (-2), 2, 0, (0, 0, 0, 0), 0, []),
  (22, false, .ireturn, 1, 0, (0, 0, 0, 0), 0, []),
  (23, false, .aload_n 0, 1, 0, (0, 0, 0, 0), 0, []),
  (24, false, .iload_n 1, 1, 0, (0, 0, 0, 0), 0, []),
  (25, false, .sipush 1440, 3, 0, (0, 0, 0, 0), 0, []),
  (28, false, .idiv, 1, 0, (0, 0, 0, 0), 0, []),
  (29, false, .invokevirtual 201, 3, 1076, (116, 2, 999, 0), 0, [0, 42]),
  (32, false, .iload_n 2, 1, 0, (0, 0, 0, 0), 0, []),
  (33, false, .ifCond .ne 10, 3, 0, (43, 0, 0, 0), 0, []),
  (36, false, .aload_n 0, 1, 0, (0, 0, 0, 0), 0, []),
  (37, false, .getfield 181, 3, 856, (40, 62, 0, 0), 0, []),
  (40, false, .goto 47, 3, 0, (87, 0, 0, 0), 0, []),
  (43, false, .iload_n 2, 1, 0, (0, 0, 0, 0), 0, []),
  (44, false, .iconst 1, 1, 0, (0, 0, 0, 0), 0, []),
  (45, false, .if_icmp .ne 10, 3, 0, (55, 0, 0, 0), 0, []),
  (48, false, .aload_n 0, 1, 0, (0, 0, 0, 0), 0, []),
  (49, false, .getfield 188, 3, 857, (40, 63, 0, 0), 0, []),
  (52, false, .goto 35, 3, 0, (87, 0, 0, 0), 0, []),
  (55, false, .iload_n 2, 1, 0, (0, 0, 0, 0), 0, []),
  (56, false, .iconst 2, 1, 0, (0, 0, 0, 0), 0, []),
  (57, false, .if_icmp .ne 14, 3, 0, (71, 0, 0, 0), 0, []),
  (60, false, .iload_n 1, 1, 0, (0, 0, 0, 0), 0, []),
  (61, false, .sipush 1440, 3, 0, (0, 0, 0, 0), 0, []),
  (64, false, .irem, 1, 0, (0, 0, 0, 0), 0, []),
  (65, false, .bipush 60, 2, 0, (0, 0, 0, 0), 0, []),
  (67, false, .idiv, 1, 0, (0, 0, 0, 0), 0, []),
  (68, false, .goto 19, 3, 0, (87, 0, 0, 0), 0, []),
  (71, false, .iload_n 2, 1, 0, (0, 0, 0, 0), 0, []),
  (72, false, .iconst 3, 1, 0, (0, 0, 0, 0), 0, []),
  (73, false, .if_icmp .ne 10, 3, 0, (83, 0, 0, 0), 0, []),
  (76, false, .iload_n 1, 1, 0, (0, 0, 0, 0), 0, []),
  (77, false, .bipush 60, 2, 0, (0, 0, 0, 0), 0, []),
  (79, false, .irem, 1, 0, (0, 0, 0, 0), 0, []),
  (80, false, .goto 7, 3, 0, (87, 0, 0, 0), 0, []),
  (83, false, .aload_n 0, 1, 0, (0, 0, 0, 0), 0, []),
  (84, false, .getfield 194, 3, 858, (40, 64, 0, 0), 0, []),
  (87, false, .ireturn, 1, 0, (0, 0, 0, 0), 0, [])]
theorem zc_m_day : zk_m_day.all (zz_ck zz_inf zM_m_day) = true ∧ zz_ch zk_m_day = true := ⟨by decide +kernel, by decide +kernel⟩
noncomputable def m_day (v1 v2 : Int) (σ : zz_S) : zz_R := ((m_in v1 0 525599 σ).bind fun q1 => (if q1.1 = 0 then (some ((-2), q1.2)) else ((m_in v2 0 4 q1.2).bind fun q2 => (if q2.1 = 0 then (some ((-2), q2.2)) else ((m_look (zz_div v1 1440) q2.2).bind fun q3 => (if v2 = 0 then (some ((zz_h q3.2 40 1 62), q3.2)) else (if v2 = 1 then (some ((zz_h q3.2 40 1 63), q3.2)) else (if v2 = 2 then (some ((zz_div (zz_rem v1 1440) 60), q3.2)) else (if v2 = 3 then (some ((zz_rem v1 60), q3.2)) else (some ((zz_h q3.2 40 1 64), q3.2)))))))))))
set_option maxRecDepth 100000 in
set_option maxHeartbeats 4000000 in
theorem ze_m_day (v1 v2 : Int) (σ : zz_S) : m_day v1 v2 σ = zz_ev (zz_CE [(108, zw_m_in), (116, zw_m_look)]) (zz_KE []) zk_m_day 0 false 0 1 400 true (zz_sk zk_m_day 0) [(0, 42, 1), (1, 0, v1), (2, 0, v2)] [] σ := rfl
theorem zo_m_day : zz_okb zM_m_day 0 [(0, 42, true), (1, 0, false), (2, 0, false)] (zz_f2 m_day) :=
  fun vs σ r τ h => by
    obtain ⟨v1, v2, rfl, h⟩ := zz_f2_ok h
    exact zz_from zc_m_day (zz_occ zo_m_m_in (zz_occ zo_m_m_look zz_oc0)) zz_ol0 ((ze_m_day v1 v2 σ).symm.trans h)
noncomputable def zw_m_day : List Int → zz_S → zz_R := zz_f3 fun a0 a1 a2 σ => if a0 = 1 then m_day a1 a2 σ else none
theorem zo_m_m_day : zz_okm zz_inf 164 zw_m_day := fun vs σ r τ h => by
  obtain ⟨a0, a1, a2, rfl, h⟩ := zz_f3_ok h
  obtain ⟨e, h⟩ := zz_it h
  subst e
  exact zz_meth zi_m_day zy_m_day (zo_m_day [a1, a2] σ r τ h)
def zk_m_idle : List zz_E := [(0, false, .iload_n 1, 1, 0, (0, 0, 0, 0), 0, []),
  (1, false, .iconst 0, 1, 0, (0, 0, 0, 0), 0, []),
  (2, false, .aload_n 0, 1, 0, (0, 0, 0, 0), 0, []),
  (3, false, .getfield 13, 3, 798, (40, 4, 0, 0), 0, []),
  (6, false, .iconst 1, 1, 0, (0, 0, 0, 0), 0, []),
  (7, false, .isub, 1, 0, (0, 0, 0, 0), 0, []),
  (8, false, .invokestatic 174, 3, 1021, (108, 3, 0, 0), 0, [0, 0, 0]),
  (11, false, .ifCond .eq 12, 3, 0, (23, 0, 0, 0), 0, []),
  (14, false, .aload_n 0, 1, 0, (0, 0, 0, 0), 0, []),
  (15, false, .getfield 20, 3, 800, (40, 6, 44, 1), 0, []),
  (18, false, .iload_n 1, 1, 0, (0, 0, 0, 0), 0, []),
  (19, false, .iaload, 1, 0, (42, 0, 0, 0), 0, []),
  (20, false, .goto 5, 3, 0, (25, 0, 0, 0), 0, []),
  (23, false, .bipush (-2), 2, 0, (0, 0, 0, 0), 0, []),
  (25, false, .ireturn, 1, 0, (0, 0, 0, 0), 0, [])]
theorem zc_m_idle : zk_m_idle.all (zz_ck zz_inf zM_m_idle) = true ∧ zz_ch zk_m_idle = true := ⟨by decide +kernel, by decide +kernel⟩
noncomputable def m_idle (v1 : Int) (σ : zz_S) : zz_R := ((m_in v1 0 (zz_r ((zz_h σ 40 1 4) - 1)) σ).bind fun q1 => (if q1.1 = 0 then (some ((-2), q1.2)) else (if zz_b q1.2 42 1 v1 then (some ((zz_h q1.2 42 1 v1), q1.2)) else none)))
set_option maxRecDepth 100000 in
set_option maxHeartbeats 4000000 in
theorem ze_m_idle (v1 : Int) (σ : zz_S) : m_idle v1 σ = zz_ev (zz_CE [(108, zw_m_in)]) (zz_KE []) zk_m_idle 0 false 0 1 400 true (zz_sk zk_m_idle 0) [(0, 42, 1), (1, 0, v1)] [] σ := rfl
theorem zo_m_idle : zz_okb zM_m_idle 0 [(0, 42, true), (1, 0, false)] (zz_f1 m_idle) :=
  fun vs σ r τ h => by
    obtain ⟨v1, rfl, h⟩ := zz_f1_ok h
    exact zz_from zc_m_idle (zz_occ zo_m_m_in zz_oc0) zz_ol0 ((ze_m_idle v1 σ).symm.trans h)
noncomputable def zw_m_idle : List Int → zz_S → zz_R := zz_f2 fun a0 a1 σ => if a0 = 1 then m_idle a1 σ else none
theorem zo_m_m_idle : zz_okm zz_inf 165 zw_m_idle := fun vs σ r τ h => by
  obtain ⟨a0, a1, rfl, h⟩ := zz_f2_ok h
  obtain ⟨e, h⟩ := zz_it h
  subst e
  exact zz_meth zi_m_idle zy_m_idle (zo_m_idle [a1] σ r τ h)
def zk_m_load : List zz_E := [(0, false, .iload_n 1, 1, 0, (0, 0, 0, 0), 0, []),
  (1, false, .iconst 0, 1, 0, (0, 0, 0, 0), 0, []),
  (2, false, .aload_n 0, 1, 0, (0, 0, 0, 0), 0, []),
  (3, false, .getfield 315, 3, 801, (40, 7, 0, 0), 0, []),
  (6, false, .iconst 1, 1, 0, (0, 0, 0, 0), 0, []),
  (7, false, .isub, 1, 0, (0, 0, 0, 0), 0, []),
  (8, false, .invokestatic 174, 3, 1021, (108, 3, 0, 0), 0, [0, 0, 0]),
  (11, false, .ifCond .eq 11, 3, 0, (22, 0, 0, 0), 0, []),
  (14, false, .aload_n 0, 1, 0, (0, 0, 0, 0), 0, []),
  (15, false, .iload_n 1, 1, 0, (0, 0, 0, 0), 0, []),
  (16, false, .invokevirtual 299, 3, 1107, (113, 2, 0, 0), 0, [0, 42]),
  (19, false, .goto 5, 3, 0, (24, 0, 0, 0), 0, []),
  (22, false, .bipush (-2), 2, 0, (0, 0, 0, 0), 0, []),
  (24, false, .ireturn, 1, 0, (0, 0, 0, 0), 0, [])]
theorem zc_m_load : zk_m_load.all (zz_ck zz_inf zM_m_load) = true ∧ zz_ch zk_m_load = true := ⟨by decide +kernel, by decide +kernel⟩
noncomputable def m_load (v1 : Int) (σ : zz_S) : zz_R := ((m_in v1 0 (zz_r ((zz_h σ 40 1 7) - 1)) σ).bind fun q1 => (if q1.1 = 0 then (some ((-2), q1.2)) else ((m_loadOf v1 q1.2).bind fun q2 => (some (q2.1, q2.2)))))
set_option maxRecDepth 100000 in
set_option maxHeartbeats 4000000 in
theorem ze_m_load (v1 : Int) (σ : zz_S) : m_load v1 σ = zz_ev (zz_CE [(108, zw_m_in), (113, zw_m_loadOf)]) (zz_KE []) zk_m_load 0 false 0 1 400 true (zz_sk zk_m_load 0) [(0, 42, 1), (1, 0, v1)] [] σ := rfl
theorem zo_m_load : zz_okb zM_m_load 0 [(0, 42, true), (1, 0, false)] (zz_f1 m_load) :=
  fun vs σ r τ h => by
    obtain ⟨v1, rfl, h⟩ := zz_f1_ok h
    exact zz_from zc_m_load (zz_occ zo_m_m_in (zz_occ zo_m_m_loadOf zz_oc0)) zz_ol0 ((ze_m_load v1 σ).symm.trans h)
noncomputable def zw_m_load : List Int → zz_S → zz_R := zz_f2 fun a0 a1 σ => if a0 = 1 then m_load a1 σ else none
theorem zo_m_m_load : zz_okm zz_inf 166 zw_m_load := fun vs σ r τ h => by
  obtain ⟨a0, a1, rfl, h⟩ := zz_f2_ok h
  obtain ⟨e, h⟩ := zz_it h
  subst e
  exact zz_meth zi_m_load zy_m_load (zo_m_load [a1] σ r τ h)
def zk_m_quiet : List zz_E := [(0, false, .aload_n 0, 1, 0, (0, 0, 0, 0), 0, []),
  (1, false, .invokevirtual 302, 3, 1099, (111, 1, 0, 0), 0, [42]),
  (4, false, .ifCond .gt 10, 3, 0, (14, 0, 0, 0), 0, []),
  (7, false, .aload_n 0, 1, 0, (0, 0, 0, 0), 0, []),
  (8, false, .getfield 178, 3, 847, (40, 53, 0, 0), 0, []),
  (11, false, .ifCond .le 5, 3, 0, (16, 0, 0, 0), 0, []),
  (14, false, .iconst 0, 1, 0, (0, 0, 0, 0), 0, []),
  (15, false, .ireturn, 1, 0, (0, 0, 0, 0), 0, []),
  (16, false, .iconst 0, 1, 0, (0, 0, 0, 0), 0, []),
  (17, false, .istore_n 1, 1, 0, (0, 0, 0, 0), 0, []),
  (18, true, .iload_n 1, 1, 0, (0, 0, 0, 0), 0, []),
  (19, false, .aload_n 0, 1, 0, (0, 0, 0, 0), 0, []),
  (20, false, .getfield 171, 3, 803, (40, 9, 0, 0), 0, []),
  (23, false, .if_icmp .ge 41, 3, 0, (64, 0, 0, 0), 0, []),
  (26, false, .aload_n 0, 1, 0, (0, 0, 0, 0), 0, []),
  (27, false, .iload_n 1, 1, 0, (0, 0, 0, 0), 0, []),
  (28, false, .invokevirtual 241, 3, 1024, (110, 2, 0, 0), 0, [0, 42]),
  (31, false, .ifCond .eq 27, 3, 0, (58, 0, 0, 0), 0, []),
  (34, false, .aload_n 0, 1, 0, (0, 0, 0, 0), 0, []),
  (35, false, .getfield 84, 3, 823, (40, 29, 65, 1), 0, []),
  (38, false, .iload_n 1, 1, 0, (0, 0, 0, 0), 0, []),
  (39, false, .baload, 1, 0, (63, 0, 0, 0), 0, []),
  (40, false, .ifCond .ne 16, 3, 0, (56, 0, 0, 0), 0, []),
  (43, false, .aload_n 0, 1, 0, (0, 0, 0, 0), 0, []),
  (44, false, .iload_n 1, 1, 0, (0, 0, 0, 0), 0, []),
  (45, false, .aload_n 0, 1, 0, (0, 0, 0, 0), 0, []),
  (46, false, .getfield 250, 3, 794, (40, 0, 0, 0), 0, []),
  (49, false, .invokevirtual 329, 3, 1191, (121, 3, 0, 0), 0, [0, 0, 42]),
  (52, false, .iconst (-1), 1, 0, (0, 0, 0, 0), 0, []),
  (53, false, .if_icmp .eq 5, 3, 0, (58, 0, 0, 0), 0, []),
  (56, false, .iconst 0, 1, 0, (0, 0, 0, 0), 0, []),
  (57, false, .ireturn, 1, 0, (0, 0, 0, 0), 0, []),
  (58, false, .iinc 1 1, 3, 0, (0, 0, 0, 0), 0, []),
  (61, false, .goto (-43), 3, 0, (18, 0, 0, 0), 0, []),
  (64, false, .iconst 1, 1, 0, (0, 0, 0, 0), 0, []),
  (65, false, .ireturn, 1, 0, (0, 0, 0, 0), 0, [])]
theorem zc_m_quiet : zk_m_quiet.all (zz_ck zz_inf zM_m_quiet) = true ∧ zz_ch zk_m_quiet = true := ⟨by decide +kernel, by decide +kernel⟩
noncomputable def m_quiet_18 : Nat → Int → zz_S → zz_R
  | 0, _, _ => none
  | n + 1, v1, σ => (if v1 < (zz_h σ 40 1 9) then ((m_isActive v1 σ).bind fun q1 => (if q1.1 = 0 then (m_quiet_18 n (zz_r (v1 + 1)) q1.2) else (if zz_b q1.2 63 1 v1 then (if (zz_h q1.2 63 1 v1) = 0 then ((m_dueFrom v1 (zz_h q1.2 40 1 0) q1.2).bind fun q2 => (if q2.1 = (-1) then (m_quiet_18 n (zz_r (v1 + 1)) q2.2) else (some (0, q2.2)))) else (some (0, q1.2))) else none))) else (some (1, σ)))
set_option maxRecDepth 100000 in
set_option maxHeartbeats 4000000 in
theorem ze_m_quiet_18 (n : Nat) (v1 : Int) (σ : zz_S) : m_quiet_18 (n + 1) v1 σ = zz_ev (zz_CE [(110, zw_m_isActive), (121, zw_m_dueFrom)]) (zz_KE [(18, [(0, 42, true), (1, 0, false)], zz_f1 (m_quiet_18 n))]) zk_m_quiet 0 false 0 1 400 true (zz_sk zk_m_quiet 18) [(0, 42, 1), (1, 0, v1)] [] σ := rfl
theorem zo_m_quiet_18 : ∀ n : Nat, zz_okb zM_m_quiet 18 [(0, 42, true), (1, 0, false)] (zz_f1 (m_quiet_18 n))
  | 0 => fun vs σ r τ h => by
    obtain ⟨v1, rfl, h⟩ := zz_f1_ok h
    exact nomatch (show (none : zz_R) = some (r, τ) from h)
  | n + 1 => by
    have ih := zo_m_quiet_18 n
    exact fun vs σ r τ h => by
        obtain ⟨v1, rfl, h⟩ := zz_f1_ok h
        exact zz_from zc_m_quiet (zz_occ zo_m_m_isActive (zz_occ zo_m_m_dueFrom zz_oc0)) (zz_olc ih zz_ol0) ((ze_m_quiet_18 n v1 σ).symm.trans h)
noncomputable def m_quiet (σ : zz_S) : zz_R := ((m_atWork σ).bind fun q1 => (if q1.1 ≤ 0 then (if (zz_h q1.2 40 1 53) ≤ 0 then (m_quiet_18 zz_fu 0 q1.2) else (some (0, q1.2))) else (some (0, q1.2))))
set_option maxRecDepth 100000 in
set_option maxHeartbeats 4000000 in
theorem ze_m_quiet (σ : zz_S) : m_quiet σ = zz_ev (zz_CE [(111, zw_m_atWork)]) (zz_KE [(18, [(0, 42, true), (1, 0, false)], zz_f1 (m_quiet_18 zz_fu))]) zk_m_quiet 0 false 0 1 400 true (zz_sk zk_m_quiet 0) [(0, 42, 1)] [] σ := rfl
theorem zo_m_quiet : zz_okb zM_m_quiet 0 [(0, 42, true)] (zz_f0 m_quiet) :=
  fun vs σ r τ h => by
    obtain ⟨rfl, h⟩ := zz_f0_ok h
    exact zz_from zc_m_quiet (zz_occ zo_m_m_atWork zz_oc0) (zz_olc (zo_m_quiet_18 zz_fu) zz_ol0) ((ze_m_quiet σ).symm.trans h)
noncomputable def zw_m_quiet : List Int → zz_S → zz_R := zz_f1 fun a0 σ => if a0 = 1 then m_quiet σ else none
theorem zo_m_m_quiet : zz_okm zz_inf 167 zw_m_quiet := fun vs σ r τ h => by
  obtain ⟨a0, rfl, h⟩ := zz_f1_ok h
  obtain ⟨e, h⟩ := zz_it h
  subst e
  exact zz_meth zi_m_quiet zy_m_quiet (zo_m_quiet [] σ r τ h)
