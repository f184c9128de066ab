def zk_m_begins : List zz_E := [(0, false, .aload_n 0, 1, 0, (0, 0, 0, 0), 0, []),
  (1, false, .getfield 247, 3, 836, (40, 42, 0, 0), 0, []),
  (4, false, .sipush 2000, 3, 0, (0, 0, 0, 0), 0, []),
  (7, false, .if_icmp .eq 14, 3, 0, (21, 0, 0, 0), 0, []),
  (10, false, .aload_n 0, 1, 0, (0, 0, 0, 0), 0, []),
  (11, false, .invokevirtual 302, 3, 1099, (111, 1, 0, 0), 0, [42]),
  (14, false, .aload_n 0, 1, 0, (0, 0, 0, 0), 0, []),
  (15, false, .getfield 13, 3, 798, (40, 4, 0, 0), 0, []),
  (18, false, .if_icmp .ne 5, 3, 0, (23, 0, 0, 0), 0, []),
  (21, false, .iconst 0, 1, 0, (0, 0, 0, 0), 0, []),
  (22, false, .ireturn, 1, 0, (0, 0, 0, 0), 0, []),
  (23, false, .iconst (-1), 1, 0, (0, 0, 0, 0), 0, []),
  (24, false, .istore_n 2, 1, 0, (0, 0, 0, 0), 0, []),
  (25, false, .iconst 0, 1, 0, (0, 0, 0, 0), 0, []),
  (26, false, .istore_n 3, 1, 0, (0, 0, 0, 0), 0, []),
  (27, true, .iload_n 3, 1, 0, (0, 0, 0, 0), 0, []),
  (28, false, .aload_n 0, 1, 0, (0, 0, 0, 0), 0, []),
  (29, false, .getfield 178, 3, 847, (40, 53, 0, 0), 0, []),
  (32, false, .if_icmp .ge 41, 3, 0, (73, 0, 0, 0), 0, []),
  (35, false, .aload_n 0, 1, 0, (0, 0, 0, 0), 0, []),
  (36, false, .aload_n 0, 1, 0, (0, 0, 0, 0), 0, []),
  (37, false, .getfield 150, 3, 848, (40, 54, 87, 1), 0, []),
  (40, false, .iload_n 3, 1, 0, (0, 0, 0, 0), 0, []),
  (41, false, .iaload, 1, 0, (85, 0, 0, 0), 0, []),
  (42, false, .invokevirtual 306, 3, 1103, (138, 2, 0, 0), 0, [0, 42]),
  (45, false, .ifCond .ne 6, 3, 0, (51, 0, 0, 0), 0, []),
  (48, false, .goto 19, 3, 0, (67, 0, 0, 0), 0, []),
  (51, false, .iload_n 2, 1, 0, (0, 0, 0, 0), 0, []),
  (52, false, .iconst (-1), 1, 0, (0, 0, 0, 0), 0, []),
  (53, false, .if_icmp .eq 12, 3, 0, (65, 0, 0, 0), 0, []),
  (56, false, .aload_n 0, 1, 0, (0, 0, 0, 0), 0, []),
  (57, false, .iload_n 3, 1, 0, (0, 0, 0, 0), 0, []),
  (58, false, .iload_n 2, 1, 0, (0, 0, 0, 0), 0, []),
  (59, false, .invokevirtual 309, 3, 1111, (140, 3, 0, 0), 0, [0, 0, 42]),
  (62, false, .ifCond .eq 5, 3, 0, (67, 0, 0, 0), 0, []),
  (65, false, .iload_n 3, 1, 0, (0, 0, 0, 0), 0, []),
  (66, false, .istore_n 2, 1, 0, (0, 0, 0, 0), 0, []),
  (67, false, .iinc 3 1, 3, 0, (0, 0, 0, 0), 0, []),
  (70, false, .goto (-43), 3, 0, (27, 0, 0, 0), 0, []),
  (73, false, .iload_n 2, 1, 0, (0, 0, 0, 0), 0, []),
  (74, false, .iconst (-1), 1, 0, (0, 0, 0, 0), 0, []),
  (75, false, .if_icmp .ne 5, 3, 0, (80, 0, 0, 0), 0, []),
  (78, false, .iconst 0, 1, 0, (0, 0, 0, 0), 0, []),
  (79, false, .ireturn, 1, 0, (0, 0, 0, 0), 0, []),
  (80, false, .aload_n 0, 1, 0, (0, 0, 0, 0), 0, []),
  (81, false, .getfield 150, 3, 848, (40, 54, 87, 1), 0, []),
  (84, false, .iload_n 2, 1, 0, (0, 0, 0, 0), 0, []),
  (85, false, .iaload, 1, 0, (85, 0, 0, 0), 0, []),
  (86, false, .istore_n 3, 1, 0, (0, 0, 0, 0), 0, []),
  (87, false, .iconst 0, 1, 0, (0, 0, 0, 0), 0, []),
  (88, false, .istore 4, 2, 0, (0, 0, 0, 0), 0, []),
  (90, true, .aload_n 0, 1, 0, (0, 0, 0, 0), 0, []),
  (91, false, .getfield 16, 3, 799, (40, 5, 43, 1), 0, []),
  (94, false, .iload 4, 2, 0, (0, 0, 0, 0), 0, []),
  (96, false, .iaload, 1, 0, (41, 0, 0, 0), 0, []),
  (97, false, .iconst (-1), 1, 0, (0, 0, 0, 0), 0, []),
  (98, false, .if_icmp .eq 9, 3, 0, (107, 0, 0, 0), 0, []),
  (101, false, .iinc 4 1, 3, 0, (0, 0, 0, 0), 0, []),
  (104, false, .goto (-14), 3, 0, (90, 0, 0, 0), 0, []),
  (107, false, .aload_n 0, 1, 0, (0, 0, 0, 0), 0, []),
  (108, false, .dup, 1, 0, (0, 0, 0, 0), 0, []),
  (109, false, .getfield 247, 3, 836, (40, 42, 0, 0), 0, []),
  (112, false, .dup_x1, 1, 0, (0, 0, 0, 0), 0, []),
  (113, false, .iconst 1, 1, 0, (0, 0, 0, 0), 0, []),
  (114, false, .iadd, 1, 0, (0, 0, 0, 0), 0, []),
  (115, false, .putfield 247, 3, 836, (40, 42, 0, 0), 0, []),
  (118, false, .istore 5, 2, 0, (0, 0, 0, 0), 0, []),
  (120, false, .aload_n 0, 1, 0, (0, 0, 0, 0), 0, []),
  (121, false, .getfield 77, 3, 821, (40, 27, 63, 1), 0, []),
  (124, false, .iload_n 3, 1, 0, (0, 0, 0, 0), 0, []),
  (125, false, .dup2, 1, 0, (0, 0, 0, 0), 0, []),
  (126, false, .iaload, 1, 0, (61, 0, 0, 0), 0, []),
  (127, false, .iconst 1, 1, 0, (0, 0, 0, 0), 0, []),
  (128, false, .iadd, 1, 0, (0, 0, 0, 0), 0, []),
  (129, false, .iastore, 1, 0, (61, 0, 0, 0), 0, []),
  (130, false, .aload_n 0, 1, 0, (0, 0, 0, 0), 0, []),
  (131, false, .getfield 120, 3, 837, (40, 43, 77, 1), 0, []),
  (134, false, .iload 5, 2, 0, (0, 0, 0, 0), 0, []),
  (136, false, .iload_n 3, 1, 0, (0, 0, 0, 0), 0, []),
  (137, false, .iastore, 1, 0, (75, 0, 0, 0), 0, []),
  (138, false, .aload_n 0, 1, 0, (0, 0, 0, 0), 0, []),
  (139, false, .getfield 123, 3, 838, (40, 44, 78, 1), 0, []),
  (142, false, .iload 5, 2, 0, (0, 0, 0, 0), 0, []),
  (144, false, .aload_n 0, 1, 0, (0, 0, 0, 0), 0, []),
  (145, false, .getfield 153, 3, 849, (40, 55, 88, 1), 0, []),
  (148, false, .iload_n 2, 1, 0, (0, 0, 0, 0), 0, []),
  (149, false, .iaload, 1, 0, (86, 0, 0, 0), 0, []),
  (150, false, .iastore, 1, 0, (76, 0, 0, 0), 0, []),
  (151, false, .aload_n 0, 1, 0, (0, 0, 0, 0), 0, []),
  (152, false, .getfield 126, 3, 839, (40, 45, 79, 1), 0, []),
  (155, false, .iload 5, 2, 0, (0, 0, 0, 0), 0, []),
  (157, false, .iload_n 1, 1, 0, (0, 0, 0, 0), 0, []),
  (158, false, .iastore, 1, 0, (77, 0, 0, 0), 0, []),
  (159, false, .aload_n 0, 1, 0, (0, 0, 0, 0), 0, []),
  (160, false, .getfield 129, 3, 840, (40, 46, 80, 1), 0, []),
  (163, false, .iload 5, 2, 0, (0, 0, 0, 0), 0, []),
  (165, false, .iload_n 1, 1, 0, (0, 0, 0, 0), 0, []),
  (166, false, .aload_n 0, 1, 0, (0, 0, 0, 0), 0, []),
  (167, false, .getfield 35, 3, 807, (40, 13, 49, 1), 0, []),
  (170, false, .iload_n 3, 1, 0, (0, 0, 0, 0), 0, []),
  (171, false, .iaload, 1, 0, (47, 0, 0, 0), 0, []),
  (172, false, .iadd, 1, 0, (0, 0, 0, 0), 0, []),
  (173, false, .iastore, 1, 0, (78, 0, 0, 0), 0, []),
  (174, false, .aload_n 0, 1, 0, (0, 0, 0, 0), 0, []),
  (175, false, .getfield 132, 3, 841, (40, 47, 81, 1), 0, []),
  (178, false, .iload 5, 2, 0, (0, 0, 0, 0), 0, []),
  (180, false, .iconst (-1), 1, 0, (0, 0, 0, 0), 0, []),
  (181, false, .iastore, 1, 0, (79, 0, 0, 0), 0, []),
  (182, false, .aload_n 0, 1, 0, (0, 0, 0, 0), 0, []),
  (183, false, .getfield 135, 3, 842, (40, 48, 82, 1), 0, []),
  (186, false, .iload 5, 2, 0, (0, 0, 0, 0), 0, []),
  (188, false, .iconst 0, 1, 0, (0, 0, 0, 0), 0, []),
  (189, false, .iastore, 1, 0, (80, 0, 0, 0), 0, []),
  (190, false, .aload_n 0, 1, 0, (0, 0, 0, 0), 0, []),
  (191, false, .getfield 138, 3, 843, (40, 49, 83, 1), 0, []),
  (194, false, .iload 5, 2, 0, (0, 0, 0, 0), 0, []),
  (196, false, .iconst (-1), 1, 0, (0, 0, 0, 0), 0, []),
  (197, false, .iastore, 1, 0, (81, 0, 0, 0), 0, []),
  (198, false, .aload_n 0, 1, 0, (0, 0, 0, 0), 0, []),
  (199, false, .getfield 141, 3, 844, (40, 50, 84, 1), 0, []),
  (202, false, .iload 5, 2, 0, (0, 0, 0, 0), 0, []),
  (204, false, .iload 4, 2, 0, (0, 0, 0, 0), 0, []),
  (206, false, .iastore, 1, 0, (82, 0, 0, 0), 0, []),
  (207, false, .aload_n 0, 1, 0, (0, 0, 0, 0), 0, []),
  (208, false, .getfield 144, 3, 845, (40, 51, 85, 1), 0, []),
  (211, false, .iload 5, 2, 0, (0, 0, 0, 0), 0, []),
  (213, false, .aload_n 0, 1, 0, (0, 0, 0, 0), 0, []),
  (214, false, .getfield 41, 3, 809, (40, 15, 51, 1), 0, []),
  (217, false, .iload_n 3, 1, 0, (0, 0, 0, 0), 0, []),
  (218, false, .iaload, 1, 0, (49, 0, 0, 0), 0, []),
  (219, false, .iastore, 1, 0, (83, 0, 0, 0), 0, []),
  (220, false, .aload_n 0, 1, 0, (0, 0, 0, 0), 0, []),
  (221, false, .getfield 147, 3, 846, (40, 52, 86, 1), 0, []),
  (224, false, .iload 5, 2, 0, (0, 0, 0, 0), 0, []),
  (226, false, .aload_n 0, 1, 0, (0, 0, 0, 0), 0, []),
  (227, false, .getfield 77, 3, 821, (40, 27, 63, 1), 0, []),
  (230, false, .iload_n 3, 1, 0, (0, 0, 0, 0), 0, []),
  (231, false, .iaload, 1, 0, (61, 0, 0, 0), 0, []),
  (232, false, .iastore, 1, 0, (84, 0, 0, 0), 0, []),
  (233, false, .aload_n 0, 1, 0, (0, 0, 0, 0), 0, []),
  (234, false, .getfield 16, 3, 799, (40, 5, 43, 1), 0, []),
  (237, false, .iload 4, 2, 0, (0, 0, 0, 0), 0, []),
  (239, false, .iload 5, 2, 0, (0, 0, 0, 0), 0, []),
  (241, false, .iastore, 1, 0, (41, 0, 0, 0), 0, []),
  (242, false, .aload_n 0, 1, 0, (0, 0, 0, 0), 0, []),
  (243, false, .iload_n 2, 1, 0, (0, 0, 0, 0), 0, []),
  (244, false, .invokevirtual 238, 3, 1032, (126, 2, 999, 0), 0, [0, 42]),
  (247, false, .iconst 1, 1, 0, (0, 0, 0, 0), 0, []),
  (248, false, .ireturn, 1, 0, (0, 0, 0, 0), 0, [])]
theorem zc_m_begins : zk_m_begins.all (zz_ck zz_inf zM_m_begins) = true ∧ zz_ch zk_m_begins = true := ⟨by decide +kernel, by decide +kernel⟩
noncomputable def m_begins_90 : Nat → Int → Int → Int → Int → zz_S → zz_R
  | 0, _, _, _, _, _ => none
  | n + 1, v1, v2, v3, v4, σ => (if zz_b σ 41 1 v4 then (if (zz_h σ 41 1 v4) = (-1) then (let s1 := zz_w σ 40 1 42 (zz_r ((zz_h σ 40 1 42) + 1)); (if zz_b s1 61 1 v3 then (if zz_b s1 61 1 v3 then (let s2 := zz_w s1 61 1 v3 (zz_r ((zz_h s1 61 1 v3) + 1)); (if zz_b s2 75 1 (zz_h σ 40 1 42) then (let s3 := zz_w s2 75 1 (zz_h σ 40 1 42) v3; (if zz_b s3 86 1 v2 then (if zz_b s3 76 1 (zz_h σ 40 1 42) then (let s4 := zz_w s3 76 1 (zz_h σ 40 1 42) (zz_h s3 86 1 v2); (if zz_b s4 77 1 (zz_h σ 40 1 42) then (let s5 := zz_w s4 77 1 (zz_h σ 40 1 42) v1; (if zz_b s5 47 1 v3 then (if zz_b s5 78 1 (zz_h σ 40 1 42) then (let s6 := zz_w s5 78 1 (zz_h σ 40 1 42) (zz_r (v1 + (zz_h s5 47 1 v3))); (if zz_b s6 79 1 (zz_h σ 40 1 42) then (let s7 := zz_w s6 79 1 (zz_h σ 40 1 42) (-1); (if zz_b s7 80 1 (zz_h σ 40 1 42) then (let s8 := zz_w s7 80 1 (zz_h σ 40 1 42) 0; (if zz_b s8 81 1 (zz_h σ 40 1 42) then (let s9 := zz_w s8 81 1 (zz_h σ 40 1 42) (-1); (if zz_b s9 82 1 (zz_h σ 40 1 42) then (let s10 := zz_w s9 82 1 (zz_h σ 40 1 42) v4; (if zz_b s10 49 1 v3 then (if zz_b s10 83 1 (zz_h σ 40 1 42) then (let s11 := zz_w s10 83 1 (zz_h σ 40 1 42) (zz_h s10 49 1 v3); (if zz_b s11 61 1 v3 then (if zz_b s11 84 1 (zz_h σ 40 1 42) then (let s12 := zz_w s11 84 1 (zz_h σ 40 1 42) (zz_h s11 61 1 v3); (if zz_b s12 41 1 v4 then (let s13 := zz_w s12 41 1 v4 (zz_h σ 40 1 42); ((m_takeDue v2 s13).bind fun q14 => (some (1, q14.2)))) else none)) else none) else none)) else none) else none)) else none)) else none)) else none)) else none)) else none) else none)) else none)) else none) else none)) else none)) else none) else none)) else (m_begins_90 n v1 v2 v3 (zz_r (v4 + 1)) σ)) else none)
set_option maxRecDepth 100000 in
set_option maxHeartbeats 4000000 in
theorem ze_m_begins_90 (n : Nat) (v1 v2 v3 v4 : Int) (σ : zz_S) : m_begins_90 (n + 1) v1 v2 v3 v4 σ = zz_ev (zz_CE [(126, zw_m_takeDue)]) (zz_KE [(90, [(0, 42, true), (1, 0, false), (2, 0, false), (3, 0, false), (4, 0, false)], zz_f4 (m_begins_90 n))]) zk_m_begins 0 true 0 1 400 true (zz_sk zk_m_begins 90) [(0, 42, 1), (1, 0, v1), (2, 0, v2), (3, 0, v3), (4, 0, v4)] [] σ := rfl
theorem zo_m_begins_90 : ∀ n : Nat, zz_okb zM_m_begins 90 [(0, 42, true), (1, 0, false), (2, 0, false), (3, 0, false), (4, 0, false)] (zz_f4 (m_begins_90 n))
  | 0 => fun vs σ r τ h => by
    obtain ⟨v1, v2, v3, v4, rfl, h⟩ := zz_f4_ok h
    exact nomatch (show (none : zz_R) = some (r, τ) from h)
  | n + 1 => by
    have ih := zo_m_begins_90 n
    exact fun vs σ r τ h => by
        obtain ⟨v1, v2, v3, v4, rfl, h⟩ := zz_f4_ok h
        exact zz_from zc_m_begins (zz_occ zo_m_m_takeDue zz_oc0) (zz_olc ih zz_ol0) ((ze_m_begins_90 n v1 v2 v3 v4 σ).symm.trans h)
noncomputable def m_begins_27 : Nat → Int → Int → Int → zz_S → zz_R
  | 0, _, _, _, _ => none
  | n + 1, v1, v2, v3, σ => (if v3 < (zz_h σ 40 1 53) then (if zz_b σ 85 1 v3 then ((m_canBegin (zz_h σ 85 1 v3) σ).bind fun q1 => (if q1.1 = 0 then (m_begins_27 n v1 v2 (zz_r (v3 + 1)) q1.2) else (if v2 = (-1) then (m_begins_27 n v1 v3 (zz_r (v3 + 1)) q1.2) else ((m_isAhead v3 v2 q1.2).bind fun q2 => (if q2.1 = 0 then (m_begins_27 n v1 v2 (zz_r (v3 + 1)) q2.2) else (m_begins_27 n v1 v3 (zz_r (v3 + 1)) q2.2)))))) else none) else (if v2 = (-1) then (some (0, σ)) else (if zz_b σ 85 1 v2 then (m_begins_90 zz_fu v1 v2 (zz_h σ 85 1 v2) 0 σ) else none)))
set_option maxRecDepth 100000 in
set_option maxHeartbeats 4000000 in
theorem ze_m_begins_27 (n : Nat) (v1 v2 v3 : Int) (σ : zz_S) : m_begins_27 (n + 1) v1 v2 v3 σ = zz_ev (zz_CE [(138, zw_m_canBegin), (140, zw_m_isAhead)]) (zz_KE [(27, [(0, 42, true), (1, 0, false), (2, 0, false), (3, 0, false)], zz_f3 (m_begins_27 n)), (90, [(0, 42, true), (1, 0, false), (2, 0, false), (3, 0, false), (4, 0, false)], zz_f4 (m_begins_90 zz_fu))]) zk_m_begins 0 true 0 1 400 true (zz_sk zk_m_begins 27) [(0, 42, 1), (1, 0, v1), (2, 0, v2), (3, 0, v3)] [] σ := rfl
theorem zo_m_begins_27 : ∀ n : Nat, zz_okb zM_m_begins 27 [(0, 42, true), (1, 0, false), (2, 0, false), (3, 0, false)] (zz_f3 (m_begins_27 n))
  | 0 => fun vs σ r τ h => by
    obtain ⟨v1, v2, v3, rfl, h⟩ := zz_f3_ok h
    exact nomatch (show (none : zz_R) = some (r, τ) from h)
  | n + 1 => by
    have ih := zo_m_begins_27 n
    exact fun vs σ r τ h => by
        obtain ⟨v1, v2, v3, rfl, h⟩ := zz_f3_ok h
        exact zz_from zc_m_begins (zz_occ zo_m_m_canBegin (zz_occ zo_m_m_isAhead zz_oc0)) (zz_olc ih (zz_olc (zo_m_begins_90 zz_fu) zz_ol0)) ((ze_m_begins_27 n v1 v2 v3 σ).symm.trans h)
noncomputable def m_begins (v1 : Int) (σ : zz_S) : zz_R := (if (zz_h σ 40 1 42) = 2000 then (some (0, σ)) else ((m_atWork σ).bind fun q1 => (if q1.1 = (zz_h q1.2 40 1 4) then (some (0, q1.2)) else (m_begins_27 zz_fu v1 (-1) 0 q1.2))))
set_option maxRecDepth 100000 in
set_option maxHeartbeats 4000000 in
theorem ze_m_begins (v1 : Int) (σ : zz_S) : m_begins v1 σ = zz_ev (zz_CE [(111, zw_m_atWork)]) (zz_KE [(27, [(0, 42, true), (1, 0, false), (2, 0, false), (3, 0, false)], zz_f3 (m_begins_27 zz_fu))]) zk_m_begins 0 true 0 1 400 true (zz_sk zk_m_begins 0) [(0, 42, 1), (1, 0, v1)] [] σ := rfl
theorem zo_m_begins : zz_okb zM_m_begins 0 [(0, 42, true), (1, 0, false)] (zz_f1 m_begins) :=
  fun vs σ r τ h => by
    obtain ⟨v1, rfl, h⟩ := zz_f1_ok h
    exact zz_from zc_m_begins (zz_occ zo_m_m_atWork zz_oc0) (zz_olc (zo_m_begins_27 zz_fu) zz_ol0) ((ze_m_begins v1 σ).symm.trans h)
noncomputable def zw_m_begins : List Int → zz_S → zz_R := zz_f2 fun a0 a1 σ => if a0 = 1 then m_begins a1 σ else none
theorem zo_m_m_begins : zz_okm zz_inf 139 zw_m_begins := fun vs σ r τ h => by
  obtain ⟨a0, a1, rfl, h⟩ := zz_f2_ok h
  obtain ⟨e, h⟩ := zz_it h
  subst e
  exact zz_meth zi_m_begins zy_m_begins (zo_m_begins [a1] σ r τ h)
def zk_m_treat : List zz_E := [(0, false, .iconst 0, 1, 0, (0, 0, 0, 0), 0, []),
  (1, false, .istore_n 2, 1, 0, (0, 0, 0, 0), 0, []),
  (2, true, .iload_n 2, 1, 0, (0, 0, 0, 0), 0, []),
  (3, false, .aload_n 0, 1, 0, (0, 0, 0, 0), 0, []),
  (4, false, .getfield 171, 3, 803, (40, 9, 0, 0), 0, []),
  (7, false, .if_icmp .ge 28, 3, 0, (35, 0, 0, 0), 0, []),
  (10, false, .aload_n 0, 1, 0, (0, 0, 0, 0), 0, []),
  (11, false, .getfield 80, 3, 822, (40, 28, 64, 1), 0, []),
  (14, false, .iload_n 2, 1, 0, (0, 0, 0, 0), 0, []),
  (15, false, .aload_n 0, 1, 0, (0, 0, 0, 0), 0, []),
  (16, false, .getfield 84, 3, 823, (40, 29, 65, 1), 0, []),
  (19, false, .iload_n 2, 1, 0, (0, 0, 0, 0), 0, []),
  (20, false, .baload, 1, 0, (63, 0, 0, 0), 0, []),
  (21, false, .bastore, 1, 0, (62, 0, 0, 0), 0, []),
  (22, false, .aload_n 0, 1, 0, (0, 0, 0, 0), 0, []),
  (23, false, .getfield 84, 3, 823, (40, 29, 65, 1), 0, []),
  (26, false, .iload_n 2, 1, 0, (0, 0, 0, 0), 0, []),
  (27, false, .iconst 0, 1, 0, (0, 0, 0, 0), 0, []),
  (28, false, .bastore, 1, 0, (63, 0, 0, 0), 0, []),
  (29, false, .iinc 2 1, 3, 0, (0, 0, 0, 0), 0, []),
  (32, false, .goto (-30), 3, 0, (2, 0, 0, 0), 0, []),
  (35, false, .iconst 0, 1, 0, (0, 0, 0, 0), 0, []),
  (36, false, .istore_n 2, 1, 0, (0, 0, 0, 0), 0, []),
  (37, true, .iload_n 2, 1, 0, (0, 0, 0, 0), 0, []),
  (38, false, .aload_n 0, 1, 0, (0, 0, 0, 0), 0, []),
  (39, false, .getfield 247, 3, 836, (40, 42, 0, 0), 0, []),
  (42, false, .if_icmp .ge 34, 3, 0, (76, 0, 0, 0), 0, []),
  (45, false, .aload_n 0, 1, 0, (0, 0, 0, 0), 0, []),
  (46, false, .getfield 135, 3, 842, (40, 48, 82, 1), 0, []),
  (49, false, .iload_n 2, 1, 0, (0, 0, 0, 0), 0, []),
  (50, false, .iaload, 1, 0, (80, 0, 0, 0), 0, []),
  (51, false, .ifCond .ne 19, 3, 0, (70, 0, 0, 0), 0, []),
  (54, false, .aload_n 0, 1, 0, (0, 0, 0, 0), 0, []),
  (55, false, .getfield 129, 3, 840, (40, 46, 80, 1), 0, []),
  (58, false, .iload_n 2, 1, 0, (0, 0, 0, 0), 0, []),
  (59, false, .iaload, 1, 0, (78, 0, 0, 0), 0, []),
  (60, false, .iload_n 1, 1, 0, (0, 0, 0, 0), 0, []),
  (61, false, .if_icmp .ne 9, 3, 0, (70, 0, 0, 0), 0, []),
  (64, false, .aload_n 0, 1, 0, (0, 0, 0, 0), 0, []),
  (65, false, .iload_n 2, 1, 0, (0, 0, 0, 0), 0, []),
  (66, false, .iload_n 1, 1, 0, (0, 0, 0, 0), 0, []),
  (67, false, .invokevirtual 278, 3, 1005, (133, 3, 999, 0), 0, [0, 0, 42]),
  (70, false, .iinc 2 1, 3, 0, (0, 0, 0, 0), 0, []),
  (73, false, .goto (-36), 3, 0, (37, 0, 0, 0), 0, []),
  (76, false, .iconst 0, 1, 0, (0, 0, 0, 0), 0, []),
  (77, false, .istore_n 2, 1, 0, (0, 0, 0, 0), 0, []),
  (78, true, .iload_n 2, 1, 0, (0, 0, 0, 0), 0, []),
  (79, false, .aload_n 0, 1, 0, (0, 0, 0, 0), 0, []),
  (80, false, .getfield 171, 3, 803, (40, 9, 0, 0), 0, []),
  (83, false, .if_icmp .ge 67, 3, 0, (150, 0, 0, 0), 0, []),
  (86, false, .aload_n 0, 1, 0, (0, 0, 0, 0), 0, []),
  (87, false, .iload_n 2, 1, 0, (0, 0, 0, 0), 0, []),
  (88, false, .invokevirtual 241, 3, 1024, (110, 2, 0, 0), 0, [0, 42]),
  (91, false, .ifCond .ne 6, 3, 0, (97, 0, 0, 0), 0, []),
  (94, false, .goto 50, 3, 0, (144, 0, 0, 0), 0, []),
  (97, false, .aload_n 0, 1, 0, (0, 0, 0, 0), 0, []),
  (98, false, .iload_n 2, 1, 0, (0, 0, 0, 0), 0, []),
  (99, false, .iload_n 1, 1, 0, (0, 0, 0, 0), 0, []),
  (100, false, .invokevirtual 281, 3, 1064, (136, 3, 0, 0), 0, [0, 0, 42]),
  (103, false, .ifCond .eq 26, 3, 0, (129, 0, 0, 0), 0, []),
  (106, false, .aload_n 0, 1, 0, (0, 0, 0, 0), 0, []),
  (107, false, .getfield 26, 3, 804, (40, 10, 46, 1), 0, []),
  (110, false, .iload_n 2, 1, 0, (0, 0, 0, 0), 0, []),
  (111, false, .iaload, 1, 0, (44, 0, 0, 0), 0, []),
  (112, false, .iconst 2, 1, 0, (0, 0, 0, 0), 0, []),
  (113, false, .if_icmp .ne 10, 3, 0, (123, 0, 0, 0), 0, []),
  (116, false, .aload_n 0, 1, 0, (0, 0, 0, 0), 0, []),
  (117, false, .getfield 65, 3, 817, (40, 23, 59, 1), 0, []),
  (120, false, .iload_n 2, 1, 0, (0, 0, 0, 0), 0, []),
  (121, false, .iconst (-1), 1, 0, (0, 0, 0, 0), 0, []),
  (122, false, .iastore, 1, 0, (57, 0, 0, 0), 0, []),
  (123, false, .aload_n 0, 1, 0, (0, 0, 0, 0), 0, []),
  (124, false, .iload_n 2, 1, 0, (0, 0, 0, 0), 0, []),
  (125, false, .iload_n 1, 1, 0, (0, 0, 0, 0), 0, []),
  (126, false, .invokevirtual 244, 3, 1048, (125, 3, 999, 0), 0, [0, 0, 42]),
  (129, true, .aload_n 0, 1, 0, (0, 0, 0, 0), 0, []),
  (130, false, .getfield 80, 3, 822, (40, 28, 64, 1), 0, []),
  (133, false, .iload_n 2, 1, 0, (0, 0, 0, 0), 0, []),
  (134, false, .baload, 1, 0, (62, 0, 0, 0), 0, []),
  (135, false, .ifCond .eq 9, 3, 0, (144, 0, 0, 0), 0, []),
  (138, false, .aload_n 0, 1, 0, (0, 0, 0, 0), 0, []),
  (139, false, .iload_n 2, 1, 0, (0, 0, 0, 0), 0, []),
  (140, false, .iload_n 1, 1, 0, (0, 0, 0, 0), 0, []),
  (141, false, .invokevirtual 244, 3, 1048, (125, 3, 999, 0), 0, [0, 0, 42]),
  (144, false, .iinc 2 1, 3, 0, (0, 0, 0, 0), 0, []),
  (147, false, .goto (-69), 3, 0, (78, 0, 0, 0), 0, []),
  (150, false, .iload_n 1, 1, 0, (0, 0, 0, 0), 0, []),
  (151, false, .aload_n 0, 1, 0, (0, 0, 0, 0), 0, []),
  (152, false, .getfield 214, 3, 795, (40, 1, 0, 0), 0, []),
  (155, false, .iadd, 1, 0, (0, 0, 0, 0), 0, []),
  (156, false, .aload_n 0, 1, 0, (0, 0, 0, 0), 0, []),
  (157, false, .getfield 7, 3, 796, (40, 2, 0, 0), 0, []),
  (160, false, .if_icmp .le 13, 3, 0, (173, 0, 0, 0), 0, []),
  (163, false, .aload_n 0, 1, 0, (0, 0, 0, 0), 0, []),
  (164, false, .iload_n 1, 1, 0, (0, 0, 0, 0), 0, []),
  (165, false, .aload_n 0, 1, 0, (0, 0, 0, 0), 0, []),
  (166, false, .getfield 214, 3, 795, (40, 1, 0, 0), 0, []),
  (169, false, .iadd, 1, 0, (0, 0, 0, 0), 0, []),
  (170, false, .putfield 7, 3, 796, (40, 2, 0, 0), 0, []),
  (173, false, .aload_n 0, 1, 0, (0, 0, 0, 0), 0, []),
  (174, false, .iload_n 1, 1, 0, (0, 0, 0, 0), 0, []),
  (175, false, .invokevirtual 284, 3, 1087, (137, 2, 999, 0), 0, [0, 42]),
  (178, true, .aload_n 0, 1, 0, (0, 0, 0, 0), 0, []),
  (179, false, .iload_n 1, 1, 0, (0, 0, 0, 0), 0, []),
  (180, false, .invokevirtual 287, 3, 1095, (139, 2, 0, 0), 0, [0, 42]),
  (183, false, .ifCond .eq 16, 3, 0, (199, 0, 0, 0), 0, []),
  (186, false, .aload_n 0, 1, 0, (0, 0, 0, 0), 0, []),
  (187, false, .dup, 1, 0, (0, 0, 0, 0), 0, []),
  (188, false, .getfield 290, 3, 860, (40, 66, 0, 0), 0, []),
  (191, false, .iconst 1, 1, 0, (0, 0, 0, 0), 0, []),
  (192, false, .iadd, 1, 0, (0, 0, 0, 0), 0, []),
  (193, false, .putfield 290, 3, 860, (40, 66, 0, 0), 0, []),
  (196, false, .goto (-18), 3, 0, (178, 0, 0, 0), 0, []),
  (199, false, .iconst 0, 1, 0, (0, 0, 0, 0), 0, []),
  (200, false, .istore_n 2, 1, 0, (0, 0, 0, 0), 0, []),
  (201, true, .iload_n 2, 1, 0, (0, 0, 0, 0), 0, []),
  (202, false, .aload_n 0, 1, 0, (0, 0, 0, 0), 0, []),
  (203, false, .getfield 13, 3, 798, (40, 4, 0, 0), 0, []),
  (206, false, .if_icmp .ge 29, 3, 0, (235, 0, 0, 0), 0, []),
  (209, false, .aload_n 0, 1, 0, (0, 0, 0, 0), 0, []),
  (210, false, .getfield 16, 3, 799, (40, 5, 43, 1), 0, []),
  (213, false, .iload_n 2, 1, 0, (0, 0, 0, 0), 0, []),
  (214, false, .iaload, 1, 0, (41, 0, 0, 0), 0, []),
  (215, false, .iconst (-1), 1, 0, (0, 0, 0, 0), 0, []),
  (216, false, .if_icmp .ne 13, 3, 0, (229, 0, 0, 0), 0, []),
  (219, false, .aload_n 0, 1, 0, (0, 0, 0, 0), 0, []),
  (220, false, .getfield 20, 3, 800, (40, 6, 44, 1), 0, []),
  (223, false, .iload_n 2, 1, 0, (0, 0, 0, 0), 0, []),
  (224, false, .dup2, 1, 0, (0, 0, 0, 0), 0, []),
  (225, false, .iaload, 1, 0, (42, 0, 0, 0), 0, []),
  (226, false, .iconst 1, 1, 0, (0, 0, 0, 0), 0, []),
  (227, false, .iadd, 1, 0, (0, 0, 0, 0), 0, []),
  (228, false, .iastore, 1, 0, (42, 0, 0, 0), 0, []),
  (229, false, .iinc 2 1, 3, 0, (0, 0, 0, 0), 0, []),
  (232, false, .goto (-31), 3, 0, (201, 0, 0, 0), 0, []),
  (235, false, .return_, 1, 0, (0, 0, 0, 0), 0, [])]
theorem zc_m_treat : zk_m_treat.all (zz_ck zz_inf zM_m_treat) = true ∧ zz_ch zk_m_treat = true := ⟨by decide +kernel, by decide +kernel⟩
noncomputable def m_treat_201 : Nat → Int → zz_S → zz_R
  | 0, _, _ => none
  | n + 1, v2, σ => (if v2 < (zz_h σ 40 1 4) then (if zz_b σ 41 1 v2 then (if (zz_h σ 41 1 v2) = (-1) then (if zz_b σ 42 1 v2 then (if zz_b σ 42 1 v2 then (let s1 := zz_w σ 42 1 v2 (zz_r ((zz_h σ 42 1 v2) + 1)); (m_treat_201 n (zz_r (v2 + 1)) s1)) else none) else none) else (m_treat_201 n (zz_r (v2 + 1)) σ)) else none) else (some (0, σ)))
set_option maxRecDepth 100000 in
set_option maxHeartbeats 4000000 in
theorem ze_m_treat_201 (n : Nat) (v2 : Int) (σ : zz_S) : m_treat_201 (n + 1) v2 σ = zz_ev (zz_CE []) (zz_KE [(201, [(0, 42, true), (2, 0, false)], zz_f1 (m_treat_201 n))]) zk_m_treat 999 false 0 1 400 true (zz_sk zk_m_treat 201) [(0, 42, 1), (2, 0, v2)] [] σ := rfl
theorem zo_m_treat_201 : ∀ n : Nat, zz_okb zM_m_treat 201 [(0, 42, true), (2, 0, false)] (zz_f1 (m_treat_201 n))
  | 0 => fun vs σ r τ h => by
    obtain ⟨v2, rfl, h⟩ := zz_f1_ok h
    exact nomatch (show (none : zz_R) = some (r, τ) from h)
  | n + 1 => by
    have ih := zo_m_treat_201 n
    exact fun vs σ r τ h => by
        obtain ⟨v2, rfl, h⟩ := zz_f1_ok h
        exact zz_from zc_m_treat zz_oc0 (zz_olc ih zz_ol0) ((ze_m_treat_201 n v2 σ).symm.trans h)
noncomputable def m_treat_178 : Nat → Int → zz_S → zz_R
  | 0, _, _ => none
  | n + 1, v1, σ => ((m_begins v1 σ).bind fun q1 => (if q1.1 = 0 then (m_treat_201 zz_fu 0 q1.2) else (let s2 := zz_w q1.2 40 1 66 (zz_r ((zz_h q1.2 40 1 66) + 1)); (m_treat_178 n v1 s2))))
set_option maxRecDepth 100000 in
set_option maxHeartbeats 4000000 in
theorem ze_m_treat_178 (n : Nat) (v1 : Int) (σ : zz_S) : m_treat_178 (n + 1) v1 σ = zz_ev (zz_CE [(139, zw_m_begins)]) (zz_KE [(178, [(0, 42, true), (1, 0, false)], zz_f1 (m_treat_178 n)), (201, [(0, 42, true), (2, 0, false)], zz_f1 (m_treat_201 zz_fu))]) zk_m_treat 999 false 0 1 400 true (zz_sk zk_m_treat 178) [(0, 42, 1), (1, 0, v1)] [] σ := rfl
theorem zo_m_treat_178 : ∀ n : Nat, zz_okb zM_m_treat 178 [(0, 42, true), (1, 0, false)] (zz_f1 (m_treat_178 n))
  | 0 => fun vs σ r τ h => by
    obtain ⟨v1, rfl, h⟩ := zz_f1_ok h
    exact nomatch (show (none : zz_R) = some (r, τ) from h)
  | n + 1 => by
    have ih := zo_m_treat_178 n
    exact fun vs σ r τ h => by
        obtain ⟨v1, rfl, h⟩ := zz_f1_ok h
        exact zz_from zc_m_treat (zz_occ zo_m_m_begins zz_oc0) (zz_olc ih (zz_olc (zo_m_treat_201 zz_fu) zz_ol0)) ((ze_m_treat_178 n v1 σ).symm.trans h)
noncomputable def m_treat_129 (k78 : Int → Int → zz_S → zz_R) (v1 v2 : Int) (σ : zz_S) : zz_R := (if zz_b σ 62 1 v2 then (if (zz_h σ 62 1 v2) = 0 then (k78 v1 (zz_r (v2 + 1)) σ) else ((m_comes v2 v1 σ).bind fun q1 => (k78 v1 (zz_r (v2 + 1)) q1.2))) else none)
set_option maxRecDepth 100000 in
set_option maxHeartbeats 4000000 in
theorem ze_m_treat_129 (k78 : Int → Int → zz_S → zz_R) (v1 v2 : Int) (σ : zz_S) : m_treat_129 k78 v1 v2 σ = zz_ev (zz_CE [(125, zw_m_comes)]) (zz_KE [(78, [(0, 42, true), (1, 0, false), (2, 0, false)], zz_f2 k78)]) zk_m_treat 999 false 0 1 400 true (zz_sk zk_m_treat 129) [(0, 42, 1), (1, 0, v1), (2, 0, v2)] [] σ := rfl
theorem zo_m_treat_129 (k78 : Int → Int → zz_S → zz_R) (hk78 : zz_okb zM_m_treat 78 [(0, 42, true), (1, 0, false), (2, 0, false)] (zz_f2 k78)) : zz_okb zM_m_treat 129 [(0, 42, true), (1, 0, false), (2, 0, false)] (zz_f2 (m_treat_129 k78)) :=
  fun vs σ r τ h => by
    obtain ⟨v1, v2, rfl, h⟩ := zz_f2_ok h
    exact zz_from zc_m_treat (zz_occ zo_m_m_comes zz_oc0) (zz_olc hk78 zz_ol0) ((ze_m_treat_129 k78 v1 v2 σ).symm.trans h)
noncomputable def m_treat_78 : Nat → Int → Int → zz_S → zz_R
  | 0, _, _, _ => none
  | n + 1, v1, v2, σ => (if v2 < (zz_h σ 40 1 9) then ((m_isActive v2 σ).bind fun q1 => (if q1.1 = 0 then (m_treat_78 n v1 (zz_r (v2 + 1)) q1.2) else ((m_isDue v2 v1 q1.2).bind fun q2 => (if q2.1 = 0 then (m_treat_129 (m_treat_78 n) v1 v2 q2.2) else (if zz_b q2.2 44 1 v2 then (if (zz_h q2.2 44 1 v2) = 2 then (if zz_b q2.2 57 1 v2 then (let s3 := zz_w q2.2 57 1 v2 (-1); ((m_comes v2 v1 s3).bind fun q4 => (m_treat_129 (m_treat_78 n) v1 v2 q4.2))) else none) else ((m_comes v2 v1 q2.2).bind fun q5 => (m_treat_129 (m_treat_78 n) v1 v2 q5.2))) else none))))) else (if (zz_r (v1 + (zz_h σ 40 1 1))) ≤ (zz_h σ 40 1 2) then ((m_misses v1 σ).bind fun q6 => (m_treat_178 zz_fu v1 q6.2)) else (let s7 := zz_w σ 40 1 2 (zz_r (v1 + (zz_h σ 40 1 1))); ((m_misses v1 s7).bind fun q8 => (m_treat_178 zz_fu v1 q8.2)))))
set_option maxRecDepth 100000 in
set_option maxHeartbeats 4000000 in
theorem ze_m_treat_78 (n : Nat) (v1 v2 : Int) (σ : zz_S) : m_treat_78 (n + 1) v1 v2 σ = zz_ev (zz_CE [(110, zw_m_isActive), (125, zw_m_comes), (136, zw_m_isDue), (137, zw_m_misses)]) (zz_KE [(78, [(0, 42, true), (1, 0, false), (2, 0, false)], zz_f2 (m_treat_78 n)), (129, [(0, 42, true), (1, 0, false), (2, 0, false)], zz_f2 (m_treat_129 (m_treat_78 n))), (178, [(0, 42, true), (1, 0, false)], zz_f1 (m_treat_178 zz_fu))]) zk_m_treat 999 false 0 1 400 true (zz_sk zk_m_treat 78) [(0, 42, 1), (1, 0, v1), (2, 0, v2)] [] σ := rfl
theorem zo_m_treat_78 : ∀ n : Nat, zz_okb zM_m_treat 78 [(0, 42, true), (1, 0, false), (2, 0, false)] (zz_f2 (m_treat_78 n))
  | 0 => fun vs σ r τ h => by
    obtain ⟨v1, v2, rfl, h⟩ := zz_f2_ok h
    exact nomatch (show (none : zz_R) = some (r, τ) from h)
  | n + 1 => by
    have ih := zo_m_treat_78 n
    exact fun vs σ r τ h => by
        obtain ⟨v1, v2, rfl, h⟩ := zz_f2_ok h
        exact zz_from zc_m_treat (zz_occ zo_m_m_isActive (zz_occ zo_m_m_comes (zz_occ zo_m_m_isDue (zz_occ zo_m_m_misses zz_oc0)))) (zz_olc ih (zz_olc (zo_m_treat_129 (m_treat_78 n) ih) (zz_olc (zo_m_treat_178 zz_fu) zz_ol0))) ((ze_m_treat_78 n v1 v2 σ).symm.trans h)
noncomputable def m_treat_37 : Nat → Int → Int → zz_S → zz_R
  | 0, _, _, _ => none
  | n + 1, v1, v2, σ => (if v2 < (zz_h σ 40 1 42) then (if zz_b σ 80 1 v2 then (if (zz_h σ 80 1 v2) = 0 then (if zz_b σ 78 1 v2 then (if (zz_h σ 78 1 v2) = v1 then ((m_ends v2 v1 σ).bind fun q1 => (m_treat_37 n v1 (zz_r (v2 + 1)) q1.2)) else (m_treat_37 n v1 (zz_r (v2 + 1)) σ)) else none) else (m_treat_37 n v1 (zz_r (v2 + 1)) σ)) else none) else (m_treat_78 zz_fu v1 0 σ))
set_option maxRecDepth 100000 in
set_option maxHeartbeats 4000000 in
theorem ze_m_treat_37 (n : Nat) (v1 v2 : Int) (σ : zz_S) : m_treat_37 (n + 1) v1 v2 σ = zz_ev (zz_CE [(133, zw_m_ends)]) (zz_KE [(37, [(0, 42, true), (1, 0, false), (2, 0, false)], zz_f2 (m_treat_37 n)), (78, [(0, 42, true), (1, 0, false), (2, 0, false)], zz_f2 (m_treat_78 zz_fu))]) zk_m_treat 999 false 0 1 400 true (zz_sk zk_m_treat 37) [(0, 42, 1), (1, 0, v1), (2, 0, v2)] [] σ := rfl
theorem zo_m_treat_37 : ∀ n : Nat, zz_okb zM_m_treat 37 [(0, 42, true), (1, 0, false), (2, 0, false)] (zz_f2 (m_treat_37 n))
  | 0 => fun vs σ r τ h => by
    obtain ⟨v1, v2, rfl, h⟩ := zz_f2_ok h
    exact nomatch (show (none : zz_R) = some (r, τ) from h)
  | n + 1 => by
    have ih := zo_m_treat_37 n
    exact fun vs σ r τ h => by
        obtain ⟨v1, v2, rfl, h⟩ := zz_f2_ok h
        exact zz_from zc_m_treat (zz_occ zo_m_m_ends zz_oc0) (zz_olc ih (zz_olc (zo_m_treat_78 zz_fu) zz_ol0)) ((ze_m_treat_37 n v1 v2 σ).symm.trans h)
noncomputable def m_treat_2 : Nat → Int → Int → zz_S → zz_R
  | 0, _, _, _ => none
  | n + 1, v1, v2, σ => (if v2 < (zz_h σ 40 1 9) then (if zz_b σ 63 1 v2 then (if zz_b σ 62 1 v2 then (if zz_o (zz_h σ 63 1 v2) then (let s1 := zz_w σ 62 1 v2 (zz_h σ 63 1 v2); (if zz_b s1 63 1 v2 then (let s2 := zz_w s1 63 1 v2 0; (m_treat_2 n v1 (zz_r (v2 + 1)) s2)) else none)) else none) else none) else none) else (m_treat_37 zz_fu v1 0 σ))
set_option maxRecDepth 100000 in
set_option maxHeartbeats 4000000 in
theorem ze_m_treat_2 (n : Nat) (v1 v2 : Int) (σ : zz_S) : m_treat_2 (n + 1) v1 v2 σ = zz_ev (zz_CE []) (zz_KE [(2, [(0, 42, true), (1, 0, false), (2, 0, false)], zz_f2 (m_treat_2 n)), (37, [(0, 42, true), (1, 0, false), (2, 0, false)], zz_f2 (m_treat_37 zz_fu))]) zk_m_treat 999 false 0 1 400 true (zz_sk zk_m_treat 2) [(0, 42, 1), (1, 0, v1), (2, 0, v2)] [] σ := rfl
theorem zo_m_treat_2 : ∀ n : Nat, zz_okb zM_m_treat 2 [(0, 42, true), (1, 0, false), (2, 0, false)] (zz_f2 (m_treat_2 n))
  | 0 => fun vs σ r τ h => by
    obtain ⟨v1, v2, rfl, h⟩ := zz_f2_ok h
    exact nomatch (show (none : zz_R) = some (r, τ) from h)
  | n + 1 => by
    have ih := zo_m_treat_2 n
    exact fun vs σ r τ h => by
        obtain ⟨v1, v2, rfl, h⟩ := zz_f2_ok h
        exact zz_from zc_m_treat zz_oc0 (zz_olc ih (zz_olc (zo_m_treat_37 zz_fu) zz_ol0)) ((ze_m_treat_2 n v1 v2 σ).symm.trans h)
noncomputable def m_treat (v1 : Int) (σ : zz_S) : zz_R := (m_treat_2 zz_fu v1 0 σ)
set_option maxRecDepth 100000 in
set_option maxHeartbeats 4000000 in
theorem ze_m_treat (v1 : Int) (σ : zz_S) : m_treat v1 σ = zz_ev (zz_CE []) (zz_KE [(2, [(0, 42, true), (1, 0, false), (2, 0, false)], zz_f2 (m_treat_2 zz_fu))]) zk_m_treat 999 false 0 1 400 true (zz_sk zk_m_treat 0) [(0, 42, 1), (1, 0, v1)] [] σ := rfl
theorem zo_m_treat : zz_okb zM_m_treat 0 [(0, 42, true), (1, 0, false)] (zz_f1 m_treat) :=
  fun vs σ r τ h => by
    obtain ⟨v1, rfl, h⟩ := zz_f1_ok h
    exact zz_from zc_m_treat zz_oc0 (zz_olc (zo_m_treat_2 zz_fu) zz_ol0) ((ze_m_treat v1 σ).symm.trans h)
noncomputable def zw_m_treat : List Int → zz_S → zz_R := zz_f2 fun a0 a1 σ => if a0 = 1 then m_treat a1 σ else none
theorem zo_m_m_treat : zz_okm zz_inf 135 zw_m_treat := fun vs σ r τ h => by
  obtain ⟨a0, a1, rfl, h⟩ := zz_f2_ok h
  obtain ⟨e, h⟩ := zz_it h
  subst e
  exact zz_meth zi_m_treat zy_m_treat (zo_m_treat [a1] σ r τ h)
def zk_m_clock : List zz_E := [(0, false, .iload_n 1, 1, 0, (0, 0, 0, 0), 0, []),
  (1, false, .aload_n 0, 1, 0, (0, 0, 0, 0), 0, []),
  (2, false, .getfield 250, 3, 794, (40, 0, 0, 0), 0, []),
  (5, false, .if_icmp .lt 21, 3, 0, (26, 0, 0, 0), 0, []),
  (8, false, .iload_n 1, 1, 0, (0, 0, 0, 0), 0, []),
  (9, false, .aload_n 0, 1, 0, (0, 0, 0, 0), 0, []),
  (10, false, .getfield 250, 3, 794, (40, 0, 0, 0), 0, []),
  (13, false, .isub, 1, 0, (0, 0, 0, 0), 0, []),
  (14, false, .sipush 5000, 3, 0, (0, 0, 0, 0), 0, []),
  (17, false, .if_icmp .gt 9, 3, 0, (26, 0, 0, 0), 0, []),
  (20, false, .iload_n 1, 1, 0, (0, 0, 0, 0), 0, []),
  (21, false, .ldc 209, 2, 1000, (0, 0, 0, 0), 400000, []),
  (23, false, .if_icmp .le 6, 3, 0, (29, 0, 0, 0), 0, []),
  (26, false, .bipush (-2), 2, 0, (0, 0, 0, 0), 0, []),
  (28, false, .ireturn, 1, 0, (0, 0, 0, 0), 0, []),
  (29, false, .aload_n 0, 1, 0, (0, 0, 0, 0), 0, []),
  (30, false, .iconst 0, 1, 0, (0, 0, 0, 0), 0, []),
  (31, false, .putfield 290, 3, 860, (40, 66, 0, 0), 0, []),
  (34, true, .aload_n 0, 1, 0, (0, 0, 0, 0), 0, []),
  (35, false, .getfield 250, 3, 794, (40, 0, 0, 0), 0, []),
  (38, false, .iload_n 1, 1, 0, (0, 0, 0, 0), 0, []),
  (39, false, .if_icmp .ge 24, 3, 0, (63, 0, 0, 0), 0, []),
  (42, false, .aload_n 0, 1, 0, (0, 0, 0, 0), 0, []),
  (43, false, .aload_n 0, 1, 0, (0, 0, 0, 0), 0, []),
  (44, false, .getfield 250, 3, 794, (40, 0, 0, 0), 0, []),
  (47, false, .invokevirtual 312, 3, 1001, (135, 2, 999, 0), 0, [0, 42]),
  (50, false, .aload_n 0, 1, 0, (0, 0, 0, 0), 0, []),
  (51, false, .dup, 1, 0, (0, 0, 0, 0), 0, []),
  (52, false, .getfield 250, 3, 794, (40, 0, 0, 0), 0, []),
  (55, false, .iconst 1, 1, 0, (0, 0, 0, 0), 0, []),
  (56, false, .iadd, 1, 0, (0, 0, 0, 0), 0, []),
  (57, false, .putfield 250, 3, 794, (40, 0, 0, 0), 0, []),
  (60, false, .goto (-26), 3, 0, (34, 0, 0, 0), 0, []),
  (63, false, .aload_n 0, 1, 0, (0, 0, 0, 0), 0, []),
  (64, false, .getfield 290, 3, 860, (40, 66, 0, 0), 0, []),
  (67, false, .ireturn, 1, 0, (0, 0, 0, 0), 0, [])]
theorem zc_m_clock : zk_m_clock.all (zz_ck zz_inf zM_m_clock) = true ∧ zz_ch zk_m_clock = true := ⟨by decide +kernel, by decide +kernel⟩
noncomputable def m_clock_34 : Nat → Int → zz_S → zz_R
  | 0, _, _ => none
  | n + 1, v1, σ => (if (zz_h σ 40 1 0) < v1 then ((m_treat (zz_h σ 40 1 0) σ).bind fun q1 => (let s2 := zz_w q1.2 40 1 0 (zz_r ((zz_h q1.2 40 1 0) + 1)); (m_clock_34 n v1 s2))) else (some ((zz_h σ 40 1 66), σ)))
set_option maxRecDepth 100000 in
set_option maxHeartbeats 4000000 in
theorem ze_m_clock_34 (n : Nat) (v1 : Int) (σ : zz_S) : m_clock_34 (n + 1) v1 σ = zz_ev (zz_CE [(135, zw_m_treat)]) (zz_KE [(34, [(0, 42, true), (1, 0, false)], zz_f1 (m_clock_34 n))]) zk_m_clock 0 false 0 1 400 true (zz_sk zk_m_clock 34) [(0, 42, 1), (1, 0, v1)] [] σ := rfl
theorem zo_m_clock_34 : ∀ n : Nat, zz_okb zM_m_clock 34 [(0, 42, true), (1, 0, false)] (zz_f1 (m_clock_34 n))
  | 0 => fun vs σ r τ h => by
    obtain ⟨v1, rfl, h⟩ := zz_f1_ok h
    exact nomatch (show (none : zz_R) = some (r, τ) from h)
  | n + 1 => by
    have ih := zo_m_clock_34 n
    exact fun vs σ r τ h => by
        obtain ⟨v1, rfl, h⟩ := zz_f1_ok h
        exact zz_from zc_m_clock (zz_occ zo_m_m_treat zz_oc0) (zz_olc ih zz_ol0) ((ze_m_clock_34 n v1 σ).symm.trans h)
noncomputable def m_clock (v1 : Int) (σ : zz_S) : zz_R := (if v1 < (zz_h σ 40 1 0) then (some ((-2), σ)) else (if (zz_r (v1 - (zz_h σ 40 1 0))) ≤ 5000 then (if v1 ≤ 400000 then (let s1 := zz_w σ 40 1 66 0; (m_clock_34 zz_fu v1 s1)) else (some ((-2), σ))) else (some ((-2), σ))))
set_option maxRecDepth 100000 in
set_option maxHeartbeats 4000000 in
theorem ze_m_clock (v1 : Int) (σ : zz_S) : m_clock v1 σ = zz_ev (zz_CE []) (zz_KE [(34, [(0, 42, true), (1, 0, false)], zz_f1 (m_clock_34 zz_fu))]) zk_m_clock 0 false 0 1 400 true (zz_sk zk_m_clock 0) [(0, 42, 1), (1, 0, v1)] [] σ := rfl
theorem zo_m_clock : zz_okb zM_m_clock 0 [(0, 42, true), (1, 0, false)] (zz_f1 m_clock) :=
  fun vs σ r τ h => by
    obtain ⟨v1, rfl, h⟩ := zz_f1_ok h
    exact zz_from zc_m_clock zz_oc0 (zz_olc (zo_m_clock_34 zz_fu) zz_ol0) ((ze_m_clock v1 σ).symm.trans h)
noncomputable def zw_m_clock : List Int → zz_S → zz_R := zz_f2 fun a0 a1 σ => if a0 = 1 then m_clock a1 σ else none
theorem zo_m_m_clock : zz_okm zz_inf 141 zw_m_clock := fun vs σ r τ h => by
  obtain ⟨a0, a1, rfl, h⟩ := zz_f2_ok h
  obtain ⟨e, h⟩ := zz_it h
  subst e
  exact zz_meth zi_m_clock zy_m_clock (zo_m_clock [a1] σ r τ h)
def zk_m_workers : List zz_E := [(0, false, .iload_n 1, 1, 0, (0, 0, 0, 0), 0, []),
  (1, false, .iconst 1, 1, 0, (0, 0, 0, 0), 0, []),
  (2, false, .bipush 8, 2, 0, (0, 0, 0, 0), 0, []),
  (4, false, .invokestatic 174, 3, 1021, (108, 3, 0, 0), 0, [0, 0, 0]),
  (7, false, .ifCond .ne 6, 3, 0, (13, 0, 0, 0), 0, []),
  (10, false, .bipush (-2), 2, 0, (0, 0, 0, 0), 0, []),
  (12, false, .ireturn, 1, 0, (0, 0, 0, 0), 0, []),
  (13, false, .aload_n 0, 1, 0, (0, 0, 0, 0), 0, []),
  (14, false, .invokevirtual 302, 3, 1099, (111, 1, 0, 0), 0, [42]),
  (17, false, .ifCond .le 6, 3, 0, (23, 0, 0, 0), 0, []),
  (20, false, .bipush (-3), 2, 0, (0, 0, 0, 0), 0, []),
  (22, false, .ireturn, 1, 0, (0, 0, 0, 0), 0, []),
  (23, false, .aload_n 0, 1, 0, (0, 0, 0, 0), 0, []),
  (24, false, .iload_n 1, 1, 0, (0, 0, 0, 0), 0, []),
  (25, false, .putfield 13, 3, 798, (40, 4, 0, 0), 0, []),
  (28, false, .iconst 0, 1, 0, (0, 0, 0, 0), 0, []),
  (29, false, .istore_n 2, 1, 0, (0, 0, 0, 0), 0, []),
  (30, true, .iload_n 2, 1, 0, (0, 0, 0, 0), 0, []),
  (31, false, .bipush 8, 2, 0, (0, 0, 0, 0), 0, []),
  (33, false, .if_icmp .ge 16, 3, 0, (49, 0, 0, 0), 0, []),
  (36, false, .aload_n 0, 1, 0, (0, 0, 0, 0), 0, []),
  (37, false, .getfield 20, 3, 800, (40, 6, 44, 1), 0, []),
  (40, false, .iload_n 2, 1, 0, (0, 0, 0, 0), 0, []),
  (41, false, .iconst 0, 1, 0, (0, 0, 0, 0), 0, []),
  (42, false, .iastore, 1, 0, (42, 0, 0, 0), 0, []),
  (43, false, .iinc 2 1, 3, 0, (0, 0, 0, 0), 0, []),
  (46, false, .goto (-16), 3, 0, (30, 0, 0, 0), 0, []),
  (49, false, .iload_n 1, 1, 0, (0, 0, 0, 0), 0, []),
  (50, false, .ireturn, 1, 0, (0, 0, 0, 0), 0, [])]
theorem zc_m_workers : zk_m_workers.all (zz_ck zz_inf zM_m_workers) = true ∧ zz_ch zk_m_workers = true := ⟨by decide +kernel, by decide +kernel⟩
noncomputable def m_workers_30 : Nat → Int → Int → zz_S → zz_R
  | 0, _, _, _ => none
  | n + 1, v1, v2, σ => (if v2 < 8 then (if zz_b σ 42 1 v2 then (let s1 := zz_w σ 42 1 v2 0; (m_workers_30 n v1 (zz_r (v2 + 1)) s1)) else none) else (some (v1, σ)))
set_option maxRecDepth 100000 in
set_option maxHeartbeats 4000000 in
theorem ze_m_workers_30 (n : Nat) (v1 v2 : Int) (σ : zz_S) : m_workers_30 (n + 1) v1 v2 σ = zz_ev (zz_CE []) (zz_KE [(30, [(0, 42, true), (1, 0, false), (2, 0, false)], zz_f2 (m_workers_30 n))]) zk_m_workers 0 false 0 1 400 true (zz_sk zk_m_workers 30) [(0, 42, 1), (1, 0, v1), (2, 0, v2)] [] σ := rfl
theorem zo_m_workers_30 : ∀ n : Nat, zz_okb zM_m_workers 30 [(0, 42, true), (1, 0, false), (2, 0, false)] (zz_f2 (m_workers_30 n))
  | 0 => fun vs σ r τ h => by
    obtain ⟨v1, v2, rfl, h⟩ := zz_f2_ok h
    exact nomatch (show (none : zz_R) = some (r, τ) from h)
  | n + 1 => by
    have ih := zo_m_workers_30 n
    exact fun vs σ r τ h => by
        obtain ⟨v1, v2, rfl, h⟩ := zz_f2_ok h
        exact zz_from zc_m_workers zz_oc0 (zz_olc ih zz_ol0) ((ze_m_workers_30 n v1 v2 σ).symm.trans h)
noncomputable def m_workers (v1 : Int) (σ : zz_S) : zz_R := ((m_in v1 1 8 σ).bind fun q1 => (if q1.1 = 0 then (some ((-2), q1.2)) else ((m_atWork q1.2).bind fun q2 => (if q2.1 ≤ 0 then (let s3 := zz_w q2.2 40 1 4 v1; (m_workers_30 zz_fu v1 0 s3)) else (some ((-3), q2.2))))))
set_option maxRecDepth 100000 in
set_option maxHeartbeats 4000000 in
theorem ze_m_workers (v1 : Int) (σ : zz_S) : m_workers v1 σ = zz_ev (zz_CE [(108, zw_m_in), (111, zw_m_atWork)]) (zz_KE [(30, [(0, 42, true), (1, 0, false), (2, 0, false)], zz_f2 (m_workers_30 zz_fu))]) zk_m_workers 0 false 0 1 400 true (zz_sk zk_m_workers 0) [(0, 42, 1), (1, 0, v1)] [] σ := rfl
theorem zo_m_workers : zz_okb zM_m_workers 0 [(0, 42, true), (1, 0, false)] (zz_f1 m_workers) :=
  fun vs σ r τ h => by
    obtain ⟨v1, rfl, h⟩ := zz_f1_ok h
    exact zz_from zc_m_workers (zz_occ zo_m_m_in (zz_occ zo_m_m_atWork zz_oc0)) (zz_olc (zo_m_workers_30 zz_fu) zz_ol0) ((ze_m_workers v1 σ).symm.trans h)
noncomputable def zw_m_workers : List Int → zz_S → zz_R := zz_f2 fun a0 a1 σ => if a0 = 1 then m_workers a1 σ else none
theorem zo_m_m_workers : zz_okm zz_inf 142 zw_m_workers := fun vs σ r τ h => by
  obtain ⟨a0, a1, rfl, h⟩ := zz_f2_ok h
  obtain ⟨e, h⟩ := zz_it h
  subst e
  exact zz_meth zi_m_workers zy_m_workers (zo_m_workers [a1] σ r τ h)
def zk_m_group : List zz_E := [(0, false, .iload_n 1, 1, 0, (0, 0, 0, 0), 0, []),
  (1, false, .iconst 1, 1, 0, (0, 0, 0, 0), 0, []),
  (2, false, .bipush 8, 2, 0, (0, 0, 0, 0), 0, []),
  (4, false, .invokestatic 174, 3, 1021, (108, 3, 0, 0), 0, [0, 0, 0]),
  (7, false, .ifCond .ne 6, 3, 0, (13, 0, 0, 0), 0, []),
  (10, false, .bipush (-2), 2, 0, (0, 0, 0, 0), 0, []),
  (12, false, .ireturn, 1, 0, (0, 0, 0, 0), 0, []),
  (13, false, .aload_n 0, 1, 0, (0, 0, 0, 0), 0, []),
  (14, false, .getfield 315, 3, 801, (40, 7, 0, 0), 0, []),
  (17, false, .bipush 8, 2, 0, (0, 0, 0, 0), 0, []),
  (19, false, .if_icmp .ne 6, 3, 0, (25, 0, 0, 0), 0, []),
  (22, false, .bipush (-4), 2, 0, (0, 0, 0, 0), 0, []),
  (24, false, .ireturn, 1, 0, (0, 0, 0, 0), 0, []),
  (25, false, .aload_n 0, 1, 0, (0, 0, 0, 0), 0, []),
  (26, false, .getfield 23, 3, 802, (40, 8, 45, 1), 0, []),
  (29, false, .aload_n 0, 1, 0, (0, 0, 0, 0), 0, []),
  (30, false, .getfield 315, 3, 801, (40, 7, 0, 0), 0, []),
  (33, false, .iload_n 1, 1, 0, (0, 0, 0, 0), 0, []),
  (34, false, .iastore, 1, 0, (43, 0, 0, 0), 0, []),
  (35, false, .aload_n 0, 1, 0, (0, 0, 0, 0), 0, []),
  (36, false, .dup, 1, 0, (0, 0, 0, 0), 0, []),
  (37, false, .getfield 315, 3, 801, (40, 7, 0, 0), 0, []),
  (40, false, .dup_x1, 1, 0, (0, 0, 0, 0), 0, []),
  (41, false, .iconst 1, 1, 0, (0, 0, 0, 0), 0, []),
  (42, false, .iadd, 1, 0, (0, 0, 0, 0), 0, []),
  (43, false, .putfield 315, 3, 801, (40, 7, 0, 0), 0, []),
  (46, false, .ireturn, 1, 0, (0, 0, 0, 0), 0, [])]
theorem zc_m_group : zk_m_group.all (zz_ck zz_inf zM_m_group) = true ∧ zz_ch zk_m_group = true := ⟨by decide +kernel, by decide +kernel⟩
noncomputable def m_group (v1 : Int) (σ : zz_S) : zz_R := ((m_in v1 1 8 σ).bind fun q1 => (if q1.1 = 0 then (some ((-2), q1.2)) else (if (zz_h q1.2 40 1 7) = 8 then (some ((-4), q1.2)) else (if zz_b q1.2 43 1 (zz_h q1.2 40 1 7) then (let s2 := zz_w q1.2 43 1 (zz_h q1.2 40 1 7) v1; (let s3 := zz_w s2 40 1 7 (zz_r ((zz_h s2 40 1 7) + 1)); (some ((zz_h s2 40 1 7), s3)))) else none))))
set_option maxRecDepth 100000 in
set_option maxHeartbeats 4000000 in
theorem ze_m_group (v1 : Int) (σ : zz_S) : m_group v1 σ = zz_ev (zz_CE [(108, zw_m_in)]) (zz_KE []) zk_m_group 0 false 0 1 400 true (zz_sk zk_m_group 0) [(0, 42, 1), (1, 0, v1)] [] σ := rfl
theorem zo_m_group : zz_okb zM_m_group 0 [(0, 42, true), (1, 0, false)] (zz_f1 m_group) :=
  fun vs σ r τ h => by
    obtain ⟨v1, rfl, h⟩ := zz_f1_ok h
    exact zz_from zc_m_group (zz_occ zo_m_m_in zz_oc0) zz_ol0 ((ze_m_group v1 σ).symm.trans h)
noncomputable def zw_m_group : List Int → zz_S → zz_R := zz_f2 fun a0 a1 σ => if a0 = 1 then m_group a1 σ else none
theorem zo_m_m_group : zz_okm zz_inf 143 zw_m_group := fun vs σ r τ h => by
  obtain ⟨a0, a1, rfl, h⟩ := zz_f2_ok h
  obtain ⟨e, h⟩ := zz_it h
  subst e
  exact zz_meth zi_m_group zy_m_group (zo_m_group [a1] σ r τ h)
def zk_m_task : List zz_E := [(0, false, .iload_n 1, 1, 0, (0, 0, 0, 0), 0, []),
  (1, false, .iconst 0, 1, 0, (0, 0, 0, 0), 0, []),
  (2, false, .iconst 4, 1, 0, (0, 0, 0, 0), 0, []),
  (3, false, .invokestatic 174, 3, 1021, (108, 3, 0, 0), 0, [0, 0, 0]),
  (6, false, .ifCond .eq 42, 3, 0, (48, 0, 0, 0), 0, []),
  (9, false, .iload_n 1, 1, 0, (0, 0, 0, 0), 0, []),
  (10, false, .iconst 2, 1, 0, (0, 0, 0, 0), 0, []),
  (11, false, .if_icmp .gt 16, 3, 0, (27, 0, 0, 0), 0, []),
  (14, false, .iload_n 2, 1, 0, (0, 0, 0, 0), 0, []),
  (15, false, .aload_n 0, 1, 0, (0, 0, 0, 0), 0, []),
  (16, false, .getfield 250, 3, 794, (40, 0, 0, 0), 0, []),
  (19, false, .ldc 209, 2, 1000, (0, 0, 0, 0), 400000, []),
  (21, false, .invokestatic 174, 3, 1021, (108, 3, 0, 0), 0, [0, 0, 0]),
  (24, false, .ifCond .eq 24, 3, 0, (48, 0, 0, 0), 0, []),
  (27, true, .iload_n 1, 1, 0, (0, 0, 0, 0), 0, []),
  (28, false, .iconst 1, 1, 0, (0, 0, 0, 0), 0, []),
  (29, false, .if_icmp .eq 8, 3, 0, (37, 0, 0, 0), 0, []),
  (32, false, .iload_n 1, 1, 0, (0, 0, 0, 0), 0, []),
  (33, false, .iconst 2, 1, 0, (0, 0, 0, 0), 0, []),
  (34, false, .if_icmp .ne 17, 3, 0, (51, 0, 0, 0), 0, []),
  (37, false, .iload_n 3, 1, 0, (0, 0, 0, 0), 0, []),
  (38, false, .iconst 1, 1, 0, (0, 0, 0, 0), 0, []),
  (39, false, .ldc_w 318, 3, 1127, (0, 0, 0, 0), 100000, []),
  (42, false, .invokestatic 174, 3, 1021, (108, 3, 0, 0), 0, [0, 0, 0]),
  (45, false, .ifCond .ne 6, 3, 0, (51, 0, 0, 0), 0, []),
  (48, false, .bipush (-2), 2, 0, (0, 0, 0, 0), 0, []),
  (50, false, .ireturn, 1, 0, (0, 0, 0, 0), 0, []),
  (51, true, .aload_n 0, 1, 0, (0, 0, 0, 0), 0, []),
  (52, false, .getfield 171, 3, 803, (40, 9, 0, 0), 0, []),
  (55, false, .bipush 60, 2, 0, (0, 0, 0, 0), 0, []),
  (57, false, .if_icmp .ne 6, 3, 0, (63, 0, 0, 0), 0, []),
  (60, false, .bipush (-4), 2, 0, (0, 0, 0, 0), 0, []),
  (62, false, .ireturn, 1, 0, (0, 0, 0, 0), 0, []),
  (63, false, .aload_n 0, 1, 0, (0, 0, 0, 0), 0, []),
  (64, false, .dup, 1, 0, (0, 0, 0, 0), 0, []),
  (65, false, .getfield 171, 3, 803, (40, 9, 0, 0), 0, []),
  (68, false, .dup_x1, 1, 0, (0, 0, 0, 0), 0, []),
  (69, false, .iconst 1, 1, 0, (0, 0, 0, 0), 0, []),
  (70, false, .iadd, 1, 0, (0, 0, 0, 0), 0, []),
  (71, false, .putfield 171, 3, 803, (40, 9, 0, 0), 0, []),
  (74, false, .istore 4, 2, 0, (0, 0, 0, 0), 0, []),
  (76, false, .aload_n 0, 1, 0, (0, 0, 0, 0), 0, []),
  (77, false, .getfield 26, 3, 804, (40, 10, 46, 1), 0, []),
  (80, false, .iload 4, 2, 0, (0, 0, 0, 0), 0, []),
  (82, false, .iload_n 1, 1, 0, (0, 0, 0, 0), 0, []),
  (83, false, .iastore, 1, 0, (44, 0, 0, 0), 0, []),
  (84, false, .aload_n 0, 1, 0, (0, 0, 0, 0), 0, []),
  (85, false, .getfield 29, 3, 805, (40, 11, 47, 1), 0, []),
  (88, false, .iload 4, 2, 0, (0, 0, 0, 0), 0, []),
  (90, false, .iload_n 2, 1, 0, (0, 0, 0, 0), 0, []),
  (91, false, .iastore, 1, 0, (45, 0, 0, 0), 0, []),
  (92, false, .aload_n 0, 1, 0, (0, 0, 0, 0), 0, []),
  (93, false, .getfield 32, 3, 806, (40, 12, 48, 1), 0, []),
  (96, false, .iload 4, 2, 0, (0, 0, 0, 0), 0, []),
  (98, false, .iload_n 3, 1, 0, (0, 0, 0, 0), 0, []),
  (99, false, .iastore, 1, 0, (46, 0, 0, 0), 0, []),
  (100, false, .aload_n 0, 1, 0, (0, 0, 0, 0), 0, []),
  (101, false, .getfield 35, 3, 807, (40, 13, 49, 1), 0, []),
  (104, false, .iload 4, 2, 0, (0, 0, 0, 0), 0, []),
  (106, false, .iconst 1, 1, 0, (0, 0, 0, 0), 0, []),
  (107, false, .iastore, 1, 0, (47, 0, 0, 0), 0, []),
  (108, false, .aload_n 0, 1, 0, (0, 0, 0, 0), 0, []),
  (109, false, .getfield 41, 3, 809, (40, 15, 51, 1), 0, []),
  (112, false, .iload 4, 2, 0, (0, 0, 0, 0), 0, []),
  (114, false, .iconst (-1), 1, 0, (0, 0, 0, 0), 0, []),
  (115, false, .iastore, 1, 0, (49, 0, 0, 0), 0, []),
  (116, false, .aload_n 0, 1, 0, (0, 0, 0, 0), 0, []),
  (117, false, .getfield 65, 3, 817, (40, 23, 59, 1), 0, []),
  (120, false, .iload 4, 2, 0, (0, 0, 0, 0), 0, []),
  (122, false, .iload_n 1, 1, 0, (0, 0, 0, 0), 0, []),
  (123, false, .iconst 2, 1, 0, (0, 0, 0, 0), 0, []),
  (124, false, .if_icmp .ne 7, 3, 0, (131, 0, 0, 0), 0, []),
  (127, false, .iload_n 2, 1, 0, (0, 0, 0, 0), 0, []),
  (128, false, .goto 4, 3, 0, (132, 0, 0, 0), 0, []),
  (131, false, .iconst (-1), 1, 0, (0, 0, 0, 0), 0, []),
  (132, false, .iastore, 1, 0, (57, 0, 0, 0), 0, []),
  (133, false, .aload_n 0, 1, 0, (0, 0, 0, 0), 0, []),
  (134, false, .getfield 74, 3, 820, (40, 26, 62, 1), 0, []),
  (137, false, .iload 4, 2, 0, (0, 0, 0, 0), 0, []),
  (139, false, .iconst (-1), 1, 0, (0, 0, 0, 0), 0, []),
  (140, false, .iastore, 1, 0, (60, 0, 0, 0), 0, []),
  (141, false, .iload 4, 2, 0, (0, 0, 0, 0), 0, []),
  (143, false, .ireturn, 1, 0, (0, 0, 0, 0), 0, [])]
theorem zc_m_task : zk_m_task.all (zz_ck zz_inf zM_m_task) = true ∧ zz_ch zk_m_task = true := ⟨by decide +kernel, by decide +kernel⟩
noncomputable def m_task_51 (v1 v2 v3 : Int) (σ : zz_S) : zz_R := (if (zz_h σ 40 1 9) = 60 then (some ((-4), σ)) else (let s1 := zz_w σ 40 1 9 (zz_r ((zz_h σ 40 1 9) + 1)); (if zz_b s1 44 1 (zz_h σ 40 1 9) then (let s2 := zz_w s1 44 1 (zz_h σ 40 1 9) v1; (if zz_b s2 45 1 (zz_h σ 40 1 9) then (let s3 := zz_w s2 45 1 (zz_h σ 40 1 9) v2; (if zz_b s3 46 1 (zz_h σ 40 1 9) then (let s4 := zz_w s3 46 1 (zz_h σ 40 1 9) v3; (if zz_b s4 47 1 (zz_h σ 40 1 9) then (let s5 := zz_w s4 47 1 (zz_h σ 40 1 9) 1; (if zz_b s5 49 1 (zz_h σ 40 1 9) then (let s6 := zz_w s5 49 1 (zz_h σ 40 1 9) (-1); (if v1 = 2 then (if zz_b s6 57 1 (zz_h σ 40 1 9) then (let s7 := zz_w s6 57 1 (zz_h σ 40 1 9) v2; (if zz_b s7 60 1 (zz_h σ 40 1 9) then (let s8 := zz_w s7 60 1 (zz_h σ 40 1 9) (-1); (some ((zz_h σ 40 1 9), s8))) else none)) else none) else (if zz_b s6 57 1 (zz_h σ 40 1 9) then (let s9 := zz_w s6 57 1 (zz_h σ 40 1 9) (-1); (if zz_b s9 60 1 (zz_h σ 40 1 9) then (let s10 := zz_w s9 60 1 (zz_h σ 40 1 9) (-1); (some ((zz_h σ 40 1 9), s10))) else none)) else none))) else none)) else none)) else none)) else none)) else none)))
set_option maxRecDepth 100000 in
set_option maxHeartbeats 4000000 in
theorem ze_m_task_51 (v1 v2 v3 : Int) (σ : zz_S) : m_task_51 v1 v2 v3 σ = zz_ev (zz_CE []) (zz_KE []) zk_m_task 0 false 0 1 400 true (zz_sk zk_m_task 51) [(0, 42, 1), (1, 0, v1), (2, 0, v2), (3, 0, v3)] [] σ := rfl
theorem zo_m_task_51 : zz_okb zM_m_task 51 [(0, 42, true), (1, 0, false), (2, 0, false), (3, 0, false)] (zz_f3 m_task_51) :=
  fun vs σ r τ h => by
    obtain ⟨v1, v2, v3, rfl, h⟩ := zz_f3_ok h
    exact zz_from zc_m_task zz_oc0 zz_ol0 ((ze_m_task_51 v1 v2 v3 σ).symm.trans h)
noncomputable def m_task_27 (v1 v2 v3 : Int) (σ : zz_S) : zz_R := (if v1 = 1 then ((m_in v3 1 100000 σ).bind fun q1 => (if q1.1 = 0 then (some ((-2), q1.2)) else (m_task_51 v1 v2 v3 q1.2))) else (if v1 = 2 then ((m_in v3 1 100000 σ).bind fun q2 => (if q2.1 = 0 then (some ((-2), q2.2)) else (m_task_51 v1 v2 v3 q2.2))) else (m_task_51 v1 v2 v3 σ)))
set_option maxRecDepth 100000 in
set_option maxHeartbeats 4000000 in
theorem ze_m_task_27 (v1 v2 v3 : Int) (σ : zz_S) : m_task_27 v1 v2 v3 σ = zz_ev (zz_CE [(108, zw_m_in)]) (zz_KE [(51, [(0, 42, true), (1, 0, false), (2, 0, false), (3, 0, false)], zz_f3 (m_task_51))]) zk_m_task 0 false 0 1 400 true (zz_sk zk_m_task 27) [(0, 42, 1), (1, 0, v1), (2, 0, v2), (3, 0, v3)] [] σ := rfl
theorem zo_m_task_27 : zz_okb zM_m_task 27 [(0, 42, true), (1, 0, false), (2, 0, false), (3, 0, false)] (zz_f3 m_task_27) :=
  fun vs σ r τ h => by
    obtain ⟨v1, v2, v3, rfl, h⟩ := zz_f3_ok h
    exact zz_from zc_m_task (zz_occ zo_m_m_in zz_oc0) (zz_olc (zo_m_task_51) zz_ol0) ((ze_m_task_27 v1 v2 v3 σ).symm.trans h)
noncomputable def m_task (v1 v2 v3 : Int) (σ : zz_S) : zz_R := ((m_in v1 0 4 σ).bind fun q1 => (if q1.1 = 0 then (some ((-2), q1.2)) else (if v1 ≤ 2 then ((m_in v2 (zz_h q1.2 40 1 0) 400000 q1.2).bind fun q2 => (if q2.1 = 0 then (some ((-2), q2.2)) else (m_task_27 v1 v2 v3 q2.2))) else (m_task_27 v1 v2 v3 q1.2))))
set_option maxRecDepth 100000 in
set_option maxHeartbeats 4000000 in
theorem ze_m_task (v1 v2 v3 : Int) (σ : zz_S) : m_task v1 v2 v3 σ = zz_ev (zz_CE [(108, zw_m_in)]) (zz_KE [(27, [(0, 42, true), (1, 0, false), (2, 0, false), (3, 0, false)], zz_f3 (m_task_27))]) zk_m_task 0 false 0 1 400 true (zz_sk zk_m_task 0) [(0, 42, 1), (1, 0, v1), (2, 0, v2), (3, 0, v3)] [] σ := rfl
theorem zo_m_task : zz_okb zM_m_task 0 [(0, 42, true), (1, 0, false), (2, 0, false), (3, 0, false)] (zz_f3 m_task) :=
  fun vs σ r τ h => by
    obtain ⟨v1, v2, v3, rfl, h⟩ := zz_f3_ok h
    exact zz_from zc_m_task (zz_occ zo_m_m_in zz_oc0) (zz_olc (zo_m_task_27) zz_ol0) ((ze_m_task v1 v2 v3 σ).symm.trans h)
noncomputable def zw_m_task : List Int → zz_S → zz_R := zz_f4 fun a0 a1 a2 a3 σ => if a0 = 1 then m_task a1 a2 a3 σ else none
theorem zo_m_m_task : zz_okm zz_inf 144 zw_m_task := fun vs σ r τ h => by
  obtain ⟨a0, a1, a2, a3, rfl, h⟩ := zz_f4_ok h
  obtain ⟨e, h⟩ := zz_it h
  subst e
  exact zz_meth zi_m_task zy_m_task (zo_m_task [a1, a2, a3] σ r τ h)
def zk_m_set : List zz_E := [(0, false, .aload_n 0, 1, 0, (0, 0, 0, 0), 0, []),
  (1, false, .iload_n 1, 1, 0, (0, 0, 0, 0), 0, []),
  (2, false, .invokevirtual 262, 3, 1017, (109, 2, 0, 0), 0, [0, 42]),
  (5, false, .ifCond .ne 6, 3, 0, (11, 0, 0, 0), 0, []),
  (8, false, .bipush (-2), 2, 0, (0, 0, 0, 0), 0, []),
  (10, false, .ireturn, 1, 0, (0, 0, 0, 0), 0, []),
  (11, false, .iload_n 2, 1, 0, (0, 0, 0, 0), 0, []),
  (12, false, .tableswitch 227 0 5 #[40, 71, 102, 137, 167, 197], 40, 0, (239, 0, 0, 0), 0, [52, 83, 114, 149, 179, 209]),
  (52, false, .iload_n 3, 1, 0, (0, 0, 0, 0), 0, []),
  (53, false, .iconst 1, 1, 0, (0, 0, 0, 0), 0, []),
  (54, false, .bipush 120, 2, 0, (0, 0, 0, 0), 0, []),
  (56, false, .invokestatic 174, 3, 1021, (108, 3, 0, 0), 0, [0, 0, 0]),
  (59, false, .ifCond .ne 6, 3, 0, (65, 0, 0, 0), 0, []),
  (62, false, .bipush (-2), 2, 0, (0, 0, 0, 0), 0, []),
  (64, false, .ireturn, 1, 0, (0, 0, 0, 0), 0, []),
  (65, false, .aload_n 0, 1, 0, (0, 0, 0, 0), 0, []),
  (66, false, .getfield 35, 3, 807, (40, 13, 49, 1), 0, []),
  (69, false, .iload_n 1, 1, 0, (0, 0, 0, 0), 0, []),
  (70, false, .iaload, 1, 0, (47, 0, 0, 0), 0, []),
  (71, false, .istore 4, 2, 0, (0, 0, 0, 0), 0, []),
  (73, false, .aload_n 0, 1, 0, (0, 0, 0, 0), 0, []),
  (74, false, .getfield 35, 3, 807, (40, 13, 49, 1), 0, []),
  (77, false, .iload_n 1, 1, 0, (0, 0, 0, 0), 0, []),
  (78, false, .iload_n 3, 1, 0, (0, 0, 0, 0), 0, []),
  (79, false, .iastore, 1, 0, (47, 0, 0, 0), 0, []),
  (80, false, .iload 4, 2, 0, (0, 0, 0, 0), 0, []),
  (82, false, .ireturn, 1, 0, (0, 0, 0, 0), 0, []),
  (83, false, .iload_n 3, 1, 0, (0, 0, 0, 0), 0, []),
  (84, false, .iconst 0, 1, 0, (0, 0, 0, 0), 0, []),
  (85, false, .bipush 9, 2, 0, (0, 0, 0, 0), 0, []),
  (87, false, .invokestatic 174, 3, 1021, (108, 3, 0, 0), 0, [0, 0, 0]),
  (90, false, .ifCond .ne 6, 3, 0, (96, 0, 0, 0), 0, []),
  (93, false, .bipush (-2), 2, 0, (0, 0, 0, 0), 0, []),
  (95, false, .ireturn, 1, 0, (0, 0, 0, 0), 0, []),
  (96, false, .aload_n 0, 1, 0, (0, 0, 0, 0), 0, []),
  (97, false, .getfield 38, 3, 808, (40, 14, 50, 1), 0, []),
  (100, false, .iload_n 1, 1, 0, (0, 0, 0, 0), 0, []),
  (101, false, .iaload, 1, 0, (48, 0, 0, 0), 0, []),
  (102, false, .istore 4, 2, 0, (0, 0, 0, 0), 0, []),
  (104, false, .aload_n 0, 1, 0, (0, 0, 0, 0), 0, []),
  (105, false, .getfield 38, 3, 808, (40, 14, 50, 1), 0, []),
  (108, false, .iload_n 1, 1, 0, (0, 0, 0, 0), 0, []),
  (109, false, .iload_n 3, 1, 0, (0, 0, 0, 0), 0, []),
  (110, false, .iastore, 1, 0, (48, 0, 0, 0), 0, []),
  (111, false, .iload 4, 2, 0, (0, 0, 0, 0), 0, []),
  (113, false, .ireturn, 1, 0, (0, 0, 0, 0), 0, []),
  (114, false, .iload_n 3, 1, 0, (0, 0, 0, 0), 0, []),
  (115, false, .iconst (-1), 1, 0, (0, 0, 0, 0), 0, []),
  (116, false, .aload_n 0, 1, 0, (0, 0, 0, 0), 0, []),
  (117, false, .getfield 315, 3, 801, (40, 7, 0, 0), 0, []),
  (120, false, .iconst 1, 1, 0, (0, 0, 0, 0), 0, []),
  (121, false, .isub, 1, 0, (0, 0, 0, 0), 0, []),
  (122, false, .invokestatic 174, 3, 1021, (108, 3, 0, 0), 0, [0, 0, 0]),
  (125, false, .ifCond .ne 6, 3, 0, (131, 0, 0, 0), 0, []),
  (128, false, .bipush (-2), 2, 0, (0, 0, 0, 0), 0, []),
  (130, false, .ireturn, 1, 0, (0, 0, 0, 0), 0, []),
  (131, false, .aload_n 0, 1, 0, (0, 0, 0, 0), 0, []),
  (132, false, .getfield 41, 3, 809, (40, 15, 51, 1), 0, []),
  (135, false, .iload_n 1, 1, 0, (0, 0, 0, 0), 0, []),
  (136, false, .iaload, 1, 0, (49, 0, 0, 0), 0, []),
  (137, false, .istore 4, 2, 0, (0, 0, 0, 0), 0, []),
  (139, false, .aload_n 0, 1, 0, (0, 0, 0, 0), 0, []),
  (140, false, .getfield 41, 3, 809, (40, 15, 51, 1), 0, []),
  (143, false, .iload_n 1, 1, 0, (0, 0, 0, 0), 0, []),
  (144, false, .iload_n 3, 1, 0, (0, 0, 0, 0), 0, []),
  (145, false, .iastore, 1, 0, (49, 0, 0, 0), 0, []),
  (146, false, .iload 4, 2, 0, (0, 0, 0, 0), 0, []),
  (148, false, .ireturn, 1, 0, (0, 0, 0, 0), 0, []),
  (149, false, .iload_n 3, 1, 0, (0, 0, 0, 0), 0, []),
  (150, false, .iconst 0, 1, 0, (0, 0, 0, 0), 0, []),
  (151, false, .iconst 2, 1, 0, (0, 0, 0, 0), 0, []),
  (152, false, .invokestatic 174, 3, 1021, (108, 3, 0, 0), 0, [0, 0, 0]),
  (155, false, .ifCond .ne 6, 3, 0, (161, 0, 0, 0), 0, []),
  (158, false, .bipush (-2), 2, 0, (0, 0, 0, 0), 0, []),
  (160, false, .ireturn, 1, 0, (0, 0, 0, 0), 0, []),
  (161, false, .aload_n 0, 1, 0, (0, 0, 0, 0), 0, []),
  (162, false, .getfield 44, 3, 810, (40, 16, 52, 1), 0, []),
  (165, false, .iload_n 1, 1, 0, (0, 0, 0, 0), 0, []),
  (166, false, .iaload, 1, 0, (50, 0, 0, 0), 0, []),
  (167, false, .istore 4, 2, 0, (0, 0, 0, 0), 0, []),
  (169, false, .aload_n 0, 1, 0, (0, 0, 0, 0), 0, []),
  (170, false, .getfield 44, 3, 810, (40, 16, 52, 1), 0, []),
  (173, false, .iload_n 1, 1, 0, (0, 0, 0, 0), 0, []),
  (174, false, .iload_n 3, 1, 0, (0, 0, 0, 0), 0, []),
  (175, false, .iastore, 1, 0, (50, 0, 0, 0), 0, []),
  (176, false, .iload 4, 2, 0, (0, 0, 0, 0), 0, []),
  (178, false, .ireturn, 1, 0, (0, 0, 0, 0), 0, []),
  (179, false, .iload_n 3, 1, 0, (0, 0, 0, 0), 0, []),
  (180, false, .iconst 0, 1, 0, (0, 0, 0, 0), 0, []),
  (181, false, .iconst 2, 1, 0, (0, 0, 0, 0), 0, []),
  (182, false, .invokestatic 174, 3, 1021, (108, 3, 0, 0), 0, [0, 0, 0]),
  (185, false, .ifCond .ne 6, 3, 0, (191, 0, 0, 0), 0, []),
  (188, false, .bipush (-2), 2, 0, (0, 0, 0, 0), 0, []),
  (190, false, .ireturn, 1, 0, (0, 0, 0, 0), 0, []),
  (191, false, .aload_n 0, 1, 0, (0, 0, 0, 0), 0, []),
  (192, false, .getfield 47, 3, 811, (40, 17, 53, 1), 0, []),
  (195, false, .iload_n 1, 1, 0, (0, 0, 0, 0), 0, []),
  (196, false, .iaload, 1, 0, (51, 0, 0, 0), 0, []),
  (197, false, .istore 4, 2, 0, (0, 0, 0, 0), 0, []),
  (199, false, .aload_n 0, 1, 0, (0, 0, 0, 0), 0, []),
  (200, false, .getfield 47, 3, 811, (40, 17, 53, 1), 0, []),
  (203, false, .iload_n 1, 1, 0, (0, 0, 0, 0), 0, []),
  (204, false, .iload_n 3, 1, 0, (0, 0, 0, 0), 0, []),
  (205, false, .iastore, 1, 0, (51, 0, 0, 0), 0, []),
  (206, false, .iload 4, 2, 0, (0, 0, 0, 0), 0, []),
  (208, false, .ireturn, 1, 0, (0, 0, 0, 0), 0, []),
  (209, false, .iload_n 3, 1, 0, (0, 0, 0, 0), 0, []),
  (210, false, .iconst 0, 1, 0, (0, 0, 0, 0), 0, []),
  (211, false, .iconst 2, 1, 0, (0, 0, 0, 0), 0, []),
  (212, false, .invokestatic 174, 3, 1021, (108, 3, 0, 0), 0, [0, 0, 0]),
  (215, false, .ifCond .ne 6, 3, 0, (221, 0, 0, 0), 0, []),
  (218, false, .bipush (-2), 2, 0, (0, 0, 0, 0), 0, []),
  (220, false, .ireturn, 1, 0, (0, 0, 0, 0), 0, []),
  (221, false, .aload_n 0, 1, 0, (0, 0, 0, 0), 0, []),
  (222, false, .getfield 50, 3, 812, (40, 18, 54, 1), 0, []),
  (225, false, .iload_n 1, 1, 0, (0, 0, 0, 0), 0, []),
  (226, false, .iaload, 1, 0, (52, 0, 0, 0), 0, []),
  (227, false, .istore 4, 2, 0, (0, 0, 0, 0), 0, []),
  (229, false, .aload_n 0, 1, 0, (0, 0, 0, 0), 0, []),
  (230, false, .getfield 50, 3, 812, (40, 18, 54, 1), 0, []),
  (233, false, .iload_n 1, 1, 0, (0, 0, 0, 0), 0, []),
  (234, false, .iload_n 3, 1, 0, (0, 0, 0, 0), 0, []),
  (235, false, .iastore, 1, 0, (52, 0, 0, 0), 0, []),
  (236, false, .iload 4, 2, 0, (0, 0, 0, 0), 0, []),
  (238, false, .ireturn, 1, 0, (0, 0, 0, 0), 0, []),
  (239, false, .bipush (-2), 2, 0, (0, 0, 0, 0), 0, []),
  (241, false, .ireturn, 1, 0, (0, 0, 0, 0), 0, [])]
theorem zc_m_set : zk_m_set.all (zz_ck zz_inf zM_m_set) = true ∧ zz_ch zk_m_set = true := ⟨by decide +kernel, by decide +kernel⟩
noncomputable def m_set (v1 v2 v3 : Int) (σ : zz_S) : zz_R := ((m_isTask v1 σ).bind fun q1 => (if q1.1 = 0 then (some ((-2), q1.2)) else (if v2 = 0 then ((m_in v3 1 120 q1.2).bind fun q12 => (if q12.1 = 0 then (some ((-2), q12.2)) else (if zz_b q12.2 47 1 v1 then (if zz_b q12.2 47 1 v1 then (let s13 := zz_w q12.2 47 1 v1 v3; (some ((zz_h q12.2 47 1 v1), s13))) else none) else none))) else (if v2 = 1 then ((m_in v3 0 9 q1.2).bind fun q10 => (if q10.1 = 0 then (some ((-2), q10.2)) else (if zz_b q10.2 48 1 v1 then (if zz_b q10.2 48 1 v1 then (let s11 := zz_w q10.2 48 1 v1 v3; (some ((zz_h q10.2 48 1 v1), s11))) else none) else none))) else (if v2 = 2 then ((m_in v3 (-1) (zz_r ((zz_h q1.2 40 1 7) - 1)) q1.2).bind fun q8 => (if q8.1 = 0 then (some ((-2), q8.2)) else (if zz_b q8.2 49 1 v1 then (if zz_b q8.2 49 1 v1 then (let s9 := zz_w q8.2 49 1 v1 v3; (some ((zz_h q8.2 49 1 v1), s9))) else none) else none))) else (if v2 = 3 then ((m_in v3 0 2 q1.2).bind fun q6 => (if q6.1 = 0 then (some ((-2), q6.2)) else (if zz_b q6.2 50 1 v1 then (if zz_b q6.2 50 1 v1 then (let s7 := zz_w q6.2 50 1 v1 v3; (some ((zz_h q6.2 50 1 v1), s7))) else none) else none))) else (if v2 = 4 then ((m_in v3 0 2 q1.2).bind fun q4 => (if q4.1 = 0 then (some ((-2), q4.2)) else (if zz_b q4.2 51 1 v1 then (if zz_b q4.2 51 1 v1 then (let s5 := zz_w q4.2 51 1 v1 v3; (some ((zz_h q4.2 51 1 v1), s5))) else none) else none))) else (if v2 = 5 then ((m_in v3 0 2 q1.2).bind fun q2 => (if q2.1 = 0 then (some ((-2), q2.2)) else (if zz_b q2.2 52 1 v1 then (if zz_b q2.2 52 1 v1 then (let s3 := zz_w q2.2 52 1 v1 v3; (some ((zz_h q2.2 52 1 v1), s3))) else none) else none))) else (some ((-2), q1.2))))))))))
set_option maxRecDepth 100000 in
set_option maxHeartbeats 4000000 in
theorem ze_m_set (v1 v2 v3 : Int) (σ : zz_S) : m_set v1 v2 v3 σ = zz_ev (zz_CE [(108, zw_m_in), (109, zw_m_isTask)]) (zz_KE []) zk_m_set 0 false 0 1 400 true (zz_sk zk_m_set 0) [(0, 42, 1), (1, 0, v1), (2, 0, v2), (3, 0, v3)] [] σ := rfl
theorem zo_m_set : zz_okb zM_m_set 0 [(0, 42, true), (1, 0, false), (2, 0, false), (3, 0, false)] (zz_f3 m_set) :=
  fun vs σ r τ h => by
    obtain ⟨v1, v2, v3, rfl, h⟩ := zz_f3_ok h
    exact zz_from zc_m_set (zz_occ zo_m_m_in (zz_occ zo_m_m_isTask zz_oc0)) zz_ol0 ((ze_m_set v1 v2 v3 σ).symm.trans h)
noncomputable def zw_m_set : List Int → zz_S → zz_R := zz_f4 fun a0 a1 a2 a3 σ => if a0 = 1 then m_set a1 a2 a3 σ else none
theorem zo_m_m_set : zz_okm zz_inf 145 zw_m_set := fun vs σ r τ h => by
  obtain ⟨a0, a1, a2, a3, rfl, h⟩ := zz_f4_ok h
  obtain ⟨e, h⟩ := zz_it h
  subst e
  exact zz_meth zi_m_set zy_m_set (zo_m_set [a1, a2, a3] σ r τ h)
def zk_m_isForm : List zz_E := [(0, false, .iload_n 0, 1, 0, (0, 0, 0, 0), 0, []),
  (1, false, .tableswitch 175 0 8 #[51, 59, 67, 98, 106, 132, 140, 142, 167], 51, 0, (176, 0, 0, 0), 0, [52, 60, 68, 99, 107, 133, 141, 143, 168]),
  (52, false, .iload_n 1, 1, 0, (0, 0, 0, 0), 0, []),
  (53, false, .iconst 0, 1, 0, (0, 0, 0, 0), 0, []),
  (54, false, .bipush 59, 2, 0, (0, 0, 0, 0), 0, []),
  (56, false, .invokestatic 174, 3, 1021, (108, 3, 0, 0), 0, [0, 0, 0]),
  (59, false, .ireturn, 1, 0, (0, 0, 0, 0), 0, []),
  (60, false, .iload_n 1, 1, 0, (0, 0, 0, 0), 0, []),
  (61, false, .iconst 0, 1, 0, (0, 0, 0, 0), 0, []),
  (62, false, .bipush 23, 2, 0, (0, 0, 0, 0), 0, []),
  (64, false, .invokestatic 174, 3, 1021, (108, 3, 0, 0), 0, [0, 0, 0]),
  (67, false, .ireturn, 1, 0, (0, 0, 0, 0), 0, []),
  (68, false, .iload_n 1, 1, 0, (0, 0, 0, 0), 0, []),
  (69, false, .iconst 0, 1, 0, (0, 0, 0, 0), 0, []),
  (70, false, .bipush 23, 2, 0, (0, 0, 0, 0), 0, []),
  (72, false, .invokestatic 174, 3, 1021, (108, 3, 0, 0), 0, [0, 0, 0]),
  (75, false, .ifCond .eq 22, 3, 0, (97, 0, 0, 0), 0, []),
  (78, false, .iload_n 2, 1, 0, (0, 0, 0, 0), 0, []),
  (79, false, .iconst 0, 1, 0, (0, 0, 0, 0), 0, []),
  (80, false, .bipush 23, 2, 0, (0, 0, 0, 0), 0, []),
  (82, false, .invokestatic 174, 3, 1021, (108, 3, 0, 0), 0, [0, 0, 0]),
  (85, false, .ifCond .eq 12, 3, 0, (97, 0, 0, 0), 0, []),
  (88, false, .iload_n 1, 1, 0, (0, 0, 0, 0), 0, []),
  (89, false, .iload_n 2, 1, 0, (0, 0, 0, 0), 0, []),
  (90, false, .if_icmp .gt 7, 3, 0, (97, 0, 0, 0), 0, []),
  (93, false, .iconst 1, 1, 0, (0, 0, 0, 0), 0, []),
  (94, false, .goto 4, 3, 0, (98, 0, 0, 0), 0, []),
  (97, false, .iconst 0, 1, 0, (0, 0, 0, 0), 0, []),
  (98, false, .ireturn, 1, 0, (0, 0, 0, 0), 0, []),
  (99, false, .iload_n 1, 1, 0, (0, 0, 0, 0), 0, []),
  (100, false, .iconst 0, 1, 0, (0, 0, 0, 0), 0, []),
  (101, false, .bipush 6, 2, 0, (0, 0, 0, 0), 0, []),
  (103, false, .invokestatic 174, 3, 1021, (108, 3, 0, 0), 0, [0, 0, 0]),
  (106, false, .ireturn, 1, 0, (0, 0, 0, 0), 0, []),
  (107, false, .iload_n 1, 1, 0, (0, 0, 0, 0), 0, []),
  (108, false, .iconst 0, 1, 0, (0, 0, 0, 0), 0, []),
  (109, false, .bipush 6, 2, 0, (0, 0, 0, 0), 0, []),
  (111, false, .invokestatic 174, 3, 1021, (108, 3, 0, 0), 0, [0, 0, 0]),
  (114, false, .ifCond .eq 17, 3, 0, (131, 0, 0, 0), 0, []),
  (117, false, .iload_n 2, 1, 0, (0, 0, 0, 0), 0, []),
  (118, false, .iconst 0, 1, 0, (0, 0, 0, 0), 0, []),
  (119, false, .bipush 6, 2, 0, (0, 0, 0, 0), 0, []),
  (121, false, .invokestatic 174, 3, 1021, (108, 3, 0, 0), 0, [0, 0, 0]),
  (124, false, .ifCond .eq 7, 3, 0, (131, 0, 0, 0), 0, []),
  (127, false, .iconst 1, 1, 0, (0, 0, 0, 0), 0, []),
  (128, false, .goto 4, 3, 0, (132, 0, 0, 0), 0, []),
  (131, false, .iconst 0, 1, 0, (0, 0, 0, 0), 0, []),
  (132, false, .ireturn, 1, 0, (0, 0, 0, 0), 0, []),
  (133, false, .iload_n 1, 1, 0, (0, 0, 0, 0), 0, []),
  (134, false, .iconst 1, 1, 0, (0, 0, 0, 0), 0, []),
  (135, false, .bipush 31, 2, 0, (0, 0, 0, 0), 0, []),
  (137, false, .invokestatic 174, 3, 1021, (108, 3, 0, 0), 0, [0, 0, 0]),
  (140, false, .ireturn, 1, 0, (0, 0, 0, 0), 0, []),
  (141, false, .iconst 1, 1, 0, (0, 0, 0, 0), 0, []),
  (142, false, .ireturn, 1, 0, (0, 0, 0, 0), 0, []),
  (143, false, .iload_n 1, 1, 0, (0, 0, 0, 0), 0, []),
  (144, false, .iconst 1, 1, 0, (0, 0, 0, 0), 0, []),
  (145, false, .iconst 5, 1, 0, (0, 0, 0, 0), 0, []),
  (146, false, .invokestatic 174, 3, 1021, (108, 3, 0, 0), 0, [0, 0, 0]),
  (149, false, .ifCond .eq 17, 3, 0, (166, 0, 0, 0), 0, []),
  (152, false, .iload_n 2, 1, 0, (0, 0, 0, 0), 0, []),
  (153, false, .iconst 0, 1, 0, (0, 0, 0, 0), 0, []),
  (154, false, .bipush 6, 2, 0, (0, 0, 0, 0), 0, []),
  (156, false, .invokestatic 174, 3, 1021, (108, 3, 0, 0), 0, [0, 0, 0]),
  (159, false, .ifCond .eq 7, 3, 0, (166, 0, 0, 0), 0, []),
  (162, false, .iconst 1, 1, 0, (0, 0, 0, 0), 0, []),
  (163, false, .goto 4, 3, 0, (167, 0, 0, 0), 0, []),
  (166, false, .iconst 0, 1, 0, (0, 0, 0, 0), 0, []),
  (167, false, .ireturn, 1, 0, (0, 0, 0, 0), 0, []),
  (168, false, .iload_n 1, 1, 0, (0, 0, 0, 0), 0, []),
  (169, false, .iconst 1, 1, 0, (0, 0, 0, 0), 0, []),
  (170, false, .bipush 12, 2, 0, (0, 0, 0, 0), 0, []),
  (172, false, .invokestatic 174, 3, 1021, (108, 3, 0, 0), 0, [0, 0, 0]),
  (175, false, .ireturn, 1, 0, (0, 0, 0, 0), 0, []),
  (176, false, .iconst 0, 1, 0, (0, 0, 0, 0), 0, []),
  (177, false, .ireturn, 1, 0, (0, 0, 0, 0), 0, [])]
theorem zc_m_isForm : zk_m_isForm.all (zz_ck zz_inf zM_m_isForm) = true ∧ zz_ch zk_m_isForm = true := ⟨by decide +kernel, by decide +kernel⟩
noncomputable def m_isForm (v0 v1 v2 : Int) (σ : zz_S) : zz_R := (if v0 = 0 then ((m_in v1 0 59 σ).bind fun q11 => (if zz_o q11.1 then (some (q11.1, q11.2)) else none)) else (if v0 = 1 then ((m_in v1 0 23 σ).bind fun q10 => (if zz_o q10.1 then (some (q10.1, q10.2)) else none)) else (if v0 = 2 then ((m_in v1 0 23 σ).bind fun q8 => (if q8.1 = 0 then (some (0, q8.2)) else ((m_in v2 0 23 q8.2).bind fun q9 => (if q9.1 = 0 then (some (0, q9.2)) else (if v1 ≤ v2 then (some (1, q9.2)) else (some (0, q9.2))))))) else (if v0 = 3 then ((m_in v1 0 6 σ).bind fun q7 => (if zz_o q7.1 then (some (q7.1, q7.2)) else none)) else (if v0 = 4 then ((m_in v1 0 6 σ).bind fun q5 => (if q5.1 = 0 then (some (0, q5.2)) else ((m_in v2 0 6 q5.2).bind fun q6 => (if q6.1 = 0 then (some (0, q6.2)) else (some (1, q6.2)))))) else (if v0 = 5 then ((m_in v1 1 31 σ).bind fun q4 => (if zz_o q4.1 then (some (q4.1, q4.2)) else none)) else (if v0 = 6 then (some (1, σ)) else (if v0 = 7 then ((m_in v1 1 5 σ).bind fun q2 => (if q2.1 = 0 then (some (0, q2.2)) else ((m_in v2 0 6 q2.2).bind fun q3 => (if q3.1 = 0 then (some (0, q3.2)) else (some (1, q3.2)))))) else (if v0 = 8 then ((m_in v1 1 12 σ).bind fun q1 => (if zz_o q1.1 then (some (q1.1, q1.2)) else none)) else (some (0, σ)))))))))))
set_option maxRecDepth 100000 in
set_option maxHeartbeats 4000000 in
theorem ze_m_isForm (v0 v1 v2 : Int) (σ : zz_S) : m_isForm v0 v1 v2 σ = zz_ev (zz_CE [(108, zw_m_in)]) (zz_KE []) zk_m_isForm 0 true 0 1 400 true (zz_sk zk_m_isForm 0) [(0, 0, v0), (1, 0, v1), (2, 0, v2)] [] σ := rfl
theorem zo_m_isForm : zz_okb zM_m_isForm 0 [(0, 0, false), (1, 0, false), (2, 0, false)] (zz_f3 m_isForm) :=
  fun vs σ r τ h => by
    obtain ⟨v0, v1, v2, rfl, h⟩ := zz_f3_ok h
    exact zz_from zc_m_isForm (zz_occ zo_m_m_in zz_oc0) zz_ol0 ((ze_m_isForm v0 v1 v2 σ).symm.trans h)
noncomputable def zw_m_isForm : List Int → zz_S → zz_R := zz_f3 fun a0 a1 a2 σ => m_isForm a0 a1 a2 σ
theorem zo_m_m_isForm : zz_okm zz_inf 146 zw_m_isForm := fun vs σ r τ h => by
  obtain ⟨a0, a1, a2, rfl, h⟩ := zz_f3_ok h
  exact zz_meth zi_m_isForm zy_m_isForm (zo_m_isForm [a0, a1, a2] σ r τ h)
def zk_m_calendar : List zz_E := [(0, false, .aload_n 0, 1, 0, (0, 0, 0, 0), 0, []),
  (1, false, .iload_n 1, 1, 0, (0, 0, 0, 0), 0, []),
  (2, false, .invokevirtual 262, 3, 1017, (109, 2, 0, 0), 0, [0, 42]),
  (5, false, .ifCond .eq 23, 3, 0, (28, 0, 0, 0), 0, []),
  (8, false, .aload_n 0, 1, 0, (0, 0, 0, 0), 0, []),
  (9, false, .getfield 26, 3, 804, (40, 10, 46, 1), 0, []),
  (12, false, .iload_n 1, 1, 0, (0, 0, 0, 0), 0, []),
  (13, false, .iaload, 1, 0, (44, 0, 0, 0), 0, []),
  (14, false, .iconst 3, 1, 0, (0, 0, 0, 0), 0, []),
  (15, false, .if_icmp .ne 13, 3, 0, (28, 0, 0, 0), 0, []),
  (18, false, .iload_n 2, 1, 0, (0, 0, 0, 0), 0, []),
  (19, false, .iload_n 3, 1, 0, (0, 0, 0, 0), 0, []),
  (20, false, .iload 4, 2, 0, (0, 0, 0, 0), 0, []),
  (22, false, .invokestatic 319, 3, 1136, (146, 3, 0, 0), 0, [0, 0, 0]),
  (25, false, .ifCond .ne 6, 3, 0, (31, 0, 0, 0), 0, []),
  (28, false, .bipush (-2), 2, 0, (0, 0, 0, 0), 0, []),
  (30, false, .ireturn, 1, 0, (0, 0, 0, 0), 0, []),
  (31, false, .aload_n 0, 1, 0, (0, 0, 0, 0), 0, []),
  (32, false, .getfield 87, 3, 824, (40, 30, 66, 1), 0, []),
  (35, false, .iload_n 1, 1, 0, (0, 0, 0, 0), 0, []),
  (36, false, .iaload, 1, 0, (64, 0, 0, 0), 0, []),
  (37, false, .iconst 4, 1, 0, (0, 0, 0, 0), 0, []),
  (38, false, .if_icmp .ne 6, 3, 0, (44, 0, 0, 0), 0, []),
  (41, false, .bipush (-4), 2, 0, (0, 0, 0, 0), 0, []),
  (43, false, .ireturn, 1, 0, (0, 0, 0, 0), 0, []),
  (44, false, .iconst 4, 1, 0, (0, 0, 0, 0), 0, []),
  (45, false, .iload_n 1, 1, 0, (0, 0, 0, 0), 0, []),
  (46, false, .imul, 1, 0, (0, 0, 0, 0), 0, []),
  (47, false, .aload_n 0, 1, 0, (0, 0, 0, 0), 0, []),
  (48, false, .getfield 87, 3, 824, (40, 30, 66, 1), 0, []),
  (51, false, .iload_n 1, 1, 0, (0, 0, 0, 0), 0, []),
  (52, false, .iaload, 1, 0, (64, 0, 0, 0), 0, []),
  (53, false, .iadd, 1, 0, (0, 0, 0, 0), 0, []),
  (54, false, .istore 5, 2, 0, (0, 0, 0, 0), 0, []),
  (56, false, .aload_n 0, 1, 0, (0, 0, 0, 0), 0, []),
  (57, false, .getfield 90, 3, 825, (40, 31, 67, 1), 0, []),
  (60, false, .iload 5, 2, 0, (0, 0, 0, 0), 0, []),
  (62, false, .iload_n 2, 1, 0, (0, 0, 0, 0), 0, []),
  (63, false, .iastore, 1, 0, (65, 0, 0, 0), 0, []),
  (64, false, .aload_n 0, 1, 0, (0, 0, 0, 0), 0, []),
  (65, false, .getfield 93, 3, 826, (40, 32, 68, 1), 0, []),
  (68, false, .iload 5, 2, 0, (0, 0, 0, 0), 0, []),
  (70, false, .iload_n 3, 1, 0, (0, 0, 0, 0), 0, []),
  (71, false, .iastore, 1, 0, (66, 0, 0, 0), 0, []),
  (72, false, .aload_n 0, 1, 0, (0, 0, 0, 0), 0, []),
  (73, false, .getfield 96, 3, 827, (40, 33, 69, 1), 0, []),
  (76, false, .iload 5, 2, 0, (0, 0, 0, 0), 0, []),
  (78, false, .iload 4, 2, 0, (0, 0, 0, 0), 0, []),
  (80, false, .iastore, 1, 0, (67, 0, 0, 0), 0, []),
  (81, false, .aload_n 0, 1, 0, (0, 0, 0, 0), 0, []),
  (82, false, .getfield 87, 3, 824, (40, 30, 66, 1), 0, []),
  (85, false, .iload_n 1, 1, 0, (0, 0, 0, 0), 0, []),
  (86, false, .dup2, 1, 0, (0, 0, 0, 0), 0, []),
  (87, false, .iaload, 1, 0, (64, 0, 0, 0), 0, []),
  (88, false, .iconst 1, 1, 0, (0, 0, 0, 0), 0, []),
  (89, false, .iadd, 1, 0, (0, 0, 0, 0), 0, []),
  (90, false, .dup_x2, 1, 0, (0, 0, 0, 0), 0, []),
  (91, false, .iastore, 1, 0, (64, 0, 0, 0), 0, []),
  (92, false, .ireturn, 1, 0, (0, 0, 0, 0), 0, [])]
theorem zc_m_calendar : zk_m_calendar.all (zz_ck zz_inf zM_m_calendar) = true ∧ zz_ch zk_m_calendar = true := ⟨by decide +kernel, by decide +kernel⟩
noncomputable def m_calendar (v1 v2 v3 v4 : Int) (σ : zz_S) : zz_R := ((m_isTask v1 σ).bind fun q1 => (if q1.1 = 0 then (some ((-2), q1.2)) else (if zz_b q1.2 44 1 v1 then (if (zz_h q1.2 44 1 v1) = 3 then ((m_isForm v2 v3 v4 q1.2).bind fun q2 => (if q2.1 = 0 then (some ((-2), q2.2)) else (if zz_b q2.2 64 1 v1 then (if (zz_h q2.2 64 1 v1) = 4 then (some ((-4), q2.2)) else (if zz_b q2.2 64 1 v1 then (if zz_b q2.2 65 1 (zz_r ((zz_r (4 * v1)) + (zz_h q2.2 64 1 v1))) then (let s3 := zz_w q2.2 65 1 (zz_r ((zz_r (4 * v1)) + (zz_h q2.2 64 1 v1))) v2; (if zz_b s3 66 1 (zz_r ((zz_r (4 * v1)) + (zz_h q2.2 64 1 v1))) then (let s4 := zz_w s3 66 1 (zz_r ((zz_r (4 * v1)) + (zz_h q2.2 64 1 v1))) v3; (if zz_b s4 67 1 (zz_r ((zz_r (4 * v1)) + (zz_h q2.2 64 1 v1))) then (let s5 := zz_w s4 67 1 (zz_r ((zz_r (4 * v1)) + (zz_h q2.2 64 1 v1))) v4; (if zz_b s5 64 1 v1 then (if zz_b s5 64 1 v1 then (let s6 := zz_w s5 64 1 v1 (zz_r ((zz_h s5 64 1 v1) + 1)); (some ((zz_r ((zz_h s5 64 1 v1) + 1)), s6))) else none) else none)) else none)) else none)) else none) else none)) else none))) else (some ((-2), q1.2))) else none)))
set_option maxRecDepth 100000 in
set_option maxHeartbeats 4000000 in
theorem ze_m_calendar (v1 v2 v3 v4 : Int) (σ : zz_S) : m_calendar v1 v2 v3 v4 σ = zz_ev (zz_CE [(109, zw_m_isTask), (146, zw_m_isForm)]) (zz_KE []) zk_m_calendar 0 false 0 1 400 true (zz_sk zk_m_calendar 0) [(0, 42, 1), (1, 0, v1), (2, 0, v2), (3, 0, v3), (4, 0, v4)] [] σ := rfl
theorem zo_m_calendar : zz_okb zM_m_calendar 0 [(0, 42, true), (1, 0, false), (2, 0, false), (3, 0, false), (4, 0, false)] (zz_f4 m_calendar) :=
  fun vs σ r τ h => by
    obtain ⟨v1, v2, v3, v4, rfl, h⟩ := zz_f4_ok h
    exact zz_from zc_m_calendar (zz_occ zo_m_m_isTask (zz_occ zo_m_m_isForm zz_oc0)) zz_ol0 ((ze_m_calendar v1 v2 v3 v4 σ).symm.trans h)
noncomputable def zw_m_calendar : List Int → zz_S → zz_R := zz_f5 fun a0 a1 a2 a3 a4 σ => if a0 = 1 then m_calendar a1 a2 a3 a4 σ else none
theorem zo_m_m_calendar : zz_okm zz_inf 147 zw_m_calendar := fun vs σ r τ h => by
  obtain ⟨a0, a1, a2, a3, a4, rfl, h⟩ := zz_f5_ok h
  obtain ⟨e, h⟩ := zz_it h
  subst e
  exact zz_meth zi_m_calendar zy_m_calendar (zo_m_calendar [a1, a2, a3, a4] σ r τ h)
def zk_m_body : List zz_E := [(0, false, .aload_n 0, 1, 0, (0, 0, 0, 0), 0, []),
  (1, false, .iload_n 1, 1, 0, (0, 0, 0, 0), 0, []),
  (2, false, .invokevirtual 262, 3, 1017, (109, 2, 0, 0), 0, [0, 42]),
  (5, false, .ifCond .eq 13, 3, 0, (18, 0, 0, 0), 0, []),
  (8, false, .iload_n 2, 1, 0, (0, 0, 0, 0), 0, []),
  (9, false, .iconst 0, 1, 0, (0, 0, 0, 0), 0, []),
  (10, false, .bipush 6, 2, 0, (0, 0, 0, 0), 0, []),
  (12, false, .invokestatic 174, 3, 1021, (108, 3, 0, 0), 0, [0, 0, 0]),
  (15, false, .ifCond .ne 6, 3, 0, (21, 0, 0, 0), 0, []),
  (18, false, .bipush (-2), 2, 0, (0, 0, 0, 0), 0, []),
  (20, false, .ireturn, 1, 0, (0, 0, 0, 0), 0, []),
  (21, false, .aload_n 0, 1, 0, (0, 0, 0, 0), 0, []),
  (22, false, .getfield 53, 3, 813, (40, 19, 55, 1), 0, []),
  (25, false, .iload_n 1, 1, 0, (0, 0, 0, 0), 0, []),
  (26, false, .iaload, 1, 0, (53, 0, 0, 0), 0, []),
  (27, false, .istore 5, 2, 0, (0, 0, 0, 0), 0, []),
  (29, false, .aload_n 0, 1, 0, (0, 0, 0, 0), 0, []),
  (30, false, .getfield 53, 3, 813, (40, 19, 55, 1), 0, []),
  (33, false, .iload_n 1, 1, 0, (0, 0, 0, 0), 0, []),
  (34, false, .iload_n 2, 1, 0, (0, 0, 0, 0), 0, []),
  (35, false, .iastore, 1, 0, (53, 0, 0, 0), 0, []),
  (36, false, .aload_n 0, 1, 0, (0, 0, 0, 0), 0, []),
  (37, false, .getfield 56, 3, 814, (40, 20, 56, 1), 0, []),
  (40, false, .iload_n 1, 1, 0, (0, 0, 0, 0), 0, []),
  (41, false, .iload_n 3, 1, 0, (0, 0, 0, 0), 0, []),
  (42, false, .iastore, 1, 0, (54, 0, 0, 0), 0, []),
  (43, false, .aload_n 0, 1, 0, (0, 0, 0, 0), 0, []),
  (44, false, .getfield 59, 3, 815, (40, 21, 57, 1), 0, []),
  (47, false, .iload_n 1, 1, 0, (0, 0, 0, 0), 0, []),
  (48, false, .iload 4, 2, 0, (0, 0, 0, 0), 0, []),
  (50, false, .iastore, 1, 0, (55, 0, 0, 0), 0, []),
  (51, false, .iload 5, 2, 0, (0, 0, 0, 0), 0, []),
  (53, false, .ireturn, 1, 0, (0, 0, 0, 0), 0, [])]
theorem zc_m_body : zk_m_body.all (zz_ck zz_inf zM_m_body) = true ∧ zz_ch zk_m_body = true := ⟨by decide +kernel, by decide +kernel⟩
noncomputable def m_body (v1 v2 v3 v4 : Int) (σ : zz_S) : zz_R := ((m_isTask v1 σ).bind fun q1 => (if q1.1 = 0 then (some ((-2), q1.2)) else ((m_in v2 0 6 q1.2).bind fun q2 => (if q2.1 = 0 then (some ((-2), q2.2)) else (if zz_b q2.2 53 1 v1 then (if zz_b q2.2 53 1 v1 then (let s3 := zz_w q2.2 53 1 v1 v2; (if zz_b s3 54 1 v1 then (let s4 := zz_w s3 54 1 v1 v3; (if zz_b s4 55 1 v1 then (let s5 := zz_w s4 55 1 v1 v4; (some ((zz_h q2.2 53 1 v1), s5))) else none)) else none)) else none) else none)))))
set_option maxRecDepth 100000 in
set_option maxHeartbeats 4000000 in
theorem ze_m_body (v1 v2 v3 v4 : Int) (σ : zz_S) : m_body v1 v2 v3 v4 σ = zz_ev (zz_CE [(108, zw_m_in), (109, zw_m_isTask)]) (zz_KE []) zk_m_body 0 false 0 1 400 true (zz_sk zk_m_body 0) [(0, 42, 1), (1, 0, v1), (2, 0, v2), (3, 0, v3), (4, 0, v4)] [] σ := rfl
theorem zo_m_body : zz_okb zM_m_body 0 [(0, 42, true), (1, 0, false), (2, 0, false), (3, 0, false), (4, 0, false)] (zz_f4 m_body) :=
  fun vs σ r τ h => by
    obtain ⟨v1, v2, v3, v4, rfl, h⟩ := zz_f4_ok h
    exact zz_from zc_m_body (zz_occ zo_m_m_in (zz_occ zo_m_m_isTask zz_oc0)) zz_ol0 ((ze_m_body v1 v2 v3 v4 σ).symm.trans h)
noncomputable def zw_m_body : List Int → zz_S → zz_R := zz_f5 fun a0 a1 a2 a3 a4 σ => if a0 = 1 then m_body a1 a2 a3 a4 σ else none
theorem zo_m_m_body : zz_okm zz_inf 148 zw_m_body := fun vs σ r τ h => by
  obtain ⟨a0, a1, a2, a3, a4, rfl, h⟩ := zz_f5_ok h
  obtain ⟨e, h⟩ := zz_it h
  subst e
  exact zz_meth zi_m_body zy_m_body (zo_m_body [a1, a2, a3, a4] σ r τ h)
def zk_m_leads : List zz_E := [(0, false, .iconst 0, 1, 0, (0, 0, 0, 0), 0, []),
  (1, false, .istore_n 3, 1, 0, (0, 0, 0, 0), 0, []),
  (2, true, .iload_n 3, 1, 0, (0, 0, 0, 0), 0, []),
  (3, false, .aload_n 0, 1, 0, (0, 0, 0, 0), 0, []),
  (4, false, .getfield 171, 3, 803, (40, 9, 0, 0), 0, []),
  (7, false, .if_icmp .ge 16, 3, 0, (23, 0, 0, 0), 0, []),
  (10, false, .aload_n 0, 1, 0, (0, 0, 0, 0), 0, []),
  (11, false, .getfield 168, 3, 855, (40, 61, 93, 1), 0, []),
  (14, false, .iload_n 3, 1, 0, (0, 0, 0, 0), 0, []),
  (15, false, .iconst 0, 1, 0, (0, 0, 0, 0), 0, []),
  (16, false, .bastore, 1, 0, (91, 0, 0, 0), 0, []),
  (17, false, .iinc 3 1, 3, 0, (0, 0, 0, 0), 0, []),
  (20, false, .goto (-18), 3, 0, (2, 0, 0, 0), 0, []),
  (23, false, .aload_n 0, 1, 0, (0, 0, 0, 0), 0, []),
  (24, false, .getfield 168, 3, 855, (40, 61, 93, 1), 0, []),
  (27, false, .iload_n 1, 1, 0, (0, 0, 0, 0), 0, []),
  (28, false, .iconst 1, 1, 0, (0, 0, 0, 0), 0, []),
  (29, false, .bastore, 1, 0, (91, 0, 0, 0), 0, []),
  (30, false, .iconst 1, 1, 0, (0, 0, 0, 0), 0, []),
  (31, false, .istore_n 3, 1, 0, (0, 0, 0, 0), 0, []),
  (32, true, .iload_n 3, 1, 0, (0, 0, 0, 0), 0, []),
  (33, false, .ifCond .eq 98, 3, 0, (131, 0, 0, 0), 0, []),
  (36, false, .iconst 0, 1, 0, (0, 0, 0, 0), 0, []),
  (37, false, .istore_n 3, 1, 0, (0, 0, 0, 0), 0, []),
  (38, false, .iconst 0, 1, 0, (0, 0, 0, 0), 0, []),
  (39, false, .istore 4, 2, 0, (0, 0, 0, 0), 0, []),
  (41, true, .iload 4, 2, 0, (0, 0, 0, 0), 0, []),
  (43, false, .aload_n 0, 1, 0, (0, 0, 0, 0), 0, []),
  (44, false, .getfield 171, 3, 803, (40, 9, 0, 0), 0, []),
  (47, false, .if_icmp .ge 81, 3, 0, (128, 0, 0, 0), 0, []),
  (50, false, .aload_n 0, 1, 0, (0, 0, 0, 0), 0, []),
  (51, false, .getfield 168, 3, 855, (40, 61, 93, 1), 0, []),
  (54, false, .iload 4, 2, 0, (0, 0, 0, 0), 0, []),
  (56, false, .baload, 1, 0, (91, 0, 0, 0), 0, []),
  (57, false, .ifCond .ne 6, 3, 0, (63, 0, 0, 0), 0, []),
  (60, false, .goto 62, 3, 0, (122, 0, 0, 0), 0, []),
  (63, false, .iconst 4, 1, 0, (0, 0, 0, 0), 0, []),
  (64, false, .iload 4, 2, 0, (0, 0, 0, 0), 0, []),
  (66, false, .imul, 1, 0, (0, 0, 0, 0), 0, []),
  (67, false, .istore 5, 2, 0, (0, 0, 0, 0), 0, []),
  (69, true, .iload 5, 2, 0, (0, 0, 0, 0), 0, []),
  (71, false, .iconst 4, 1, 0, (0, 0, 0, 0), 0, []),
  (72, false, .iload 4, 2, 0, (0, 0, 0, 0), 0, []),
  (74, false, .imul, 1, 0, (0, 0, 0, 0), 0, []),
  (75, false, .aload_n 0, 1, 0, (0, 0, 0, 0), 0, []),
  (76, false, .getfield 99, 3, 828, (40, 34, 70, 1), 0, []),
  (79, false, .iload 4, 2, 0, (0, 0, 0, 0), 0, []),
  (81, false, .iaload, 1, 0, (68, 0, 0, 0), 0, []),
  (82, false, .iadd, 1, 0, (0, 0, 0, 0), 0, []),
  (83, false, .if_icmp .ge 39, 3, 0, (122, 0, 0, 0), 0, []),
  (86, false, .aload_n 0, 1, 0, (0, 0, 0, 0), 0, []),
  (87, false, .getfield 168, 3, 855, (40, 61, 93, 1), 0, []),
  (90, false, .aload_n 0, 1, 0, (0, 0, 0, 0), 0, []),
  (91, false, .getfield 102, 3, 829, (40, 35, 71, 1), 0, []),
  (94, false, .iload 5, 2, 0, (0, 0, 0, 0), 0, []),
  (96, false, .iaload, 1, 0, (69, 0, 0, 0), 0, []),
  (97, false, .baload, 1, 0, (91, 0, 0, 0), 0, []),
  (98, false, .ifCond .ne 18, 3, 0, (116, 0, 0, 0), 0, []),
  (101, false, .aload_n 0, 1, 0, (0, 0, 0, 0), 0, []),
  (102, false, .getfield 168, 3, 855, (40, 61, 93, 1), 0, []),
  (105, false, .aload_n 0, 1, 0, (0, 0, 0, 0), 0, []),
  (106, false, .getfield 102, 3, 829, (40, 35, 71, 1), 0, []),
  (109, false, .iload 5, 2, 0, (0, 0, 0, 0), 0, []),
  (111, false, .iaload, 1, 0, (69, 0, 0, 0), 0, []),
  (112, false, .iconst 1, 1, 0, (0, 0, 0, 0), 0, []),
  (113, false, .bastore, 1, 0, (91, 0, 0, 0), 0, []),
  (114, false, .iconst 1, 1, 0, (0, 0, 0, 0), 0, []),
  (115, false, .istore_n 3, 1, 0, (0, 0, 0, 0), 0, []),
  (116, false, .iinc 5 1, 3, 0, (0, 0, 0, 0), 0, []),
  (119, false, .goto (-50), 3, 0, (69, 0, 0, 0), 0, []),
  (122, false, .iinc 4 1, 3, 0, (0, 0, 0, 0), 0, []),
  (125, false, .goto (-84), 3, 0, (41, 0, 0, 0), 0, []),
  (128, false, .goto (-96), 3, 0, (32, 0, 0, 0), 0, []),
  (131, false, .aload_n 0, 1, 0, (0, 0, 0, 0), 0, []),
  (132, false, .getfield 168, 3, 855, (40, 61, 93, 1), 0, []),
  (135, false, .iload_n 2, 1, 0, (0, 0, 0, 0), 0, []),
  (136, false, .baload, 1, 0, (91, 0, 0, 0), 0, []),
  (137, false, .ireturn, 1, 0, (0, 0, 0, 0), 0, [])]
theorem zc_m_leads : zk_m_leads.all (zz_ck zz_inf zM_m_leads) = true ∧ zz_ch zk_m_leads = true := ⟨by decide +kernel, by decide +kernel⟩
noncomputable def m_leads_69 (k32 : Int → Int → zz_S → zz_R) (k41 : Int → Int → Int → zz_S → zz_R) : Nat → Int → Int → Int → Int → zz_S → zz_R
  | 0, _, _, _, _, _ => none
  | n + 1, v2, v3, v4, v5, σ => (if zz_b σ 68 1 v4 then (if v5 < (zz_r ((zz_r (4 * v4)) + (zz_h σ 68 1 v4))) then (if zz_b σ 69 1 v5 then (if zz_b σ 91 1 (zz_h σ 69 1 v5) then (if (zz_h σ 91 1 (zz_h σ 69 1 v5)) = 0 then (if zz_b σ 69 1 v5 then (if zz_b σ 91 1 (zz_h σ 69 1 v5) then (let s1 := zz_w σ 91 1 (zz_h σ 69 1 v5) 1; (m_leads_69 k32 k41 n v2 1 v4 (zz_r (v5 + 1)) s1)) else none) else none) else (m_leads_69 k32 k41 n v2 v3 v4 (zz_r (v5 + 1)) σ)) else none) else none) else (k41 v2 v3 (zz_r (v4 + 1)) σ)) else none)
set_option maxRecDepth 100000 in
set_option maxHeartbeats 4000000 in
theorem ze_m_leads_69 (k32 : Int → Int → zz_S → zz_R) (k41 : Int → Int → Int → zz_S → zz_R) (n : Nat) (v2 v3 v4 v5 : Int) (σ : zz_S) : m_leads_69 k32 k41 (n + 1) v2 v3 v4 v5 σ = zz_ev (zz_CE []) (zz_KE [(41, [(0, 42, true), (2, 0, false), (3, 0, false), (4, 0, false)], zz_f3 k41), (69, [(0, 42, true), (2, 0, false), (3, 0, false), (4, 0, false), (5, 0, false)], zz_f4 (m_leads_69 k32 k41 n))]) zk_m_leads 0 true 0 1 400 true (zz_sk zk_m_leads 69) [(0, 42, 1), (2, 0, v2), (3, 0, v3), (4, 0, v4), (5, 0, v5)] [] σ := rfl
theorem zo_m_leads_69 (k32 : Int → Int → zz_S → zz_R) (k41 : Int → Int → Int → zz_S → zz_R) (hk32 : zz_okb zM_m_leads 32 [(0, 42, true), (2, 0, false), (3, 0, false)] (zz_f2 k32)) (hk41 : zz_okb zM_m_leads 41 [(0, 42, true), (2, 0, false), (3, 0, false), (4, 0, false)] (zz_f3 k41)) : ∀ n : Nat, zz_okb zM_m_leads 69 [(0, 42, true), (2, 0, false), (3, 0, false), (4, 0, false), (5, 0, false)] (zz_f4 (m_leads_69 k32 k41 n))
  | 0 => fun vs σ r τ h => by
    obtain ⟨v2, v3, v4, v5, rfl, h⟩ := zz_f4_ok h
    exact nomatch (show (none : zz_R) = some (r, τ) from h)
  | n + 1 => by
    have ih := zo_m_leads_69 k32 k41 hk32 hk41 n
    exact fun vs σ r τ h => by
        obtain ⟨v2, v3, v4, v5, rfl, h⟩ := zz_f4_ok h
        exact zz_from zc_m_leads zz_oc0 (zz_olc hk41 (zz_olc ih zz_ol0)) ((ze_m_leads_69 k32 k41 n v2 v3 v4 v5 σ).symm.trans h)
noncomputable def m_leads_41 (k32 : Int → Int → zz_S → zz_R) : Nat → Int → Int → Int → zz_S → zz_R
  | 0, _, _, _, _ => none
  | n + 1, v2, v3, v4, σ => (if v4 < (zz_h σ 40 1 9) then (if zz_b σ 91 1 v4 then (if (zz_h σ 91 1 v4) = 0 then (m_leads_41 k32 n v2 v3 (zz_r (v4 + 1)) σ) else (m_leads_69 k32 (m_leads_41 k32 n) zz_fu v2 v3 v4 (zz_r (4 * v4)) σ)) else none) else (k32 v2 v3 σ))
set_option maxRecDepth 100000 in
set_option maxHeartbeats 4000000 in
theorem ze_m_leads_41 (k32 : Int → Int → zz_S → zz_R) (n : Nat) (v2 v3 v4 : Int) (σ : zz_S) : m_leads_41 k32 (n + 1) v2 v3 v4 σ = zz_ev (zz_CE []) (zz_KE [(32, [(0, 42, true), (2, 0, false), (3, 0, false)], zz_f2 k32), (41, [(0, 42, true), (2, 0, false), (3, 0, false), (4, 0, false)], zz_f3 (m_leads_41 k32 n)), (69, [(0, 42, true), (2, 0, false), (3, 0, false), (4, 0, false), (5, 0, false)], zz_f4 (m_leads_69 k32 (m_leads_41 k32 n) zz_fu))]) zk_m_leads 0 true 0 1 400 true (zz_sk zk_m_leads 41) [(0, 42, 1), (2, 0, v2), (3, 0, v3), (4, 0, v4)] [] σ := rfl
theorem zo_m_leads_41 (k32 : Int → Int → zz_S → zz_R) (hk32 : zz_okb zM_m_leads 32 [(0, 42, true), (2, 0, false), (3, 0, false)] (zz_f2 k32)) : ∀ n : Nat, zz_okb zM_m_leads 41 [(0, 42, true), (2, 0, false), (3, 0, false), (4, 0, false)] (zz_f3 (m_leads_41 k32 n))
  | 0 => fun vs σ r τ h => by
    obtain ⟨v2, v3, v4, rfl, h⟩ := zz_f3_ok h
    exact nomatch (show (none : zz_R) = some (r, τ) from h)
  | n + 1 => by
    have ih := zo_m_leads_41 k32 hk32 n
    exact fun vs σ r τ h => by
        obtain ⟨v2, v3, v4, rfl, h⟩ := zz_f3_ok h
        exact zz_from zc_m_leads zz_oc0 (zz_olc hk32 (zz_olc ih (zz_olc (zo_m_leads_69 k32 (m_leads_41 k32 n) hk32 ih zz_fu) zz_ol0))) ((ze_m_leads_41 k32 n v2 v3 v4 σ).symm.trans h)
noncomputable def m_leads_32 : Nat → Int → Int → zz_S → zz_R
  | 0, _, _, _ => none
  | n + 1, v2, v3, σ => (if v3 = 0 then (if zz_b σ 91 1 v2 then (if zz_o (zz_h σ 91 1 v2) then (some ((zz_h σ 91 1 v2), σ)) else none) else none) else (m_leads_41 (m_leads_32 n) zz_fu v2 0 0 σ))
set_option maxRecDepth 100000 in
set_option maxHeartbeats 4000000 in
theorem ze_m_leads_32 (n : Nat) (v2 v3 : Int) (σ : zz_S) : m_leads_32 (n + 1) v2 v3 σ = zz_ev (zz_CE []) (zz_KE [(41, [(0, 42, true), (2, 0, false), (3, 0, false), (4, 0, false)], zz_f3 (m_leads_41 (m_leads_32 n) zz_fu))]) zk_m_leads 0 true 0 1 400 true (zz_sk zk_m_leads 32) [(0, 42, 1), (2, 0, v2), (3, 0, v3)] [] σ := rfl
theorem zo_m_leads_32 : ∀ n : Nat, zz_okb zM_m_leads 32 [(0, 42, true), (2, 0, false), (3, 0, false)] (zz_f2 (m_leads_32 n))
  | 0 => fun vs σ r τ h => by
    obtain ⟨v2, v3, rfl, h⟩ := zz_f2_ok h
    exact nomatch (show (none : zz_R) = some (r, τ) from h)
  | n + 1 => by
    have ih := zo_m_leads_32 n
    exact fun vs σ r τ h => by
        obtain ⟨v2, v3, rfl, h⟩ := zz_f2_ok h
        exact zz_from zc_m_leads zz_oc0 (zz_olc (zo_m_leads_41 (m_leads_32 n) ih zz_fu) zz_ol0) ((ze_m_leads_32 n v2 v3 σ).symm.trans h)
noncomputable def m_leads_2 : Nat → Int → Int → Int → zz_S → zz_R
  | 0, _, _, _, _ => none
  | n + 1, v1, v2, v3, σ => (if v3 < (zz_h σ 40 1 9) then (if zz_b σ 91 1 v3 then (let s1 := zz_w σ 91 1 v3 0; (m_leads_2 n v1 v2 (zz_r (v3 + 1)) s1)) else none) else (if zz_b σ 91 1 v1 then (let s2 := zz_w σ 91 1 v1 1; (m_leads_32 zz_fu v2 1 s2)) else none))
set_option maxRecDepth 100000 in
set_option maxHeartbeats 4000000 in
theorem ze_m_leads_2 (n : Nat) (v1 v2 v3 : Int) (σ : zz_S) : m_leads_2 (n + 1) v1 v2 v3 σ = zz_ev (zz_CE []) (zz_KE [(2, [(0, 42, true), (1, 0, false), (2, 0, false), (3, 0, false)], zz_f3 (m_leads_2 n)), (32, [(0, 42, true), (2, 0, false), (3, 0, false)], zz_f2 (m_leads_32 zz_fu))]) zk_m_leads 0 true 0 1 400 true (zz_sk zk_m_leads 2) [(0, 42, 1), (1, 0, v1), (2, 0, v2), (3, 0, v3)] [] σ := rfl
theorem zo_m_leads_2 : ∀ n : Nat, zz_okb zM_m_leads 2 [(0, 42, true), (1, 0, false), (2, 0, false), (3, 0, false)] (zz_f3 (m_leads_2 n))
  | 0 => fun vs σ r τ h => by
    obtain ⟨v1, v2, v3, rfl, h⟩ := zz_f3_ok h
    exact nomatch (show (none : zz_R) = some (r, τ) from h)
  | n + 1 => by
    have ih := zo_m_leads_2 n
    exact fun vs σ r τ h => by
        obtain ⟨v1, v2, v3, rfl, h⟩ := zz_f3_ok h
        exact zz_from zc_m_leads zz_oc0 (zz_olc ih (zz_olc (zo_m_leads_32 zz_fu) zz_ol0)) ((ze_m_leads_2 n v1 v2 v3 σ).symm.trans h)
noncomputable def m_leads (v1 v2 : Int) (σ : zz_S) : zz_R := (m_leads_2 zz_fu v1 v2 0 σ)
set_option maxRecDepth 100000 in
set_option maxHeartbeats 4000000 in
theorem ze_m_leads (v1 v2 : Int) (σ : zz_S) : m_leads v1 v2 σ = zz_ev (zz_CE []) (zz_KE [(2, [(0, 42, true), (1, 0, false), (2, 0, false), (3, 0, false)], zz_f3 (m_leads_2 zz_fu))]) zk_m_leads 0 true 0 1 400 true (zz_sk zk_m_leads 0) [(0, 42, 1), (1, 0, v1), (2, 0, v2)] [] σ := rfl
theorem zo_m_leads : zz_okb zM_m_leads 0 [(0, 42, true), (1, 0, false), (2, 0, false)] (zz_f2 m_leads) :=
  fun vs σ r τ h => by
    obtain ⟨v1, v2, rfl, h⟩ := zz_f2_ok h
    exact zz_from zc_m_leads zz_oc0 (zz_olc (zo_m_leads_2 zz_fu) zz_ol0) ((ze_m_leads v1 v2 σ).symm.trans h)
noncomputable def zw_m_leads : List Int → zz_S → zz_R := zz_f3 fun a0 a1 a2 σ => if a0 = 1 then m_leads a1 a2 σ else none
theorem zo_m_m_leads : zz_okm zz_inf 149 zw_m_leads := fun vs σ r τ h => by
  obtain ⟨a0, a1, a2, rfl, h⟩ := zz_f3_ok h
  obtain ⟨e, h⟩ := zz_it h
  subst e
  exact zz_meth zi_m_leads zy_m_leads (zo_m_leads [a1, a2] σ r τ h)
