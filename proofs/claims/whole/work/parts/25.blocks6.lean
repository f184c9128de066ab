def zk_m_comes : List zz_E := [(0, false, .aload_n 0, 1, 0, (0, 0, 0, 0), 0, []),
  (1, false, .getfield 223, 3, 797, (40, 3, 0, 0), 1, []),
  (4, false, .ifCond .eq 19, 3, 0, (23, 0, 0, 0), 0, []),
  (7, false, .aload_n 0, 1, 0, (0, 0, 0, 0), 0, []),
  (8, false, .iload_n 1, 1, 0, (0, 0, 0, 0), 0, []),
  (9, false, .iload_n 2, 1, 0, (0, 0, 0, 0), 0, []),
  (10, false, .iconst 4, 1, 0, (0, 0, 0, 0), 0, []),
  (11, false, .invokevirtual 227, 3, 1052, (123, 4, 999, 0), 0, [0, 0, 0, 42]),
  (14, false, .aload_n 0, 1, 0, (0, 0, 0, 0), 0, []),
  (15, false, .iload_n 1, 1, 0, (0, 0, 0, 0), 0, []),
  (16, false, .iload_n 2, 1, 0, (0, 0, 0, 0), 0, []),
  (17, false, .invokevirtual 231, 3, 1056, (124, 3, 999, 0), 0, [0, 0, 42]),
  (20, false, .goto 131, 3, 0, (151, 0, 0, 0), 0, []),
  (23, false, .aload_n 0, 1, 0, (0, 0, 0, 0), 0, []),
  (24, false, .getfield 74, 3, 820, (40, 26, 62, 1), 0, []),
  (27, false, .iload_n 1, 1, 0, (0, 0, 0, 0), 0, []),
  (28, false, .iaload, 1, 0, (60, 0, 0, 0), 0, []),
  (29, false, .iload_n 2, 1, 0, (0, 0, 0, 0), 0, []),
  (30, false, .if_icmp .le 19, 3, 0, (49, 0, 0, 0), 0, []),
  (33, false, .aload_n 0, 1, 0, (0, 0, 0, 0), 0, []),
  (34, false, .iload_n 1, 1, 0, (0, 0, 0, 0), 0, []),
  (35, false, .iload_n 2, 1, 0, (0, 0, 0, 0), 0, []),
  (36, false, .iconst 5, 1, 0, (0, 0, 0, 0), 0, []),
  (37, false, .invokevirtual 227, 3, 1052, (123, 4, 999, 0), 0, [0, 0, 0, 42]),
  (40, false, .aload_n 0, 1, 0, (0, 0, 0, 0), 0, []),
  (41, false, .iload_n 1, 1, 0, (0, 0, 0, 0), 0, []),
  (42, false, .iload_n 2, 1, 0, (0, 0, 0, 0), 0, []),
  (43, false, .invokevirtual 231, 3, 1056, (124, 3, 999, 0), 0, [0, 0, 42]),
  (46, false, .goto 105, 3, 0, (151, 0, 0, 0), 0, []),
  (49, false, .aload_n 0, 1, 0, (0, 0, 0, 0), 0, []),
  (50, false, .getfield 44, 3, 810, (40, 16, 52, 1), 0, []),
  (53, false, .iload_n 1, 1, 0, (0, 0, 0, 0), 0, []),
  (54, false, .iaload, 1, 0, (50, 0, 0, 0), 0, []),
  (55, false, .ifCond .ne 30, 3, 0, (85, 0, 0, 0), 0, []),
  (58, false, .aload_n 0, 1, 0, (0, 0, 0, 0), 0, []),
  (59, false, .iload_n 1, 1, 0, (0, 0, 0, 0), 0, []),
  (60, false, .invokevirtual 235, 3, 1060, (112, 2, 0, 0), 0, [0, 42]),
  (63, false, .ifCond .eq 22, 3, 0, (85, 0, 0, 0), 0, []),
  (66, false, .aload_n 0, 1, 0, (0, 0, 0, 0), 0, []),
  (67, false, .getfield 68, 3, 818, (40, 24, 60, 1), 0, []),
  (70, false, .iload_n 1, 1, 0, (0, 0, 0, 0), 0, []),
  (71, false, .dup2, 1, 0, (0, 0, 0, 0), 0, []),
  (72, false, .iaload, 1, 0, (58, 0, 0, 0), 0, []),
  (73, false, .iconst 1, 1, 0, (0, 0, 0, 0), 0, []),
  (74, false, .iadd, 1, 0, (0, 0, 0, 0), 0, []),
  (75, false, .iastore, 1, 0, (58, 0, 0, 0), 0, []),
  (76, false, .aload_n 0, 1, 0, (0, 0, 0, 0), 0, []),
  (77, false, .iload_n 1, 1, 0, (0, 0, 0, 0), 0, []),
  (78, false, .iload_n 2, 1, 0, (0, 0, 0, 0), 0, []),
  (79, false, .invokevirtual 231, 3, 1056, (124, 3, 999, 0), 0, [0, 0, 42]),
  (82, false, .goto 69, 3, 0, (151, 0, 0, 0), 0, []),
  (85, true, .aload_n 0, 1, 0, (0, 0, 0, 0), 0, []),
  (86, false, .getfield 178, 3, 847, (40, 53, 0, 0), 0, []),
  (89, false, .bipush 100, 2, 0, (0, 0, 0, 0), 0, []),
  (91, false, .if_icmp .ne 20, 3, 0, (111, 0, 0, 0), 0, []),
  (94, false, .aload_n 0, 1, 0, (0, 0, 0, 0), 0, []),
  (95, false, .iload_n 1, 1, 0, (0, 0, 0, 0), 0, []),
  (96, false, .iload_n 2, 1, 0, (0, 0, 0, 0), 0, []),
  (97, false, .bipush 6, 2, 0, (0, 0, 0, 0), 0, []),
  (99, false, .invokevirtual 227, 3, 1052, (123, 4, 999, 0), 0, [0, 0, 0, 42]),
  (102, false, .aload_n 0, 1, 0, (0, 0, 0, 0), 0, []),
  (103, false, .iload_n 1, 1, 0, (0, 0, 0, 0), 0, []),
  (104, false, .iload_n 2, 1, 0, (0, 0, 0, 0), 0, []),
  (105, false, .invokevirtual 231, 3, 1056, (124, 3, 999, 0), 0, [0, 0, 42]),
  (108, false, .goto 43, 3, 0, (151, 0, 0, 0), 0, []),
  (111, false, .aload_n 0, 1, 0, (0, 0, 0, 0), 0, []),
  (112, false, .getfield 150, 3, 848, (40, 54, 87, 1), 0, []),
  (115, false, .aload_n 0, 1, 0, (0, 0, 0, 0), 0, []),
  (116, false, .getfield 178, 3, 847, (40, 53, 0, 0), 0, []),
  (119, false, .iload_n 1, 1, 0, (0, 0, 0, 0), 0, []),
  (120, false, .iastore, 1, 0, (85, 0, 0, 0), 0, []),
  (121, false, .aload_n 0, 1, 0, (0, 0, 0, 0), 0, []),
  (122, false, .getfield 153, 3, 849, (40, 55, 88, 1), 0, []),
  (125, false, .aload_n 0, 1, 0, (0, 0, 0, 0), 0, []),
  (126, false, .getfield 178, 3, 847, (40, 53, 0, 0), 0, []),
  (129, false, .iload_n 2, 1, 0, (0, 0, 0, 0), 0, []),
  (130, false, .iastore, 1, 0, (86, 0, 0, 0), 0, []),
  (131, false, .aload_n 0, 1, 0, (0, 0, 0, 0), 0, []),
  (132, false, .getfield 156, 3, 850, (40, 56, 89, 1), 0, []),
  (135, false, .aload_n 0, 1, 0, (0, 0, 0, 0), 0, []),
  (136, false, .getfield 178, 3, 847, (40, 53, 0, 0), 0, []),
  (139, false, .iconst 0, 1, 0, (0, 0, 0, 0), 0, []),
  (140, false, .bastore, 1, 0, (87, 0, 0, 0), 0, []),
  (141, false, .aload_n 0, 1, 0, (0, 0, 0, 0), 0, []),
  (142, false, .dup, 1, 0, (0, 0, 0, 0), 0, []),
  (143, false, .getfield 178, 3, 847, (40, 53, 0, 0), 0, []),
  (146, false, .iconst 1, 1, 0, (0, 0, 0, 0), 0, []),
  (147, false, .iadd, 1, 0, (0, 0, 0, 0), 0, []),
  (148, false, .putfield 178, 3, 847, (40, 53, 0, 0), 0, []),
  (151, false, .return_, 1, 0, (0, 0, 0, 0), 0, [])]
theorem zc_m_comes : zk_m_comes.all (zz_ck zz_inf zM_m_comes) = true ∧ zz_ch zk_m_comes = true := ⟨by decide +kernel, by decide +kernel⟩
noncomputable def m_comes_85 (v1 v2 : Int) (σ : zz_S) : zz_R := (if (zz_h σ 40 1 53) = 100 then ((m_books v1 v2 6 σ).bind fun q1 => ((m_dueGone v1 v2 q1.2).bind fun q2 => (some (0, q2.2)))) else (if zz_b σ 85 1 (zz_h σ 40 1 53) then (let s3 := zz_w σ 85 1 (zz_h σ 40 1 53) v1; (if zz_b s3 86 1 (zz_h s3 40 1 53) then (let s4 := zz_w s3 86 1 (zz_h s3 40 1 53) v2; (if zz_b s4 87 1 (zz_h s4 40 1 53) then (let s5 := zz_w s4 87 1 (zz_h s4 40 1 53) 0; (let s6 := zz_w s5 40 1 53 (zz_r ((zz_h s5 40 1 53) + 1)); (some (0, s6)))) else none)) else none)) else none))
set_option maxRecDepth 100000 in
set_option maxHeartbeats 4000000 in
theorem ze_m_comes_85 (v1 v2 : Int) (σ : zz_S) : m_comes_85 v1 v2 σ = zz_ev (zz_CE [(123, zw_m_books), (124, zw_m_dueGone)]) (zz_KE []) zk_m_comes 999 false 0 1 400 true (zz_sk zk_m_comes 85) [(0, 42, 1), (1, 0, v1), (2, 0, v2)] [] σ := rfl
theorem zo_m_comes_85 : zz_okb zM_m_comes 85 [(0, 42, true), (1, 0, false), (2, 0, false)] (zz_f2 m_comes_85) :=
  fun vs σ r τ h => by
    obtain ⟨v1, v2, rfl, h⟩ := zz_f2_ok h
    exact zz_from zc_m_comes (zz_occ zo_m_m_books (zz_occ zo_m_m_dueGone zz_oc0)) zz_ol0 ((ze_m_comes_85 v1 v2 σ).symm.trans h)
noncomputable def m_comes (v1 v2 : Int) (σ : zz_S) : zz_R := (if (zz_h σ 40 1 3) = 0 then (if zz_b σ 60 1 v1 then (if (zz_h σ 60 1 v1) ≤ v2 then (if zz_b σ 50 1 v1 then (if (zz_h σ 50 1 v1) = 0 then ((m_isRunning v1 σ).bind fun q1 => (if q1.1 = 0 then (m_comes_85 v1 v2 q1.2) else (if zz_b q1.2 58 1 v1 then (if zz_b q1.2 58 1 v1 then (let s2 := zz_w q1.2 58 1 v1 (zz_r ((zz_h q1.2 58 1 v1) + 1)); ((m_dueGone v1 v2 s2).bind fun q3 => (some (0, q3.2)))) else none) else none))) else (m_comes_85 v1 v2 σ)) else none) else ((m_books v1 v2 5 σ).bind fun q4 => ((m_dueGone v1 v2 q4.2).bind fun q5 => (some (0, q5.2))))) else none) else ((m_books v1 v2 4 σ).bind fun q6 => ((m_dueGone v1 v2 q6.2).bind fun q7 => (some (0, q7.2)))))
set_option maxRecDepth 100000 in
set_option maxHeartbeats 4000000 in
theorem ze_m_comes (v1 v2 : Int) (σ : zz_S) : m_comes v1 v2 σ = zz_ev (zz_CE [(112, zw_m_isRunning), (123, zw_m_books), (124, zw_m_dueGone)]) (zz_KE [(85, [(0, 42, true), (1, 0, false), (2, 0, false)], zz_f2 (m_comes_85))]) zk_m_comes 999 false 0 1 400 true (zz_sk zk_m_comes 0) [(0, 42, 1), (1, 0, v1), (2, 0, v2)] [] σ := rfl
theorem zo_m_comes : zz_okb zM_m_comes 0 [(0, 42, true), (1, 0, false), (2, 0, false)] (zz_f2 m_comes) :=
  fun vs σ r τ h => by
    obtain ⟨v1, v2, rfl, h⟩ := zz_f2_ok h
    exact zz_from zc_m_comes (zz_occ zo_m_m_isRunning (zz_occ zo_m_m_books (zz_occ zo_m_m_dueGone zz_oc0))) (zz_olc (zo_m_comes_85) zz_ol0) ((ze_m_comes v1 v2 σ).symm.trans h)
noncomputable def zw_m_comes : List Int → zz_S → zz_R := zz_f3 fun a0 a1 a2 σ => if a0 = 1 then m_comes a1 a2 σ else none
theorem zo_m_m_comes : zz_okm zz_inf 125 zw_m_comes := fun vs σ r τ h => by
  obtain ⟨a0, a1, a2, rfl, h⟩ := zz_f3_ok h
  obtain ⟨e, h⟩ := zz_it h
  subst e
  exact zz_meth zi_m_comes zy_m_comes (zo_m_comes [a1, a2] σ r τ h)
def zk_m_takeDue : List zz_E := [(0, false, .aload_n 0, 1, 0, (0, 0, 0, 0), 0, []),
  (1, false, .dup, 1, 0, (0, 0, 0, 0), 0, []),
  (2, false, .getfield 178, 3, 847, (40, 53, 0, 0), 0, []),
  (5, false, .iconst 1, 1, 0, (0, 0, 0, 0), 0, []),
  (6, false, .isub, 1, 0, (0, 0, 0, 0), 0, []),
  (7, false, .putfield 178, 3, 847, (40, 53, 0, 0), 0, []),
  (10, false, .iload_n 1, 1, 0, (0, 0, 0, 0), 0, []),
  (11, false, .istore_n 2, 1, 0, (0, 0, 0, 0), 0, []),
  (12, true, .iload_n 2, 1, 0, (0, 0, 0, 0), 0, []),
  (13, false, .aload_n 0, 1, 0, (0, 0, 0, 0), 0, []),
  (14, false, .getfield 178, 3, 847, (40, 53, 0, 0), 0, []),
  (17, false, .if_icmp .ge 51, 3, 0, (68, 0, 0, 0), 0, []),
  (20, false, .aload_n 0, 1, 0, (0, 0, 0, 0), 0, []),
  (21, false, .getfield 150, 3, 848, (40, 54, 87, 1), 0, []),
  (24, false, .iload_n 2, 1, 0, (0, 0, 0, 0), 0, []),
  (25, false, .aload_n 0, 1, 0, (0, 0, 0, 0), 0, []),
  (26, false, .getfield 150, 3, 848, (40, 54, 87, 1), 0, []),
  (29, false, .iload_n 2, 1, 0, (0, 0, 0, 0), 0, []),
  (30, false, .iconst 1, 1, 0, (0, 0, 0, 0), 0, []),
  (31, false, .iadd, 1, 0, (0, 0, 0, 0), 0, []),
  (32, false, .iaload, 1, 0, (85, 0, 0, 0), 0, []),
  (33, false, .iastore, 1, 0, (85, 0, 0, 0), 0, []),
  (34, false, .aload_n 0, 1, 0, (0, 0, 0, 0), 0, []),
  (35, false, .getfield 153, 3, 849, (40, 55, 88, 1), 0, []),
  (38, false, .iload_n 2, 1, 0, (0, 0, 0, 0), 0, []),
  (39, false, .aload_n 0, 1, 0, (0, 0, 0, 0), 0, []),
  (40, false, .getfield 153, 3, 849, (40, 55, 88, 1), 0, []),
  (43, false, .iload_n 2, 1, 0, (0, 0, 0, 0), 0, []),
  (44, false, .iconst 1, 1, 0, (0, 0, 0, 0), 0, []),
  (45, false, .iadd, 1, 0, (0, 0, 0, 0), 0, []),
  (46, false, .iaload, 1, 0, (86, 0, 0, 0), 0, []),
  (47, false, .iastore, 1, 0, (86, 0, 0, 0), 0, []),
  (48, false, .aload_n 0, 1, 0, (0, 0, 0, 0), 0, []),
  (49, false, .getfield 156, 3, 850, (40, 56, 89, 1), 0, []),
  (52, false, .iload_n 2, 1, 0, (0, 0, 0, 0), 0, []),
  (53, false, .aload_n 0, 1, 0, (0, 0, 0, 0), 0, []),
  (54, false, .getfield 156, 3, 850, (40, 56, 89, 1), 0, []),
  (57, false, .iload_n 2, 1, 0, (0, 0, 0, 0), 0, []),
  (58, false, .iconst 1, 1, 0, (0, 0, 0, 0), 0, []),
  (59, false, .iadd, 1, 0, (0, 0, 0, 0), 0, []),
  (60, false, .baload, 1, 0, (87, 0, 0, 0), 0, []),
  (61, false, .bastore, 1, 0, (87, 0, 0, 0), 0, []),
  (62, false, .iinc 2 1, 3, 0, (0, 0, 0, 0), 0, []),
  (65, false, .goto (-53), 3, 0, (12, 0, 0, 0), 0, []),
  (68, false, .return_, 1, 0, (0, 0, 0, 0), 0, [])]
theorem zc_m_takeDue : zk_m_takeDue.all (zz_ck zz_inf zM_m_takeDue) = true ∧ zz_ch zk_m_takeDue = true := ⟨by decide +kernel, by decide +kernel⟩
noncomputable def m_takeDue_12 : Nat → Int → zz_S → zz_R
  | 0, _, _ => none
  | n + 1, v2, σ => (if v2 < (zz_h σ 40 1 53) then (if zz_b σ 85 1 (zz_r (v2 + 1)) then (if zz_b σ 85 1 v2 then (let s1 := zz_w σ 85 1 v2 (zz_h σ 85 1 (zz_r (v2 + 1))); (if zz_b s1 86 1 (zz_r (v2 + 1)) then (if zz_b s1 86 1 v2 then (let s2 := zz_w s1 86 1 v2 (zz_h s1 86 1 (zz_r (v2 + 1))); (if zz_b s2 87 1 (zz_r (v2 + 1)) then (if zz_b s2 87 1 v2 then (if zz_o (zz_h s2 87 1 (zz_r (v2 + 1))) then (let s3 := zz_w s2 87 1 v2 (zz_h s2 87 1 (zz_r (v2 + 1))); (m_takeDue_12 n (zz_r (v2 + 1)) s3)) else none) else none) else none)) else none) else none)) else none) else none) else (some (0, σ)))
set_option maxRecDepth 100000 in
set_option maxHeartbeats 4000000 in
theorem ze_m_takeDue_12 (n : Nat) (v2 : Int) (σ : zz_S) : m_takeDue_12 (n + 1) v2 σ = zz_ev (zz_CE []) (zz_KE [(12, [(0, 42, true), (2, 0, false)], zz_f1 (m_takeDue_12 n))]) zk_m_takeDue 999 false 0 1 400 true (zz_sk zk_m_takeDue 12) [(0, 42, 1), (2, 0, v2)] [] σ := rfl
theorem zo_m_takeDue_12 : ∀ n : Nat, zz_okb zM_m_takeDue 12 [(0, 42, true), (2, 0, false)] (zz_f1 (m_takeDue_12 n))
  | 0 => fun vs σ r τ h => by
    obtain ⟨v2, rfl, h⟩ := zz_f1_ok h
    exact nomatch (show (none : zz_R) = some (r, τ) from h)
  | n + 1 => by
    have ih := zo_m_takeDue_12 n
    exact fun vs σ r τ h => by
        obtain ⟨v2, rfl, h⟩ := zz_f1_ok h
        exact zz_from zc_m_takeDue zz_oc0 (zz_olc ih zz_ol0) ((ze_m_takeDue_12 n v2 σ).symm.trans h)
noncomputable def m_takeDue (v1 : Int) (σ : zz_S) : zz_R := (let s1 := zz_w σ 40 1 53 (zz_r ((zz_h σ 40 1 53) - 1)); (m_takeDue_12 zz_fu v1 s1))
set_option maxRecDepth 100000 in
set_option maxHeartbeats 4000000 in
theorem ze_m_takeDue (v1 : Int) (σ : zz_S) : m_takeDue v1 σ = zz_ev (zz_CE []) (zz_KE [(12, [(0, 42, true), (2, 0, false)], zz_f1 (m_takeDue_12 zz_fu))]) zk_m_takeDue 999 false 0 1 400 true (zz_sk zk_m_takeDue 0) [(0, 42, 1), (1, 0, v1)] [] σ := rfl
theorem zo_m_takeDue : zz_okb zM_m_takeDue 0 [(0, 42, true), (1, 0, false)] (zz_f1 m_takeDue) :=
  fun vs σ r τ h => by
    obtain ⟨v1, rfl, h⟩ := zz_f1_ok h
    exact zz_from zc_m_takeDue zz_oc0 (zz_olc (zo_m_takeDue_12 zz_fu) zz_ol0) ((ze_m_takeDue v1 σ).symm.trans h)
noncomputable def zw_m_takeDue : List Int → zz_S → zz_R := zz_f2 fun a0 a1 σ => if a0 = 1 then m_takeDue a1 σ else none
theorem zo_m_m_takeDue : zz_okm zz_inf 126 zw_m_takeDue := fun vs σ r τ h => by
  obtain ⟨a0, a1, rfl, h⟩ := zz_f2_ok h
  obtain ⟨e, h⟩ := zz_it h
  subst e
  exact zz_meth zi_m_takeDue zy_m_takeDue (zo_m_takeDue [a1] σ r τ h)
def zk_m_dropDues : List zz_E := [(0, false, .aload_n 0, 1, 0, (0, 0, 0, 0), 0, []),
  (1, false, .getfield 178, 3, 847, (40, 53, 0, 0), 0, []),
  (4, false, .iconst 1, 1, 0, (0, 0, 0, 0), 0, []),
  (5, false, .isub, 1, 0, (0, 0, 0, 0), 0, []),
  (6, false, .istore_n 2, 1, 0, (0, 0, 0, 0), 0, []),
  (7, true, .iload_n 2, 1, 0, (0, 0, 0, 0), 0, []),
  (8, false, .ifCond .lt 24, 3, 0, (32, 0, 0, 0), 0, []),
  (11, false, .aload_n 0, 1, 0, (0, 0, 0, 0), 0, []),
  (12, false, .getfield 150, 3, 848, (40, 54, 87, 1), 0, []),
  (15, false, .iload_n 2, 1, 0, (0, 0, 0, 0), 0, []),
  (16, false, .iaload, 1, 0, (85, 0, 0, 0), 0, []),
  (17, false, .iload_n 1, 1, 0, (0, 0, 0, 0), 0, []),
  (18, false, .if_icmp .ne 8, 3, 0, (26, 0, 0, 0), 0, []),
  (21, false, .aload_n 0, 1, 0, (0, 0, 0, 0), 0, []),
  (22, false, .iload_n 2, 1, 0, (0, 0, 0, 0), 0, []),
  (23, false, .invokevirtual 238, 3, 1032, (126, 2, 999, 0), 0, [0, 42]),
  (26, false, .iinc 2 (-1), 3, 0, (0, 0, 0, 0), 0, []),
  (29, false, .goto (-22), 3, 0, (7, 0, 0, 0), 0, []),
  (32, false, .return_, 1, 0, (0, 0, 0, 0), 0, [])]
theorem zc_m_dropDues : zk_m_dropDues.all (zz_ck zz_inf zM_m_dropDues) = true ∧ zz_ch zk_m_dropDues = true := ⟨by decide +kernel, by decide +kernel⟩
noncomputable def m_dropDues_7 : Nat → Int → Int → zz_S → zz_R
  | 0, _, _, _ => none
  | n + 1, v1, v2, σ => (if v2 < 0 then (some (0, σ)) else (if zz_b σ 85 1 v2 then (if (zz_h σ 85 1 v2) = v1 then ((m_takeDue v2 σ).bind fun q1 => (m_dropDues_7 n v1 (zz_r (v2 + (-1))) q1.2)) else (m_dropDues_7 n v1 (zz_r (v2 + (-1))) σ)) else none))
set_option maxRecDepth 100000 in
set_option maxHeartbeats 4000000 in
theorem ze_m_dropDues_7 (n : Nat) (v1 v2 : Int) (σ : zz_S) : m_dropDues_7 (n + 1) v1 v2 σ = zz_ev (zz_CE [(126, zw_m_takeDue)]) (zz_KE [(7, [(0, 42, true), (1, 0, false), (2, 0, false)], zz_f2 (m_dropDues_7 n))]) zk_m_dropDues 999 false 0 1 400 true (zz_sk zk_m_dropDues 7) [(0, 42, 1), (1, 0, v1), (2, 0, v2)] [] σ := rfl
theorem zo_m_dropDues_7 : ∀ n : Nat, zz_okb zM_m_dropDues 7 [(0, 42, true), (1, 0, false), (2, 0, false)] (zz_f2 (m_dropDues_7 n))
  | 0 => fun vs σ r τ h => by
    obtain ⟨v1, v2, rfl, h⟩ := zz_f2_ok h
    exact nomatch (show (none : zz_R) = some (r, τ) from h)
  | n + 1 => by
    have ih := zo_m_dropDues_7 n
    exact fun vs σ r τ h => by
        obtain ⟨v1, v2, rfl, h⟩ := zz_f2_ok h
        exact zz_from zc_m_dropDues (zz_occ zo_m_m_takeDue zz_oc0) (zz_olc ih zz_ol0) ((ze_m_dropDues_7 n v1 v2 σ).symm.trans h)
noncomputable def m_dropDues (v1 : Int) (σ : zz_S) : zz_R := (m_dropDues_7 zz_fu v1 (zz_r ((zz_h σ 40 1 53) - 1)) σ)
set_option maxRecDepth 100000 in
set_option maxHeartbeats 4000000 in
theorem ze_m_dropDues (v1 : Int) (σ : zz_S) : m_dropDues v1 σ = zz_ev (zz_CE []) (zz_KE [(7, [(0, 42, true), (1, 0, false), (2, 0, false)], zz_f2 (m_dropDues_7 zz_fu))]) zk_m_dropDues 999 false 0 1 400 true (zz_sk zk_m_dropDues 0) [(0, 42, 1), (1, 0, v1)] [] σ := rfl
theorem zo_m_dropDues : zz_okb zM_m_dropDues 0 [(0, 42, true), (1, 0, false)] (zz_f1 m_dropDues) :=
  fun vs σ r τ h => by
    obtain ⟨v1, rfl, h⟩ := zz_f1_ok h
    exact zz_from zc_m_dropDues zz_oc0 (zz_olc (zo_m_dropDues_7 zz_fu) zz_ol0) ((ze_m_dropDues v1 σ).symm.trans h)
noncomputable def zw_m_dropDues : List Int → zz_S → zz_R := zz_f2 fun a0 a1 σ => if a0 = 1 then m_dropDues a1 σ else none
theorem zo_m_m_dropDues : zz_okm zz_inf 127 zw_m_dropDues := fun vs σ r τ h => by
  obtain ⟨a0, a1, rfl, h⟩ := zz_f2_ok h
  obtain ⟨e, h⟩ := zz_it h
  subst e
  exact zz_meth zi_m_dropDues zy_m_dropDues (zo_m_dropDues [a1] σ r τ h)
def zk_m_notes : List zz_E := [(0, false, .iconst 0, 1, 0, (0, 0, 0, 0), 0, []),
  (1, false, .istore 4, 2, 0, (0, 0, 0, 0), 0, []),
  (3, true, .iload 4, 2, 0, (0, 0, 0, 0), 0, []),
  (5, false, .aload_n 0, 1, 0, (0, 0, 0, 0), 0, []),
  (6, false, .getfield 171, 3, 803, (40, 9, 0, 0), 0, []),
  (9, false, .if_icmp .ge 120, 3, 0, (129, 0, 0, 0), 0, []),
  (12, false, .aload_n 0, 1, 0, (0, 0, 0, 0), 0, []),
  (13, false, .getfield 26, 3, 804, (40, 10, 46, 1), 0, []),
  (16, false, .iload 4, 2, 0, (0, 0, 0, 0), 0, []),
  (18, false, .iaload, 1, 0, (44, 0, 0, 0), 0, []),
  (19, false, .iconst 4, 1, 0, (0, 0, 0, 0), 0, []),
  (20, false, .if_icmp .ne 103, 3, 0, (123, 0, 0, 0), 0, []),
  (23, false, .aload_n 0, 1, 0, (0, 0, 0, 0), 0, []),
  (24, false, .iload 4, 2, 0, (0, 0, 0, 0), 0, []),
  (26, false, .invokevirtual 241, 3, 1024, (110, 2, 0, 0), 0, [0, 42]),
  (29, false, .ifCond .ne 6, 3, 0, (35, 0, 0, 0), 0, []),
  (32, false, .goto 91, 3, 0, (123, 0, 0, 0), 0, []),
  (35, false, .iconst 0, 1, 0, (0, 0, 0, 0), 0, []),
  (36, false, .istore 5, 2, 0, (0, 0, 0, 0), 0, []),
  (38, false, .iconst 4, 1, 0, (0, 0, 0, 0), 0, []),
  (39, false, .iload 4, 2, 0, (0, 0, 0, 0), 0, []),
  (41, false, .imul, 1, 0, (0, 0, 0, 0), 0, []),
  (42, false, .istore 6, 2, 0, (0, 0, 0, 0), 0, []),
  (44, true, .iload 6, 2, 0, (0, 0, 0, 0), 0, []),
  (46, false, .iconst 4, 1, 0, (0, 0, 0, 0), 0, []),
  (47, false, .iload 4, 2, 0, (0, 0, 0, 0), 0, []),
  (49, false, .imul, 1, 0, (0, 0, 0, 0), 0, []),
  (50, false, .aload_n 0, 1, 0, (0, 0, 0, 0), 0, []),
  (51, false, .getfield 99, 3, 828, (40, 34, 70, 1), 0, []),
  (54, false, .iload 4, 2, 0, (0, 0, 0, 0), 0, []),
  (56, false, .iaload, 1, 0, (68, 0, 0, 0), 0, []),
  (57, false, .iadd, 1, 0, (0, 0, 0, 0), 0, []),
  (58, false, .if_icmp .ge 53, 3, 0, (111, 0, 0, 0), 0, []),
  (61, false, .aload_n 0, 1, 0, (0, 0, 0, 0), 0, []),
  (62, false, .getfield 102, 3, 829, (40, 35, 71, 1), 0, []),
  (65, false, .iload 6, 2, 0, (0, 0, 0, 0), 0, []),
  (67, false, .iaload, 1, 0, (69, 0, 0, 0), 0, []),
  (68, false, .iload_n 1, 1, 0, (0, 0, 0, 0), 0, []),
  (69, false, .if_icmp .ne 36, 3, 0, (105, 0, 0, 0), 0, []),
  (72, false, .aload_n 0, 1, 0, (0, 0, 0, 0), 0, []),
  (73, false, .getfield 105, 3, 830, (40, 36, 72, 1), 0, []),
  (76, false, .iload 6, 2, 0, (0, 0, 0, 0), 0, []),
  (78, false, .iaload, 1, 0, (70, 0, 0, 0), 0, []),
  (79, false, .iconst 2, 1, 0, (0, 0, 0, 0), 0, []),
  (80, false, .if_icmp .eq 22, 3, 0, (102, 0, 0, 0), 0, []),
  (83, false, .aload_n 0, 1, 0, (0, 0, 0, 0), 0, []),
  (84, false, .getfield 105, 3, 830, (40, 36, 72, 1), 0, []),
  (87, false, .iload 6, 2, 0, (0, 0, 0, 0), 0, []),
  (89, false, .iaload, 1, 0, (70, 0, 0, 0), 0, []),
  (90, false, .ifCond .ne 7, 3, 0, (97, 0, 0, 0), 0, []),
  (93, false, .iconst 1, 1, 0, (0, 0, 0, 0), 0, []),
  (94, false, .goto 4, 3, 0, (98, 0, 0, 0), 0, []),
  (97, false, .iconst 0, 1, 0, (0, 0, 0, 0), 0, []),
  (98, false, .iload_n 2, 1, 0, (0, 0, 0, 0), 0, []),
  (99, false, .if_icmp .ne 6, 3, 0, (105, 0, 0, 0), 0, []),
  (102, false, .iconst 1, 1, 0, (0, 0, 0, 0), 0, []),
  (103, false, .istore 5, 2, 0, (0, 0, 0, 0), 0, []),
  (105, false, .iinc 6 1, 3, 0, (0, 0, 0, 0), 0, []),
  (108, false, .goto (-64), 3, 0, (44, 0, 0, 0), 0, []),
  (111, false, .iload 5, 2, 0, (0, 0, 0, 0), 0, []),
  (113, false, .ifCond .eq 10, 3, 0, (123, 0, 0, 0), 0, []),
  (116, false, .aload_n 0, 1, 0, (0, 0, 0, 0), 0, []),
  (117, false, .iload 4, 2, 0, (0, 0, 0, 0), 0, []),
  (119, false, .iload_n 3, 1, 0, (0, 0, 0, 0), 0, []),
  (120, false, .invokevirtual 244, 3, 1048, (125, 3, 999, 0), 0, [0, 0, 42]),
  (123, false, .iinc 4 1, 3, 0, (0, 0, 0, 0), 0, []),
  (126, false, .goto (-123), 3, 0, (3, 0, 0, 0), 0, []),
  (129, false, .return_, 1, 0, (0, 0, 0, 0), 0, [])]
theorem zc_m_notes : zk_m_notes.all (zz_ck zz_inf zM_m_notes) = true ∧ zz_ch zk_m_notes = true := ⟨by decide +kernel, by decide +kernel⟩
noncomputable def m_notes_44 (k3 : Int → Int → Int → Int → zz_S → zz_R) : Nat → Int → Int → Int → Int → Int → Int → zz_S → zz_R
  | 0, _, _, _, _, _, _, _ => none
  | n + 1, v1, v2, v3, v4, v5, v6, σ => (if zz_b σ 68 1 v4 then (if v6 < (zz_r ((zz_r (4 * v4)) + (zz_h σ 68 1 v4))) then (if zz_b σ 69 1 v6 then (if (zz_h σ 69 1 v6) = v1 then (if zz_b σ 70 1 v6 then (if (zz_h σ 70 1 v6) = 2 then (m_notes_44 k3 n v1 v2 v3 v4 1 (zz_r (v6 + 1)) σ) else (if zz_b σ 70 1 v6 then (if (zz_h σ 70 1 v6) = 0 then (if 1 = v2 then (m_notes_44 k3 n v1 v2 v3 v4 1 (zz_r (v6 + 1)) σ) else (m_notes_44 k3 n v1 v2 v3 v4 v5 (zz_r (v6 + 1)) σ)) else (if 0 = v2 then (m_notes_44 k3 n v1 v2 v3 v4 1 (zz_r (v6 + 1)) σ) else (m_notes_44 k3 n v1 v2 v3 v4 v5 (zz_r (v6 + 1)) σ))) else none)) else none) else (m_notes_44 k3 n v1 v2 v3 v4 v5 (zz_r (v6 + 1)) σ)) else none) else (if v5 = 0 then (k3 v1 v2 v3 (zz_r (v4 + 1)) σ) else ((m_comes v4 v3 σ).bind fun q1 => (k3 v1 v2 v3 (zz_r (v4 + 1)) q1.2)))) else none)
set_option maxRecDepth 100000 in
set_option maxHeartbeats 4000000 in
theorem ze_m_notes_44 (k3 : Int → Int → Int → Int → zz_S → zz_R) (n : Nat) (v1 v2 v3 v4 v5 v6 : Int) (σ : zz_S) : m_notes_44 k3 (n + 1) v1 v2 v3 v4 v5 v6 σ = zz_ev (zz_CE [(125, zw_m_comes)]) (zz_KE [(3, [(0, 42, true), (1, 0, false), (2, 0, false), (3, 0, false), (4, 0, false)], zz_f4 k3), (44, [(0, 42, true), (1, 0, false), (2, 0, false), (3, 0, false), (4, 0, false), (5, 0, false), (6, 0, false)], zz_f6 (m_notes_44 k3 n))]) zk_m_notes 999 false 0 1 400 true (zz_sk zk_m_notes 44) [(0, 42, 1), (1, 0, v1), (2, 0, v2), (3, 0, v3), (4, 0, v4), (5, 0, v5), (6, 0, v6)] [] σ := rfl
theorem zo_m_notes_44 (k3 : Int → Int → Int → Int → zz_S → zz_R) (hk3 : zz_okb zM_m_notes 3 [(0, 42, true), (1, 0, false), (2, 0, false), (3, 0, false), (4, 0, false)] (zz_f4 k3)) : ∀ n : Nat, zz_okb zM_m_notes 44 [(0, 42, true), (1, 0, false), (2, 0, false), (3, 0, false), (4, 0, false), (5, 0, false), (6, 0, false)] (zz_f6 (m_notes_44 k3 n))
  | 0 => fun vs σ r τ h => by
    obtain ⟨v1, v2, v3, v4, v5, v6, rfl, h⟩ := zz_f6_ok h
    exact nomatch (show (none : zz_R) = some (r, τ) from h)
  | n + 1 => by
    have ih := zo_m_notes_44 k3 hk3 n
    exact fun vs σ r τ h => by
        obtain ⟨v1, v2, v3, v4, v5, v6, rfl, h⟩ := zz_f6_ok h
        exact zz_from zc_m_notes (zz_occ zo_m_m_comes zz_oc0) (zz_olc hk3 (zz_olc ih zz_ol0)) ((ze_m_notes_44 k3 n v1 v2 v3 v4 v5 v6 σ).symm.trans h)
noncomputable def m_notes_3 : Nat → Int → Int → Int → Int → zz_S → zz_R
  | 0, _, _, _, _, _ => none
  | n + 1, v1, v2, v3, v4, σ => (if v4 < (zz_h σ 40 1 9) then (if zz_b σ 44 1 v4 then (if (zz_h σ 44 1 v4) = 4 then ((m_isActive v4 σ).bind fun q1 => (if q1.1 = 0 then (m_notes_3 n v1 v2 v3 (zz_r (v4 + 1)) q1.2) else (m_notes_44 (m_notes_3 n) zz_fu v1 v2 v3 v4 0 (zz_r (4 * v4)) q1.2))) else (m_notes_3 n v1 v2 v3 (zz_r (v4 + 1)) σ)) else none) else (some (0, σ)))
set_option maxRecDepth 100000 in
set_option maxHeartbeats 4000000 in
theorem ze_m_notes_3 (n : Nat) (v1 v2 v3 v4 : Int) (σ : zz_S) : m_notes_3 (n + 1) v1 v2 v3 v4 σ = zz_ev (zz_CE [(110, zw_m_isActive)]) (zz_KE [(3, [(0, 42, true), (1, 0, false), (2, 0, false), (3, 0, false), (4, 0, false)], zz_f4 (m_notes_3 n)), (44, [(0, 42, true), (1, 0, false), (2, 0, false), (3, 0, false), (4, 0, false), (5, 0, false), (6, 0, false)], zz_f6 (m_notes_44 (m_notes_3 n) zz_fu))]) zk_m_notes 999 false 0 1 400 true (zz_sk zk_m_notes 3) [(0, 42, 1), (1, 0, v1), (2, 0, v2), (3, 0, v3), (4, 0, v4)] [] σ := rfl
theorem zo_m_notes_3 : ∀ n : Nat, zz_okb zM_m_notes 3 [(0, 42, true), (1, 0, false), (2, 0, false), (3, 0, false), (4, 0, false)] (zz_f4 (m_notes_3 n))
  | 0 => fun vs σ r τ h => by
    obtain ⟨v1, v2, v3, v4, rfl, h⟩ := zz_f4_ok h
    exact nomatch (show (none : zz_R) = some (r, τ) from h)
  | n + 1 => by
    have ih := zo_m_notes_3 n
    exact fun vs σ r τ h => by
        obtain ⟨v1, v2, v3, v4, rfl, h⟩ := zz_f4_ok h
        exact zz_from zc_m_notes (zz_occ zo_m_m_isActive zz_oc0) (zz_olc ih (zz_olc (zo_m_notes_44 (m_notes_3 n) ih zz_fu) zz_ol0)) ((ze_m_notes_3 n v1 v2 v3 v4 σ).symm.trans h)
noncomputable def m_notes (v1 v2 v3 : Int) (σ : zz_S) : zz_R := (m_notes_3 zz_fu v1 v2 v3 0 σ)
set_option maxRecDepth 100000 in
set_option maxHeartbeats 4000000 in
theorem ze_m_notes (v1 v2 v3 : Int) (σ : zz_S) : m_notes v1 v2 v3 σ = zz_ev (zz_CE []) (zz_KE [(3, [(0, 42, true), (1, 0, false), (2, 0, false), (3, 0, false), (4, 0, false)], zz_f4 (m_notes_3 zz_fu))]) zk_m_notes 999 false 0 1 400 true (zz_sk zk_m_notes 0) [(0, 42, 1), (1, 0, v1), (2, 0, v2), (3, 0, v3)] [] σ := rfl
theorem zo_m_notes : zz_okb zM_m_notes 0 [(0, 42, true), (1, 0, false), (2, 0, false), (3, 0, false)] (zz_f3 m_notes) :=
  fun vs σ r τ h => by
    obtain ⟨v1, v2, v3, rfl, h⟩ := zz_f3_ok h
    exact zz_from zc_m_notes zz_oc0 (zz_olc (zo_m_notes_3 zz_fu) zz_ol0) ((ze_m_notes v1 v2 v3 σ).symm.trans h)
noncomputable def zw_m_notes : List Int → zz_S → zz_R := zz_f4 fun a0 a1 a2 a3 σ => if a0 = 1 then m_notes a1 a2 a3 σ else none
theorem zo_m_m_notes : zz_okm zz_inf 128 zw_m_notes := fun vs σ r τ h => by
  obtain ⟨a0, a1, a2, a3, rfl, h⟩ := zz_f4_ok h
  obtain ⟨e, h⟩ := zz_it h
  subst e
  exact zz_meth zi_m_notes zy_m_notes (zo_m_notes [a1, a2, a3] σ r τ h)
def zk_m_frees : List zz_E := [(0, false, .aload_n 0, 1, 0, (0, 0, 0, 0), 0, []),
  (1, false, .getfield 16, 3, 799, (40, 5, 43, 1), 0, []),
  (4, false, .aload_n 0, 1, 0, (0, 0, 0, 0), 0, []),
  (5, false, .getfield 141, 3, 844, (40, 50, 84, 1), 0, []),
  (8, false, .iload_n 1, 1, 0, (0, 0, 0, 0), 0, []),
  (9, false, .iaload, 1, 0, (82, 0, 0, 0), 0, []),
  (10, false, .iconst (-1), 1, 0, (0, 0, 0, 0), 0, []),
  (11, false, .iastore, 1, 0, (41, 0, 0, 0), 0, []),
  (12, false, .aload_n 0, 1, 0, (0, 0, 0, 0), 0, []),
  (13, false, .getfield 135, 3, 842, (40, 48, 82, 1), 0, []),
  (16, false, .iload_n 1, 1, 0, (0, 0, 0, 0), 0, []),
  (17, false, .iload_n 2, 1, 0, (0, 0, 0, 0), 0, []),
  (18, false, .iastore, 1, 0, (80, 0, 0, 0), 0, []),
  (19, false, .aload_n 0, 1, 0, (0, 0, 0, 0), 0, []),
  (20, false, .getfield 132, 3, 841, (40, 47, 81, 1), 0, []),
  (23, false, .iload_n 1, 1, 0, (0, 0, 0, 0), 0, []),
  (24, false, .iload_n 3, 1, 0, (0, 0, 0, 0), 0, []),
  (25, false, .iastore, 1, 0, (79, 0, 0, 0), 0, []),
  (26, false, .return_, 1, 0, (0, 0, 0, 0), 0, [])]
theorem zc_m_frees : zk_m_frees.all (zz_ck zz_inf zM_m_frees) = true ∧ zz_ch zk_m_frees = true := ⟨by decide +kernel, by decide +kernel⟩
noncomputable def m_frees (v1 v2 v3 : Int) (σ : zz_S) : zz_R := (if zz_b σ 82 1 v1 then (if zz_b σ 41 1 (zz_h σ 82 1 v1) then (let s1 := zz_w σ 41 1 (zz_h σ 82 1 v1) (-1); (if zz_b s1 80 1 v1 then (let s2 := zz_w s1 80 1 v1 v2; (if zz_b s2 79 1 v1 then (let s3 := zz_w s2 79 1 v1 v3; (some (0, s3))) else none)) else none)) else none) else none)
set_option maxRecDepth 100000 in
set_option maxHeartbeats 4000000 in
theorem ze_m_frees (v1 v2 v3 : Int) (σ : zz_S) : m_frees v1 v2 v3 σ = zz_ev (zz_CE []) (zz_KE []) zk_m_frees 999 false 0 1 400 true (zz_sk zk_m_frees 0) [(0, 42, 1), (1, 0, v1), (2, 0, v2), (3, 0, v3)] [] σ := rfl
theorem zo_m_frees : zz_okb zM_m_frees 0 [(0, 42, true), (1, 0, false), (2, 0, false), (3, 0, false)] (zz_f3 m_frees) :=
  fun vs σ r τ h => by
    obtain ⟨v1, v2, v3, rfl, h⟩ := zz_f3_ok h
    exact zz_from zc_m_frees zz_oc0 zz_ol0 ((ze_m_frees v1 v2 v3 σ).symm.trans h)
noncomputable def zw_m_frees : List Int → zz_S → zz_R := zz_f4 fun a0 a1 a2 a3 σ => if a0 = 1 then m_frees a1 a2 a3 σ else none
theorem zo_m_m_frees : zz_okm zz_inf 129 zw_m_frees := fun vs σ r τ h => by
  obtain ⟨a0, a1, a2, a3, rfl, h⟩ := zz_f4_ok h
  obtain ⟨e, h⟩ := zz_it h
  subst e
  exact zz_meth zi_m_frees zy_m_frees (zo_m_frees [a1, a2, a3] σ r τ h)
def zk_m_interrupts : List zz_E := [(0, false, .iconst 0, 1, 0, (0, 0, 0, 0), 0, []),
  (1, false, .istore_n 3, 1, 0, (0, 0, 0, 0), 0, []),
  (2, true, .iload_n 3, 1, 0, (0, 0, 0, 0), 0, []),
  (3, false, .aload_n 0, 1, 0, (0, 0, 0, 0), 0, []),
  (4, false, .getfield 247, 3, 836, (40, 42, 0, 0), 0, []),
  (7, false, .if_icmp .ge 107, 3, 0, (114, 0, 0, 0), 0, []),
  (10, false, .aload_n 0, 1, 0, (0, 0, 0, 0), 0, []),
  (11, false, .getfield 135, 3, 842, (40, 48, 82, 1), 0, []),
  (14, false, .iload_n 3, 1, 0, (0, 0, 0, 0), 0, []),
  (15, false, .iaload, 1, 0, (80, 0, 0, 0), 0, []),
  (16, false, .ifCond .ne 92, 3, 0, (108, 0, 0, 0), 0, []),
  (19, false, .iload_n 2, 1, 0, (0, 0, 0, 0), 0, []),
  (20, false, .ifCond .ne 16, 3, 0, (36, 0, 0, 0), 0, []),
  (23, false, .aload_n 0, 1, 0, (0, 0, 0, 0), 0, []),
  (24, false, .getfield 120, 3, 837, (40, 43, 77, 1), 0, []),
  (27, false, .iload_n 3, 1, 0, (0, 0, 0, 0), 0, []),
  (28, false, .iaload, 1, 0, (75, 0, 0, 0), 0, []),
  (29, false, .iload_n 1, 1, 0, (0, 0, 0, 0), 0, []),
  (30, false, .if_icmp .eq 6, 3, 0, (36, 0, 0, 0), 0, []),
  (33, false, .goto 75, 3, 0, (108, 0, 0, 0), 0, []),
  (36, true, .aload_n 0, 1, 0, (0, 0, 0, 0), 0, []),
  (37, false, .getfield 120, 3, 837, (40, 43, 77, 1), 0, []),
  (40, false, .iload_n 3, 1, 0, (0, 0, 0, 0), 0, []),
  (41, false, .iaload, 1, 0, (75, 0, 0, 0), 0, []),
  (42, false, .istore 4, 2, 0, (0, 0, 0, 0), 0, []),
  (44, false, .aload_n 0, 1, 0, (0, 0, 0, 0), 0, []),
  (45, false, .iload_n 3, 1, 0, (0, 0, 0, 0), 0, []),
  (46, false, .iconst 3, 1, 0, (0, 0, 0, 0), 0, []),
  (47, false, .aload_n 0, 1, 0, (0, 0, 0, 0), 0, []),
  (48, false, .getfield 250, 3, 794, (40, 0, 0, 0), 0, []),
  (51, false, .invokevirtual 253, 3, 1036, (129, 4, 999, 0), 0, [0, 0, 0, 42]),
  (54, false, .iload_n 2, 1, 0, (0, 0, 0, 0), 0, []),
  (55, false, .ifCond .eq 42, 3, 0, (97, 0, 0, 0), 0, []),
  (58, false, .aload_n 0, 1, 0, (0, 0, 0, 0), 0, []),
  (59, false, .getfield 26, 3, 804, (40, 10, 46, 1), 0, []),
  (62, false, .iload 4, 2, 0, (0, 0, 0, 0), 0, []),
  (64, false, .iaload, 1, 0, (44, 0, 0, 0), 0, []),
  (65, false, .iconst 2, 1, 0, (0, 0, 0, 0), 0, []),
  (66, false, .if_icmp .ne 31, 3, 0, (97, 0, 0, 0), 0, []),
  (69, false, .aload_n 0, 1, 0, (0, 0, 0, 0), 0, []),
  (70, false, .iload 4, 2, 0, (0, 0, 0, 0), 0, []),
  (72, false, .invokevirtual 241, 3, 1024, (110, 2, 0, 0), 0, [0, 42]),
  (75, false, .ifCond .eq 22, 3, 0, (97, 0, 0, 0), 0, []),
  (78, false, .aload_n 0, 1, 0, (0, 0, 0, 0), 0, []),
  (79, false, .getfield 65, 3, 817, (40, 23, 59, 1), 0, []),
  (82, false, .iload 4, 2, 0, (0, 0, 0, 0), 0, []),
  (84, false, .aload_n 0, 1, 0, (0, 0, 0, 0), 0, []),
  (85, false, .getfield 250, 3, 794, (40, 0, 0, 0), 0, []),
  (88, false, .aload_n 0, 1, 0, (0, 0, 0, 0), 0, []),
  (89, false, .getfield 32, 3, 806, (40, 12, 48, 1), 0, []),
  (92, false, .iload 4, 2, 0, (0, 0, 0, 0), 0, []),
  (94, false, .iaload, 1, 0, (46, 0, 0, 0), 0, []),
  (95, false, .iadd, 1, 0, (0, 0, 0, 0), 0, []),
  (96, false, .iastore, 1, 0, (57, 0, 0, 0), 0, []),
  (97, true, .aload_n 0, 1, 0, (0, 0, 0, 0), 0, []),
  (98, false, .iload 4, 2, 0, (0, 0, 0, 0), 0, []),
  (100, false, .iconst 0, 1, 0, (0, 0, 0, 0), 0, []),
  (101, false, .aload_n 0, 1, 0, (0, 0, 0, 0), 0, []),
  (102, false, .getfield 250, 3, 794, (40, 0, 0, 0), 0, []),
  (105, false, .invokevirtual 256, 3, 1044, (128, 4, 999, 0), 0, [0, 0, 0, 42]),
  (108, false, .iinc 3 1, 3, 0, (0, 0, 0, 0), 0, []),
  (111, false, .goto (-109), 3, 0, (2, 0, 0, 0), 0, []),
  (114, false, .return_, 1, 0, (0, 0, 0, 0), 0, [])]
theorem zc_m_interrupts : zk_m_interrupts.all (zz_ck zz_inf zM_m_interrupts) = true ∧ zz_ch zk_m_interrupts = true := ⟨by decide +kernel, by decide +kernel⟩
noncomputable def m_interrupts_97 (k2 : Int → Int → Int → zz_S → zz_R) (v1 v2 v3 v4 : Int) (σ : zz_S) : zz_R := ((m_notes v4 0 (zz_h σ 40 1 0) σ).bind fun q1 => (k2 v1 v2 (zz_r (v3 + 1)) q1.2))
set_option maxRecDepth 100000 in
set_option maxHeartbeats 4000000 in
theorem ze_m_interrupts_97 (k2 : Int → Int → Int → zz_S → zz_R) (v1 v2 v3 v4 : Int) (σ : zz_S) : m_interrupts_97 k2 v1 v2 v3 v4 σ = zz_ev (zz_CE [(128, zw_m_notes)]) (zz_KE [(2, [(0, 42, true), (1, 0, false), (2, 0, false), (3, 0, false)], zz_f3 k2)]) zk_m_interrupts 999 false 0 1 400 true (zz_sk zk_m_interrupts 97) [(0, 42, 1), (1, 0, v1), (2, 0, v2), (3, 0, v3), (4, 0, v4)] [] σ := rfl
theorem zo_m_interrupts_97 (k2 : Int → Int → Int → zz_S → zz_R) (hk2 : zz_okb zM_m_interrupts 2 [(0, 42, true), (1, 0, false), (2, 0, false), (3, 0, false)] (zz_f3 k2)) : zz_okb zM_m_interrupts 97 [(0, 42, true), (1, 0, false), (2, 0, false), (3, 0, false), (4, 0, false)] (zz_f4 (m_interrupts_97 k2)) :=
  fun vs σ r τ h => by
    obtain ⟨v1, v2, v3, v4, rfl, h⟩ := zz_f4_ok h
    exact zz_from zc_m_interrupts (zz_occ zo_m_m_notes zz_oc0) (zz_olc hk2 zz_ol0) ((ze_m_interrupts_97 k2 v1 v2 v3 v4 σ).symm.trans h)
noncomputable def m_interrupts_36 (k2 : Int → Int → Int → zz_S → zz_R) (v1 v2 v3 : Int) (σ : zz_S) : zz_R := (if zz_b σ 75 1 v3 then ((m_frees v3 3 (zz_h σ 40 1 0) σ).bind fun q1 => (if v2 = 0 then (m_interrupts_97 k2 v1 v2 v3 (zz_h σ 75 1 v3) q1.2) else (if zz_b q1.2 44 1 (zz_h σ 75 1 v3) then (if (zz_h q1.2 44 1 (zz_h σ 75 1 v3)) = 2 then ((m_isActive (zz_h σ 75 1 v3) q1.2).bind fun q2 => (if q2.1 = 0 then (m_interrupts_97 k2 v1 v2 v3 (zz_h σ 75 1 v3) q2.2) else (if zz_b q2.2 46 1 (zz_h σ 75 1 v3) then (if zz_b q2.2 57 1 (zz_h σ 75 1 v3) then (let s3 := zz_w q2.2 57 1 (zz_h σ 75 1 v3) (zz_r ((zz_h q2.2 40 1 0) + (zz_h q2.2 46 1 (zz_h σ 75 1 v3)))); (m_interrupts_97 k2 v1 v2 v3 (zz_h σ 75 1 v3) s3)) else none) else none))) else (m_interrupts_97 k2 v1 v2 v3 (zz_h σ 75 1 v3) q1.2)) else none))) else none)
set_option maxRecDepth 100000 in
set_option maxHeartbeats 4000000 in
theorem ze_m_interrupts_36 (k2 : Int → Int → Int → zz_S → zz_R) (v1 v2 v3 : Int) (σ : zz_S) : m_interrupts_36 k2 v1 v2 v3 σ = zz_ev (zz_CE [(110, zw_m_isActive), (129, zw_m_frees)]) (zz_KE [(97, [(0, 42, true), (1, 0, false), (2, 0, false), (3, 0, false), (4, 0, false)], zz_f4 (m_interrupts_97 k2))]) zk_m_interrupts 999 false 0 1 400 true (zz_sk zk_m_interrupts 36) [(0, 42, 1), (1, 0, v1), (2, 0, v2), (3, 0, v3)] [] σ := rfl
theorem zo_m_interrupts_36 (k2 : Int → Int → Int → zz_S → zz_R) (hk2 : zz_okb zM_m_interrupts 2 [(0, 42, true), (1, 0, false), (2, 0, false), (3, 0, false)] (zz_f3 k2)) : zz_okb zM_m_interrupts 36 [(0, 42, true), (1, 0, false), (2, 0, false), (3, 0, false)] (zz_f3 (m_interrupts_36 k2)) :=
  fun vs σ r τ h => by
    obtain ⟨v1, v2, v3, rfl, h⟩ := zz_f3_ok h
    exact zz_from zc_m_interrupts (zz_occ zo_m_m_isActive (zz_occ zo_m_m_frees zz_oc0)) (zz_olc (zo_m_interrupts_97 k2 hk2) zz_ol0) ((ze_m_interrupts_36 k2 v1 v2 v3 σ).symm.trans h)
noncomputable def m_interrupts_2 : Nat → Int → Int → Int → zz_S → zz_R
  | 0, _, _, _, _ => none
  | n + 1, v1, v2, v3, σ => (if v3 < (zz_h σ 40 1 42) then (if zz_b σ 80 1 v3 then (if (zz_h σ 80 1 v3) = 0 then (if v2 = 0 then (if zz_b σ 75 1 v3 then (if (zz_h σ 75 1 v3) = v1 then (m_interrupts_36 (m_interrupts_2 n) v1 v2 v3 σ) else (m_interrupts_2 n v1 v2 (zz_r (v3 + 1)) σ)) else none) else (m_interrupts_36 (m_interrupts_2 n) v1 v2 v3 σ)) else (m_interrupts_2 n v1 v2 (zz_r (v3 + 1)) σ)) else none) else (some (0, σ)))
set_option maxRecDepth 100000 in
set_option maxHeartbeats 4000000 in
theorem ze_m_interrupts_2 (n : Nat) (v1 v2 v3 : Int) (σ : zz_S) : m_interrupts_2 (n + 1) v1 v2 v3 σ = zz_ev (zz_CE []) (zz_KE [(2, [(0, 42, true), (1, 0, false), (2, 0, false), (3, 0, false)], zz_f3 (m_interrupts_2 n)), (36, [(0, 42, true), (1, 0, false), (2, 0, false), (3, 0, false)], zz_f3 (m_interrupts_36 (m_interrupts_2 n)))]) zk_m_interrupts 999 false 0 1 400 true (zz_sk zk_m_interrupts 2) [(0, 42, 1), (1, 0, v1), (2, 0, v2), (3, 0, v3)] [] σ := rfl
theorem zo_m_interrupts_2 : ∀ n : Nat, zz_okb zM_m_interrupts 2 [(0, 42, true), (1, 0, false), (2, 0, false), (3, 0, false)] (zz_f3 (m_interrupts_2 n))
  | 0 => fun vs σ r τ h => by
    obtain ⟨v1, v2, v3, rfl, h⟩ := zz_f3_ok h
    exact nomatch (show (none : zz_R) = some (r, τ) from h)
  | n + 1 => by
    have ih := zo_m_interrupts_2 n
    exact fun vs σ r τ h => by
        obtain ⟨v1, v2, v3, rfl, h⟩ := zz_f3_ok h
        exact zz_from zc_m_interrupts zz_oc0 (zz_olc ih (zz_olc (zo_m_interrupts_36 (m_interrupts_2 n) ih) zz_ol0)) ((ze_m_interrupts_2 n v1 v2 v3 σ).symm.trans h)
noncomputable def m_interrupts (v1 v2 : Int) (σ : zz_S) : zz_R := (m_interrupts_2 zz_fu v1 v2 0 σ)
set_option maxRecDepth 100000 in
set_option maxHeartbeats 4000000 in
theorem ze_m_interrupts (v1 v2 : Int) (σ : zz_S) : m_interrupts v1 v2 σ = zz_ev (zz_CE []) (zz_KE [(2, [(0, 42, true), (1, 0, false), (2, 0, false), (3, 0, false)], zz_f3 (m_interrupts_2 zz_fu))]) zk_m_interrupts 999 false 0 1 400 true (zz_sk zk_m_interrupts 0) [(0, 42, 1), (1, 0, v1), (2, 0, v2)] [] σ := rfl
theorem zo_m_interrupts : zz_okb zM_m_interrupts 0 [(0, 42, true), (1, 0, false), (2, 0, false)] (zz_f2 m_interrupts) :=
  fun vs σ r τ h => by
    obtain ⟨v1, v2, rfl, h⟩ := zz_f2_ok h
    exact zz_from zc_m_interrupts zz_oc0 (zz_olc (zo_m_interrupts_2 zz_fu) zz_ol0) ((ze_m_interrupts v1 v2 σ).symm.trans h)
noncomputable def zw_m_interrupts : List Int → zz_S → zz_R := zz_f3 fun a0 a1 a2 σ => if a0 = 1 then m_interrupts a1 a2 σ else none
theorem zo_m_m_interrupts : zz_okm zz_inf 130 zw_m_interrupts := fun vs σ r τ h => by
  obtain ⟨a0, a1, a2, rfl, h⟩ := zz_f3_ok h
  obtain ⟨e, h⟩ := zz_it h
  subst e
  exact zz_meth zi_m_interrupts zy_m_interrupts (zo_m_interrupts [a1, a2] σ r τ h)
def zk_m_planned : List zz_E := [(0, false, .iconst 0, 1, 0, (0, 0, 0, 0), 0, []),
  (1, false, .istore_n 3, 1, 0, (0, 0, 0, 0), 0, []),
  (2, true, .iload_n 3, 1, 0, (0, 0, 0, 0), 0, []),
  (3, false, .aload_n 0, 1, 0, (0, 0, 0, 0), 0, []),
  (4, false, .getfield 259, 3, 831, (40, 37, 0, 0), 0, []),
  (7, false, .if_icmp .ge 36, 3, 0, (43, 0, 0, 0), 0, []),
  (10, false, .aload_n 0, 1, 0, (0, 0, 0, 0), 0, []),
  (11, false, .getfield 108, 3, 832, (40, 38, 73, 1), 0, []),
  (14, false, .iload_n 3, 1, 0, (0, 0, 0, 0), 0, []),
  (15, false, .iaload, 1, 0, (71, 0, 0, 0), 0, []),
  (16, false, .iload_n 1, 1, 0, (0, 0, 0, 0), 0, []),
  (17, false, .if_icmp .ne 20, 3, 0, (37, 0, 0, 0), 0, []),
  (20, false, .aload_n 0, 1, 0, (0, 0, 0, 0), 0, []),
  (21, false, .getfield 111, 3, 833, (40, 39, 74, 1), 0, []),
  (24, false, .iload_n 3, 1, 0, (0, 0, 0, 0), 0, []),
  (25, false, .iaload, 1, 0, (72, 0, 0, 0), 0, []),
  (26, false, .iload_n 2, 1, 0, (0, 0, 0, 0), 0, []),
  (27, false, .if_icmp .ne 10, 3, 0, (37, 0, 0, 0), 0, []),
  (30, false, .aload_n 0, 1, 0, (0, 0, 0, 0), 0, []),
  (31, false, .getfield 114, 3, 834, (40, 40, 75, 1), 0, []),
  (34, false, .iload_n 3, 1, 0, (0, 0, 0, 0), 0, []),
  (35, false, .iaload, 1, 0, (73, 0, 0, 0), 0, []),
  (36, false, .ireturn, 1, 0, (0, 0, 0, 0), 0, []),
  (37, false, .iinc 3 1, 3, 0, (0, 0, 0, 0), 0, []),
  (40, false, .goto (-38), 3, 0, (2, 0, 0, 0), 0, []),
  (43, false, .iconst (-1), 1, 0, (0, 0, 0, 0), 0, []),
  (44, false, .ireturn, 1, 0, (0, 0, 0, 0), 0, [])]
theorem zc_m_planned : zk_m_planned.all (zz_ck zz_inf zM_m_planned) = true ∧ zz_ch zk_m_planned = true := ⟨by decide +kernel, by decide +kernel⟩
noncomputable def m_planned_2 : Nat → Int → Int → Int → zz_S → zz_R
  | 0, _, _, _, _ => none
  | n + 1, v1, v2, v3, σ => (if v3 < (zz_h σ 40 1 37) then (if zz_b σ 71 1 v3 then (if (zz_h σ 71 1 v3) = v1 then (if zz_b σ 72 1 v3 then (if (zz_h σ 72 1 v3) = v2 then (if zz_b σ 73 1 v3 then (some ((zz_h σ 73 1 v3), σ)) else none) else (m_planned_2 n v1 v2 (zz_r (v3 + 1)) σ)) else none) else (m_planned_2 n v1 v2 (zz_r (v3 + 1)) σ)) else none) else (some ((-1), σ)))
set_option maxRecDepth 100000 in
set_option maxHeartbeats 4000000 in
theorem ze_m_planned_2 (n : Nat) (v1 v2 v3 : Int) (σ : zz_S) : m_planned_2 (n + 1) v1 v2 v3 σ = zz_ev (zz_CE []) (zz_KE [(2, [(0, 42, true), (1, 0, false), (2, 0, false), (3, 0, false)], zz_f3 (m_planned_2 n))]) zk_m_planned 0 false 0 1 400 true (zz_sk zk_m_planned 2) [(0, 42, 1), (1, 0, v1), (2, 0, v2), (3, 0, v3)] [] σ := rfl
theorem zo_m_planned_2 : ∀ n : Nat, zz_okb zM_m_planned 2 [(0, 42, true), (1, 0, false), (2, 0, false), (3, 0, false)] (zz_f3 (m_planned_2 n))
  | 0 => fun vs σ r τ h => by
    obtain ⟨v1, v2, v3, rfl, h⟩ := zz_f3_ok h
    exact nomatch (show (none : zz_R) = some (r, τ) from h)
  | n + 1 => by
    have ih := zo_m_planned_2 n
    exact fun vs σ r τ h => by
        obtain ⟨v1, v2, v3, rfl, h⟩ := zz_f3_ok h
        exact zz_from zc_m_planned zz_oc0 (zz_olc ih zz_ol0) ((ze_m_planned_2 n v1 v2 v3 σ).symm.trans h)
noncomputable def m_planned (v1 v2 : Int) (σ : zz_S) : zz_R := (m_planned_2 zz_fu v1 v2 0 σ)
set_option maxRecDepth 100000 in
set_option maxHeartbeats 4000000 in
theorem ze_m_planned (v1 v2 : Int) (σ : zz_S) : m_planned v1 v2 σ = zz_ev (zz_CE []) (zz_KE [(2, [(0, 42, true), (1, 0, false), (2, 0, false), (3, 0, false)], zz_f3 (m_planned_2 zz_fu))]) zk_m_planned 0 false 0 1 400 true (zz_sk zk_m_planned 0) [(0, 42, 1), (1, 0, v1), (2, 0, v2)] [] σ := rfl
theorem zo_m_planned : zz_okb zM_m_planned 0 [(0, 42, true), (1, 0, false), (2, 0, false)] (zz_f2 m_planned) :=
  fun vs σ r τ h => by
    obtain ⟨v1, v2, rfl, h⟩ := zz_f2_ok h
    exact zz_from zc_m_planned zz_oc0 (zz_olc (zo_m_planned_2 zz_fu) zz_ol0) ((ze_m_planned v1 v2 σ).symm.trans h)
noncomputable def zw_m_planned : List Int → zz_S → zz_R := zz_f3 fun a0 a1 a2 σ => if a0 = 1 then m_planned a1 a2 σ else none
theorem zo_m_m_planned : zz_okm zz_inf 131 zw_m_planned := fun vs σ r τ h => by
  obtain ⟨a0, a1, a2, rfl, h⟩ := zz_f3_ok h
  obtain ⟨e, h⟩ := zz_it h
  subst e
  exact zz_meth zi_m_planned zy_m_planned (zo_m_planned [a1, a2] σ r τ h)
def zk_m_does : List zz_E := [(0, false, .aload_n 0, 1, 0, (0, 0, 0, 0), 0, []),
  (1, false, .getfield 56, 3, 814, (40, 20, 56, 1), 0, []),
  (4, false, .iload_n 2, 1, 0, (0, 0, 0, 0), 0, []),
  (5, false, .iaload, 1, 0, (54, 0, 0, 0), 0, []),
  (6, false, .istore 4, 2, 0, (0, 0, 0, 0), 0, []),
  (8, false, .aload_n 0, 1, 0, (0, 0, 0, 0), 0, []),
  (9, false, .getfield 59, 3, 815, (40, 21, 57, 1), 0, []),
  (12, false, .iload_n 2, 1, 0, (0, 0, 0, 0), 0, []),
  (13, false, .iaload, 1, 0, (55, 0, 0, 0), 0, []),
  (14, false, .bipush 7, 2, 0, (0, 0, 0, 0), 0, []),
  (16, false, .iand, 1, 0, (0, 0, 0, 0), 0, []),
  (17, false, .istore 5, 2, 0, (0, 0, 0, 0), 0, []),
  (19, false, .aload_n 0, 1, 0, (0, 0, 0, 0), 0, []),
  (20, false, .getfield 53, 3, 813, (40, 19, 55, 1), 0, []),
  (23, false, .iload_n 2, 1, 0, (0, 0, 0, 0), 0, []),
  (24, false, .iaload, 1, 0, (53, 0, 0, 0), 0, []),
  (25, false, .tableswitch 174 1 6 #[39, 53, 74, 96, 106, 143], 39, 0, (199, 0, 0, 0), 1, [64, 78, 99, 121, 131, 168]),
  (64, false, .aload_n 0, 1, 0, (0, 0, 0, 0), 0, []),
  (65, false, .getfield 117, 3, 835, (40, 41, 76, 1), 0, []),
  (68, false, .iload 5, 2, 0, (0, 0, 0, 0), 0, []),
  (70, false, .dup2, 1, 0, (0, 0, 0, 0), 0, []),
  (71, false, .iaload, 1, 0, (74, 0, 0, 0), 0, []),
  (72, false, .iload 4, 2, 0, (0, 0, 0, 0), 0, []),
  (74, false, .iadd, 1, 0, (0, 0, 0, 0), 0, []),
  (75, false, .iastore, 1, 0, (74, 0, 0, 0), 0, []),
  (76, false, .iconst (-1), 1, 0, (0, 0, 0, 0), 0, []),
  (77, false, .ireturn, 1, 0, (0, 0, 0, 0), 0, []),
  (78, false, .aload_n 0, 1, 0, (0, 0, 0, 0), 0, []),
  (79, false, .getfield 117, 3, 835, (40, 41, 76, 1), 0, []),
  (82, false, .iload 5, 2, 0, (0, 0, 0, 0), 0, []),
  (84, false, .iload 4, 2, 0, (0, 0, 0, 0), 0, []),
  (86, false, .aload_n 0, 1, 0, (0, 0, 0, 0), 0, []),
  (87, false, .getfield 117, 3, 835, (40, 41, 76, 1), 0, []),
  (90, false, .iload 5, 2, 0, (0, 0, 0, 0), 0, []),
  (92, false, .iaload, 1, 0, (74, 0, 0, 0), 0, []),
  (93, false, .imul, 1, 0, (0, 0, 0, 0), 0, []),
  (94, false, .iload_n 1, 1, 0, (0, 0, 0, 0), 0, []),
  (95, false, .iadd, 1, 0, (0, 0, 0, 0), 0, []),
  (96, false, .iastore, 1, 0, (74, 0, 0, 0), 0, []),
  (97, false, .iconst (-1), 1, 0, (0, 0, 0, 0), 0, []),
  (98, false, .ireturn, 1, 0, (0, 0, 0, 0), 0, []),
  (99, false, .aload_n 0, 1, 0, (0, 0, 0, 0), 0, []),
  (100, false, .getfield 117, 3, 835, (40, 41, 76, 1), 0, []),
  (103, false, .iload 5, 2, 0, (0, 0, 0, 0), 0, []),
  (105, false, .iaload, 1, 0, (74, 0, 0, 0), 0, []),
  (106, false, .iconst 1, 1, 0, (0, 0, 0, 0), 0, []),
  (107, false, .iand, 1, 0, (0, 0, 0, 0), 0, []),
  (108, false, .ifCond .eq 11, 3, 0, (119, 0, 0, 0), 0, []),
  (111, false, .iload 4, 2, 0, (0, 0, 0, 0), 0, []),
  (113, false, .bipush 15, 2, 0, (0, 0, 0, 0), 0, []),
  (115, false, .iand, 1, 0, (0, 0, 0, 0), 0, []),
  (116, false, .goto 4, 3, 0, (120, 0, 0, 0), 0, []),
  (119, false, .iconst (-1), 1, 0, (0, 0, 0, 0), 0, []),
  (120, false, .ireturn, 1, 0, (0, 0, 0, 0), 0, []),
  (121, false, .aload_n 0, 1, 0, (0, 0, 0, 0), 0, []),
  (122, false, .getfield 117, 3, 835, (40, 41, 76, 1), 0, []),
  (125, false, .iload 5, 2, 0, (0, 0, 0, 0), 0, []),
  (127, false, .iload_n 3, 1, 0, (0, 0, 0, 0), 0, []),
  (128, false, .iastore, 1, 0, (74, 0, 0, 0), 0, []),
  (129, false, .iconst (-1), 1, 0, (0, 0, 0, 0), 0, []),
  (130, false, .ireturn, 1, 0, (0, 0, 0, 0), 0, []),
  (131, false, .aload_n 0, 1, 0, (0, 0, 0, 0), 0, []),
  (132, false, .iload 4, 2, 0, (0, 0, 0, 0), 0, []),
  (134, false, .invokevirtual 262, 3, 1017, (109, 2, 0, 0), 0, [0, 42]),
  (137, false, .ifCond .eq 12, 3, 0, (149, 0, 0, 0), 0, []),
  (140, false, .aload_n 0, 1, 0, (0, 0, 0, 0), 0, []),
  (141, false, .iload 4, 2, 0, (0, 0, 0, 0), 0, []),
  (143, false, .invokevirtual 241, 3, 1024, (110, 2, 0, 0), 0, [0, 42]),
  (146, false, .ifCond .ne 6, 3, 0, (152, 0, 0, 0), 0, []),
  (149, false, .bipush 14, 2, 0, (0, 0, 0, 0), 0, []),
  (151, false, .ireturn, 1, 0, (0, 0, 0, 0), 0, []),
  (152, false, .aload_n 0, 1, 0, (0, 0, 0, 0), 0, []),
  (153, false, .getfield 62, 3, 816, (40, 22, 58, 1), 0, []),
  (156, false, .iload 4, 2, 0, (0, 0, 0, 0), 0, []),
  (158, false, .iconst 3, 1, 0, (0, 0, 0, 0), 0, []),
  (159, false, .iastore, 1, 0, (56, 0, 0, 0), 0, []),
  (160, false, .aload_n 0, 1, 0, (0, 0, 0, 0), 0, []),
  (161, false, .iload 4, 2, 0, (0, 0, 0, 0), 0, []),
  (163, false, .invokevirtual 265, 3, 1028, (127, 2, 999, 0), 0, [0, 42]),
  (166, false, .iconst (-1), 1, 0, (0, 0, 0, 0), 0, []),
  (167, false, .ireturn, 1, 0, (0, 0, 0, 0), 0, []),
  (168, false, .aload_n 0, 1, 0, (0, 0, 0, 0), 0, []),
  (169, false, .iload 4, 2, 0, (0, 0, 0, 0), 0, []),
  (171, false, .invokevirtual 262, 3, 1017, (109, 2, 0, 0), 0, [0, 42]),
  (174, false, .ifCond .eq 12, 3, 0, (186, 0, 0, 0), 0, []),
  (177, false, .aload_n 0, 1, 0, (0, 0, 0, 0), 0, []),
  (178, false, .iload 4, 2, 0, (0, 0, 0, 0), 0, []),
  (180, false, .invokevirtual 241, 3, 1024, (110, 2, 0, 0), 0, [0, 42]),
  (183, false, .ifCond .ne 6, 3, 0, (189, 0, 0, 0), 0, []),
  (186, false, .bipush 14, 2, 0, (0, 0, 0, 0), 0, []),
  (188, false, .ireturn, 1, 0, (0, 0, 0, 0), 0, []),
  (189, false, .aload_n 0, 1, 0, (0, 0, 0, 0), 0, []),
  (190, false, .getfield 84, 3, 823, (40, 29, 65, 1), 0, []),
  (193, false, .iload 4, 2, 0, (0, 0, 0, 0), 0, []),
  (195, false, .iconst 1, 1, 0, (0, 0, 0, 0), 0, []),
  (196, false, .bastore, 1, 0, (63, 0, 0, 0), 0, []),
  (197, false, .iconst (-1), 1, 0, (0, 0, 0, 0), 0, []),
  (198, false, .ireturn, 1, 0, (0, 0, 0, 0), 0, []),
  (199, false, .iconst (-1), 1, 0, (0, 0, 0, 0), 0, []),
  (200, false, .ireturn, 1, 0, (0, 0, 0, 0), 0, [])]
theorem zc_m_does : zk_m_does.all (zz_ck zz_inf zM_m_does) = true ∧ zz_ch zk_m_does = true := ⟨by decide +kernel, by decide +kernel⟩
noncomputable def m_does (v1 v2 v3 : Int) (σ : zz_S) : zz_R := (if zz_b σ 54 1 v2 then (if zz_b σ 55 1 v2 then (if zz_b σ 53 1 v2 then (if (zz_h σ 53 1 v2) = 1 then (if zz_b σ 74 1 (zz_and (zz_h σ 55 1 v2) 7) then (if zz_b σ 74 1 (zz_and (zz_h σ 55 1 v2) 7) then (let s10 := zz_w σ 74 1 (zz_and (zz_h σ 55 1 v2) 7) (zz_r ((zz_h σ 74 1 (zz_and (zz_h σ 55 1 v2) 7)) + (zz_h σ 54 1 v2))); (some ((-1), s10))) else none) else none) else (if (zz_h σ 53 1 v2) = 2 then (if zz_b σ 74 1 (zz_and (zz_h σ 55 1 v2) 7) then (if zz_b σ 74 1 (zz_and (zz_h σ 55 1 v2) 7) then (let s9 := zz_w σ 74 1 (zz_and (zz_h σ 55 1 v2) 7) (zz_r ((zz_r ((zz_h σ 54 1 v2) * (zz_h σ 74 1 (zz_and (zz_h σ 55 1 v2) 7)))) + v1)); (some ((-1), s9))) else none) else none) else (if (zz_h σ 53 1 v2) = 3 then (if zz_b σ 74 1 (zz_and (zz_h σ 55 1 v2) 7) then (if (zz_and (zz_h σ 74 1 (zz_and (zz_h σ 55 1 v2) 7)) 1) = 0 then (some ((-1), σ)) else (some ((zz_and (zz_h σ 54 1 v2) 15), σ))) else none) else (if (zz_h σ 53 1 v2) = 4 then (if zz_b σ 74 1 (zz_and (zz_h σ 55 1 v2) 7) then (let s8 := zz_w σ 74 1 (zz_and (zz_h σ 55 1 v2) 7) v3; (some ((-1), s8))) else none) else (if (zz_h σ 53 1 v2) = 5 then ((m_isTask (zz_h σ 54 1 v2) σ).bind fun q4 => (if q4.1 = 0 then (some (14, q4.2)) else ((m_isActive (zz_h σ 54 1 v2) q4.2).bind fun q5 => (if q5.1 = 0 then (some (14, q5.2)) else (if zz_b q5.2 56 1 (zz_h σ 54 1 v2) then (let s6 := zz_w q5.2 56 1 (zz_h σ 54 1 v2) 3; ((m_dropDues (zz_h σ 54 1 v2) s6).bind fun q7 => (some ((-1), q7.2)))) else none))))) else (if (zz_h σ 53 1 v2) = 6 then ((m_isTask (zz_h σ 54 1 v2) σ).bind fun q1 => (if q1.1 = 0 then (some (14, q1.2)) else ((m_isActive (zz_h σ 54 1 v2) q1.2).bind fun q2 => (if q2.1 = 0 then (some (14, q2.2)) else (if zz_b q2.2 63 1 (zz_h σ 54 1 v2) then (let s3 := zz_w q2.2 63 1 (zz_h σ 54 1 v2) 1; (some ((-1), s3))) else none))))) else (some ((-1), σ)))))))) else none) else none) else none)
set_option maxRecDepth 100000 in
set_option maxHeartbeats 4000000 in
theorem ze_m_does (v1 v2 v3 : Int) (σ : zz_S) : m_does v1 v2 v3 σ = zz_ev (zz_CE [(109, zw_m_isTask), (110, zw_m_isActive), (127, zw_m_dropDues)]) (zz_KE []) zk_m_does 0 false 0 1 400 true (zz_sk zk_m_does 0) [(0, 42, 1), (1, 0, v1), (2, 0, v2), (3, 0, v3)] [] σ := rfl
theorem zo_m_does : zz_okb zM_m_does 0 [(0, 42, true), (1, 0, false), (2, 0, false), (3, 0, false)] (zz_f3 m_does) :=
  fun vs σ r τ h => by
    obtain ⟨v1, v2, v3, rfl, h⟩ := zz_f3_ok h
    exact zz_from zc_m_does (zz_occ zo_m_m_isTask (zz_occ zo_m_m_isActive (zz_occ zo_m_m_dropDues zz_oc0))) zz_ol0 ((ze_m_does v1 v2 v3 σ).symm.trans h)
noncomputable def zw_m_does : List Int → zz_S → zz_R := zz_f4 fun a0 a1 a2 a3 σ => if a0 = 1 then m_does a1 a2 a3 σ else none
theorem zo_m_m_does : zz_okm zz_inf 132 zw_m_does := fun vs σ r τ h => by
  obtain ⟨a0, a1, a2, a3, rfl, h⟩ := zz_f4_ok h
  obtain ⟨e, h⟩ := zz_it h
  subst e
  exact zz_meth zi_m_does zy_m_does (zo_m_does [a1, a2, a3] σ r τ h)
def zk_m_failed : List zz_E := [(0, false, .aload_n 0, 1, 0, (0, 0, 0, 0), 0, []),
  (1, false, .getfield 50, 3, 812, (40, 18, 54, 1), 0, []),
  (4, false, .iload_n 1, 1, 0, (0, 0, 0, 0), 0, []),
  (5, false, .iaload, 1, 0, (52, 0, 0, 0), 0, []),
  (6, false, .ifCond .ne 18, 3, 0, (24, 0, 0, 0), 0, []),
  (9, false, .aload_n 0, 1, 0, (0, 0, 0, 0), 0, []),
  (10, false, .getfield 62, 3, 816, (40, 22, 58, 1), 0, []),
  (13, false, .iload_n 1, 1, 0, (0, 0, 0, 0), 0, []),
  (14, false, .iconst 4, 1, 0, (0, 0, 0, 0), 0, []),
  (15, false, .iastore, 1, 0, (56, 0, 0, 0), 0, []),
  (16, false, .aload_n 0, 1, 0, (0, 0, 0, 0), 0, []),
  (17, false, .iload_n 1, 1, 0, (0, 0, 0, 0), 0, []),
  (18, false, .invokevirtual 265, 3, 1028, (127, 2, 999, 0), 0, [0, 42]),
  (21, false, .goto 72, 3, 0, (93, 0, 0, 0), 0, []),
  (24, false, .aload_n 0, 1, 0, (0, 0, 0, 0), 0, []),
  (25, false, .getfield 50, 3, 812, (40, 18, 54, 1), 0, []),
  (28, false, .iload_n 1, 1, 0, (0, 0, 0, 0), 0, []),
  (29, false, .iaload, 1, 0, (52, 0, 0, 0), 0, []),
  (30, false, .iconst 2, 1, 0, (0, 0, 0, 0), 0, []),
  (31, false, .if_icmp .ne 62, 3, 0, (93, 0, 0, 0), 0, []),
  (34, false, .aload_n 0, 1, 0, (0, 0, 0, 0), 0, []),
  (35, false, .getfield 71, 3, 819, (40, 25, 61, 1), 0, []),
  (38, false, .iload_n 1, 1, 0, (0, 0, 0, 0), 0, []),
  (39, false, .iaload, 1, 0, (59, 0, 0, 0), 0, []),
  (40, false, .bipush 6, 2, 0, (0, 0, 0, 0), 0, []),
  (42, false, .if_icmp .le 8, 3, 0, (50, 0, 0, 0), 0, []),
  (45, false, .bipush 64, 2, 0, (0, 0, 0, 0), 0, []),
  (47, false, .goto 13, 3, 0, (60, 0, 0, 0), 0, []),
  (50, false, .iconst 1, 1, 0, (0, 0, 0, 0), 0, []),
  (51, false, .aload_n 0, 1, 0, (0, 0, 0, 0), 0, []),
  (52, false, .getfield 71, 3, 819, (40, 25, 61, 1), 0, []),
  (55, false, .iload_n 1, 1, 0, (0, 0, 0, 0), 0, []),
  (56, false, .iaload, 1, 0, (59, 0, 0, 0), 0, []),
  (57, false, .iconst 1, 1, 0, (0, 0, 0, 0), 0, []),
  (58, false, .isub, 1, 0, (0, 0, 0, 0), 0, []),
  (59, false, .ishl, 1, 0, (0, 0, 0, 0), 0, []),
  (60, false, .istore_n 3, 1, 0, (0, 0, 0, 0), 0, []),
  (61, false, .aload_n 0, 1, 0, (0, 0, 0, 0), 0, []),
  (62, false, .getfield 26, 3, 804, (40, 10, 46, 1), 0, []),
  (65, false, .iload_n 1, 1, 0, (0, 0, 0, 0), 0, []),
  (66, false, .iaload, 1, 0, (44, 0, 0, 0), 0, []),
  (67, false, .iconst 2, 1, 0, (0, 0, 0, 0), 0, []),
  (68, false, .if_icmp .ne 16, 3, 0, (84, 0, 0, 0), 0, []),
  (71, false, .aload_n 0, 1, 0, (0, 0, 0, 0), 0, []),
  (72, false, .getfield 65, 3, 817, (40, 23, 59, 1), 0, []),
  (75, false, .iload_n 1, 1, 0, (0, 0, 0, 0), 0, []),
  (76, false, .dup2, 1, 0, (0, 0, 0, 0), 0, []),
  (77, false, .iaload, 1, 0, (57, 0, 0, 0), 0, []),
  (78, false, .iload_n 3, 1, 0, (0, 0, 0, 0), 0, []),
  (79, false, .iadd, 1, 0, (0, 0, 0, 0), 0, []),
  (80, false, .iastore, 1, 0, (57, 0, 0, 0), 0, []),
  (81, false, .goto 12, 3, 0, (93, 0, 0, 0), 0, []),
  (84, false, .aload_n 0, 1, 0, (0, 0, 0, 0), 0, []),
  (85, false, .getfield 74, 3, 820, (40, 26, 62, 1), 0, []),
  (88, false, .iload_n 1, 1, 0, (0, 0, 0, 0), 0, []),
  (89, false, .iload_n 2, 1, 0, (0, 0, 0, 0), 0, []),
  (90, false, .iload_n 3, 1, 0, (0, 0, 0, 0), 0, []),
  (91, false, .iadd, 1, 0, (0, 0, 0, 0), 0, []),
  (92, false, .iastore, 1, 0, (60, 0, 0, 0), 0, []),
  (93, false, .return_, 1, 0, (0, 0, 0, 0), 0, [])]
theorem zc_m_failed : zk_m_failed.all (zz_ck zz_inf zM_m_failed) = true ∧ zz_ch zk_m_failed = true := ⟨by decide +kernel, by decide +kernel⟩
noncomputable def m_failed (v1 v2 : Int) (σ : zz_S) : zz_R := (if zz_b σ 52 1 v1 then (if (zz_h σ 52 1 v1) = 0 then (if zz_b σ 56 1 v1 then (let s1 := zz_w σ 56 1 v1 4; ((m_dropDues v1 s1).bind fun q2 => (some (0, q2.2)))) else none) else (if zz_b σ 52 1 v1 then (if (zz_h σ 52 1 v1) = 2 then (if zz_b σ 59 1 v1 then (if (zz_h σ 59 1 v1) ≤ 6 then (if zz_b σ 59 1 v1 then (if zz_b σ 44 1 v1 then (if (zz_h σ 44 1 v1) = 2 then (if zz_b σ 57 1 v1 then (if zz_b σ 57 1 v1 then (let s3 := zz_w σ 57 1 v1 (zz_r ((zz_h σ 57 1 v1) + (zz_shl 1 (zz_r ((zz_h σ 59 1 v1) - 1))))); (some (0, s3))) else none) else none) else (if zz_b σ 60 1 v1 then (let s4 := zz_w σ 60 1 v1 (zz_r (v2 + (zz_shl 1 (zz_r ((zz_h σ 59 1 v1) - 1))))); (some (0, s4))) else none)) else none) else none) else (if zz_b σ 44 1 v1 then (if (zz_h σ 44 1 v1) = 2 then (if zz_b σ 57 1 v1 then (if zz_b σ 57 1 v1 then (let s5 := zz_w σ 57 1 v1 (zz_r ((zz_h σ 57 1 v1) + 64)); (some (0, s5))) else none) else none) else (if zz_b σ 60 1 v1 then (let s6 := zz_w σ 60 1 v1 (zz_r (v2 + 64)); (some (0, s6))) else none)) else none)) else none) else (some (0, σ))) else none)) else none)
set_option maxRecDepth 100000 in
set_option maxHeartbeats 4000000 in
theorem ze_m_failed (v1 v2 : Int) (σ : zz_S) : m_failed v1 v2 σ = zz_ev (zz_CE [(127, zw_m_dropDues)]) (zz_KE []) zk_m_failed 999 false 0 1 400 true (zz_sk zk_m_failed 0) [(0, 42, 1), (1, 0, v1), (2, 0, v2)] [] σ := rfl
theorem zo_m_failed : zz_okb zM_m_failed 0 [(0, 42, true), (1, 0, false), (2, 0, false)] (zz_f2 m_failed) :=
  fun vs σ r τ h => by
    obtain ⟨v1, v2, rfl, h⟩ := zz_f2_ok h
    exact zz_from zc_m_failed (zz_occ zo_m_m_dropDues zz_oc0) zz_ol0 ((ze_m_failed v1 v2 σ).symm.trans h)
noncomputable def zw_m_failed : List Int → zz_S → zz_R := zz_f3 fun a0 a1 a2 σ => if a0 = 1 then m_failed a1 a2 σ else none
theorem zo_m_m_failed : zz_okm zz_inf 134 zw_m_failed := fun vs σ r τ h => by
  obtain ⟨a0, a1, a2, rfl, h⟩ := zz_f3_ok h
  obtain ⟨e, h⟩ := zz_it h
  subst e
  exact zz_meth zi_m_failed zy_m_failed (zo_m_failed [a1, a2] σ r τ h)
def zk_m_ends : List zz_E := [(0, false, .aload_n 0, 1, 0, (0, 0, 0, 0), 0, []),
  (1, false, .getfield 120, 3, 837, (40, 43, 77, 1), 0, []),
  (4, false, .iload_n 1, 1, 0, (0, 0, 0, 0), 0, []),
  (5, false, .iaload, 1, 0, (75, 0, 0, 0), 0, []),
  (6, false, .istore_n 3, 1, 0, (0, 0, 0, 0), 0, []),
  (7, false, .aload_n 0, 1, 0, (0, 0, 0, 0), 0, []),
  (8, false, .iload_n 3, 1, 0, (0, 0, 0, 0), 0, []),
  (9, false, .aload_n 0, 1, 0, (0, 0, 0, 0), 0, []),
  (10, false, .getfield 147, 3, 846, (40, 52, 86, 1), 0, []),
  (13, false, .iload_n 1, 1, 0, (0, 0, 0, 0), 0, []),
  (14, false, .iaload, 1, 0, (84, 0, 0, 0), 0, []),
  (15, false, .invokevirtual 268, 3, 1009, (131, 3, 0, 0), 0, [0, 0, 42]),
  (18, false, .istore 4, 2, 0, (0, 0, 0, 0), 0, []),
  (20, false, .iload 4, 2, 0, (0, 0, 0, 0), 0, []),
  (22, false, .iconst (-1), 1, 0, (0, 0, 0, 0), 0, []),
  (23, false, .if_icmp .ne 12, 3, 0, (35, 0, 0, 0), 0, []),
  (26, false, .aload_n 0, 1, 0, (0, 0, 0, 0), 0, []),
  (27, false, .iload_n 1, 1, 0, (0, 0, 0, 0), 0, []),
  (28, false, .iload_n 3, 1, 0, (0, 0, 0, 0), 0, []),
  (29, false, .iload_n 2, 1, 0, (0, 0, 0, 0), 0, []),
  (30, false, .invokevirtual 271, 3, 1013, (132, 4, 0, 0), 0, [0, 0, 0, 42]),
  (33, false, .istore 4, 2, 0, (0, 0, 0, 0), 0, []),
  (35, true, .iload 4, 2, 0, (0, 0, 0, 0), 0, []),
  (37, false, .iconst (-1), 1, 0, (0, 0, 0, 0), 0, []),
  (38, false, .if_icmp .ne 7, 3, 0, (45, 0, 0, 0), 0, []),
  (41, false, .iconst 1, 1, 0, (0, 0, 0, 0), 0, []),
  (42, false, .goto 4, 3, 0, (46, 0, 0, 0), 0, []),
  (45, false, .iconst 0, 1, 0, (0, 0, 0, 0), 0, []),
  (46, false, .istore 5, 2, 0, (0, 0, 0, 0), 0, []),
  (48, false, .aload_n 0, 1, 0, (0, 0, 0, 0), 0, []),
  (49, false, .iload_n 1, 1, 0, (0, 0, 0, 0), 0, []),
  (50, false, .iload 5, 2, 0, (0, 0, 0, 0), 0, []),
  (52, false, .ifCond .eq 7, 3, 0, (59, 0, 0, 0), 0, []),
  (55, false, .iconst 1, 1, 0, (0, 0, 0, 0), 0, []),
  (56, false, .goto 4, 3, 0, (60, 0, 0, 0), 0, []),
  (59, false, .iconst 2, 1, 0, (0, 0, 0, 0), 0, []),
  (60, false, .iload_n 2, 1, 0, (0, 0, 0, 0), 0, []),
  (61, false, .invokevirtual 253, 3, 1036, (129, 4, 999, 0), 0, [0, 0, 0, 42]),
  (64, false, .aload_n 0, 1, 0, (0, 0, 0, 0), 0, []),
  (65, false, .getfield 138, 3, 843, (40, 49, 83, 1), 0, []),
  (68, false, .iload_n 1, 1, 0, (0, 0, 0, 0), 0, []),
  (69, false, .iload 4, 2, 0, (0, 0, 0, 0), 0, []),
  (71, false, .iastore, 1, 0, (81, 0, 0, 0), 0, []),
  (72, false, .aload_n 0, 1, 0, (0, 0, 0, 0), 0, []),
  (73, false, .iload_n 3, 1, 0, (0, 0, 0, 0), 0, []),
  (74, false, .invokevirtual 241, 3, 1024, (110, 2, 0, 0), 0, [0, 42]),
  (77, false, .istore 6, 2, 0, (0, 0, 0, 0), 0, []),
  (79, false, .iload 6, 2, 0, (0, 0, 0, 0), 0, []),
  (81, false, .ifCond .eq 27, 3, 0, (108, 0, 0, 0), 0, []),
  (84, false, .aload_n 0, 1, 0, (0, 0, 0, 0), 0, []),
  (85, false, .getfield 26, 3, 804, (40, 10, 46, 1), 0, []),
  (88, false, .iload_n 3, 1, 0, (0, 0, 0, 0), 0, []),
  (89, false, .iaload, 1, 0, (44, 0, 0, 0), 0, []),
  (90, false, .iconst 2, 1, 0, (0, 0, 0, 0), 0, []),
  (91, false, .if_icmp .ne 17, 3, 0, (108, 0, 0, 0), 0, []),
  (94, false, .aload_n 0, 1, 0, (0, 0, 0, 0), 0, []),
  (95, false, .getfield 65, 3, 817, (40, 23, 59, 1), 0, []),
  (98, false, .iload_n 3, 1, 0, (0, 0, 0, 0), 0, []),
  (99, false, .iload_n 2, 1, 0, (0, 0, 0, 0), 0, []),
  (100, false, .aload_n 0, 1, 0, (0, 0, 0, 0), 0, []),
  (101, false, .getfield 32, 3, 806, (40, 12, 48, 1), 0, []),
  (104, false, .iload_n 3, 1, 0, (0, 0, 0, 0), 0, []),
  (105, false, .iaload, 1, 0, (46, 0, 0, 0), 0, []),
  (106, false, .iadd, 1, 0, (0, 0, 0, 0), 0, []),
  (107, false, .iastore, 1, 0, (57, 0, 0, 0), 0, []),
  (108, true, .iload 5, 2, 0, (0, 0, 0, 0), 0, []),
  (110, false, .ifCond .eq 13, 3, 0, (123, 0, 0, 0), 0, []),
  (113, false, .aload_n 0, 1, 0, (0, 0, 0, 0), 0, []),
  (114, false, .getfield 71, 3, 819, (40, 25, 61, 1), 0, []),
  (117, false, .iload_n 3, 1, 0, (0, 0, 0, 0), 0, []),
  (118, false, .iconst 0, 1, 0, (0, 0, 0, 0), 0, []),
  (119, false, .iastore, 1, 0, (59, 0, 0, 0), 0, []),
  (120, false, .goto 24, 3, 0, (144, 0, 0, 0), 0, []),
  (123, false, .aload_n 0, 1, 0, (0, 0, 0, 0), 0, []),
  (124, false, .getfield 71, 3, 819, (40, 25, 61, 1), 0, []),
  (127, false, .iload_n 3, 1, 0, (0, 0, 0, 0), 0, []),
  (128, false, .dup2, 1, 0, (0, 0, 0, 0), 0, []),
  (129, false, .iaload, 1, 0, (59, 0, 0, 0), 0, []),
  (130, false, .iconst 1, 1, 0, (0, 0, 0, 0), 0, []),
  (131, false, .iadd, 1, 0, (0, 0, 0, 0), 0, []),
  (132, false, .iastore, 1, 0, (59, 0, 0, 0), 0, []),
  (133, false, .iload 6, 2, 0, (0, 0, 0, 0), 0, []),
  (135, false, .ifCond .eq 9, 3, 0, (144, 0, 0, 0), 0, []),
  (138, false, .aload_n 0, 1, 0, (0, 0, 0, 0), 0, []),
  (139, false, .iload_n 3, 1, 0, (0, 0, 0, 0), 0, []),
  (140, false, .iload_n 2, 1, 0, (0, 0, 0, 0), 0, []),
  (141, false, .invokevirtual 275, 3, 1040, (134, 3, 999, 0), 0, [0, 0, 42]),
  (144, false, .aload_n 0, 1, 0, (0, 0, 0, 0), 0, []),
  (145, false, .iload_n 3, 1, 0, (0, 0, 0, 0), 0, []),
  (146, false, .iload 5, 2, 0, (0, 0, 0, 0), 0, []),
  (148, false, .iload_n 2, 1, 0, (0, 0, 0, 0), 0, []),
  (149, false, .invokevirtual 256, 3, 1044, (128, 4, 999, 0), 0, [0, 0, 0, 42]),
  (152, false, .return_, 1, 0, (0, 0, 0, 0), 0, [])]
theorem zc_m_ends : zk_m_ends.all (zz_ck zz_inf zM_m_ends) = true ∧ zz_ch zk_m_ends = true := ⟨by decide +kernel, by decide +kernel⟩
noncomputable def m_ends_108 (v2 v3 v5 v6 : Int) (σ : zz_S) : zz_R := (if v5 = 0 then (if zz_b σ 59 1 v3 then (if zz_b σ 59 1 v3 then (let s1 := zz_w σ 59 1 v3 (zz_r ((zz_h σ 59 1 v3) + 1)); (if v6 = 0 then ((m_notes v3 v5 v2 s1).bind fun q2 => (some (0, q2.2))) else ((m_failed v3 v2 s1).bind fun q3 => ((m_notes v3 v5 v2 q3.2).bind fun q4 => (some (0, q4.2)))))) else none) else none) else (if zz_b σ 59 1 v3 then (let s5 := zz_w σ 59 1 v3 0; ((m_notes v3 v5 v2 s5).bind fun q6 => (some (0, q6.2)))) else none))
set_option maxRecDepth 100000 in
set_option maxHeartbeats 4000000 in
theorem ze_m_ends_108 (v2 v3 v5 v6 : Int) (σ : zz_S) : m_ends_108 v2 v3 v5 v6 σ = zz_ev (zz_CE [(128, zw_m_notes), (134, zw_m_failed)]) (zz_KE []) zk_m_ends 999 false 0 1 400 true (zz_sk zk_m_ends 108) [(0, 42, 1), (2, 0, v2), (3, 0, v3), (5, 0, v5), (6, 0, v6)] [] σ := rfl
theorem zo_m_ends_108 : zz_okb zM_m_ends 108 [(0, 42, true), (2, 0, false), (3, 0, false), (5, 0, false), (6, 0, false)] (zz_f4 m_ends_108) :=
  fun vs σ r τ h => by
    obtain ⟨v2, v3, v5, v6, rfl, h⟩ := zz_f4_ok h
    exact zz_from zc_m_ends (zz_occ zo_m_m_notes (zz_occ zo_m_m_failed zz_oc0)) zz_ol0 ((ze_m_ends_108 v2 v3 v5 v6 σ).symm.trans h)
noncomputable def m_ends_35 (v1 v2 v3 v4 : Int) (σ : zz_S) : zz_R := (if v4 = (-1) then ((m_frees v1 1 v2 σ).bind fun q1 => (if zz_b q1.2 81 1 v1 then (let s2 := zz_w q1.2 81 1 v1 v4; ((m_isActive v3 s2).bind fun q3 => (if q3.1 = 0 then (m_ends_108 v2 v3 1 q3.1 q3.2) else (if zz_b q3.2 44 1 v3 then (if (zz_h q3.2 44 1 v3) = 2 then (if zz_b q3.2 46 1 v3 then (if zz_b q3.2 57 1 v3 then (let s4 := zz_w q3.2 57 1 v3 (zz_r (v2 + (zz_h q3.2 46 1 v3))); (m_ends_108 v2 v3 1 q3.1 s4)) else none) else none) else (m_ends_108 v2 v3 1 q3.1 q3.2)) else none)))) else none)) else ((m_frees v1 2 v2 σ).bind fun q5 => (if zz_b q5.2 81 1 v1 then (let s6 := zz_w q5.2 81 1 v1 v4; ((m_isActive v3 s6).bind fun q7 => (if q7.1 = 0 then (m_ends_108 v2 v3 0 q7.1 q7.2) else (if zz_b q7.2 44 1 v3 then (if (zz_h q7.2 44 1 v3) = 2 then (if zz_b q7.2 46 1 v3 then (if zz_b q7.2 57 1 v3 then (let s8 := zz_w q7.2 57 1 v3 (zz_r (v2 + (zz_h q7.2 46 1 v3))); (m_ends_108 v2 v3 0 q7.1 s8)) else none) else none) else (m_ends_108 v2 v3 0 q7.1 q7.2)) else none)))) else none)))
set_option maxRecDepth 100000 in
set_option maxHeartbeats 4000000 in
theorem ze_m_ends_35 (v1 v2 v3 v4 : Int) (σ : zz_S) : m_ends_35 v1 v2 v3 v4 σ = zz_ev (zz_CE [(110, zw_m_isActive), (129, zw_m_frees)]) (zz_KE [(108, [(0, 42, true), (2, 0, false), (3, 0, false), (5, 0, false), (6, 0, false)], zz_f4 (m_ends_108))]) zk_m_ends 999 false 0 1 400 true (zz_sk zk_m_ends 35) [(0, 42, 1), (1, 0, v1), (2, 0, v2), (3, 0, v3), (4, 0, v4)] [] σ := rfl
theorem zo_m_ends_35 : zz_okb zM_m_ends 35 [(0, 42, true), (1, 0, false), (2, 0, false), (3, 0, false), (4, 0, false)] (zz_f4 m_ends_35) :=
  fun vs σ r τ h => by
    obtain ⟨v1, v2, v3, v4, rfl, h⟩ := zz_f4_ok h
    exact zz_from zc_m_ends (zz_occ zo_m_m_isActive (zz_occ zo_m_m_frees zz_oc0)) (zz_olc (zo_m_ends_108) zz_ol0) ((ze_m_ends_35 v1 v2 v3 v4 σ).symm.trans h)
noncomputable def m_ends (v1 v2 : Int) (σ : zz_S) : zz_R := (if zz_b σ 75 1 v1 then (if zz_b σ 84 1 v1 then ((m_planned (zz_h σ 75 1 v1) (zz_h σ 84 1 v1) σ).bind fun q1 => (if q1.1 = (-1) then ((m_does v1 (zz_h σ 75 1 v1) v2 q1.2).bind fun q2 => (m_ends_35 v1 v2 (zz_h σ 75 1 v1) q2.1 q2.2)) else (m_ends_35 v1 v2 (zz_h σ 75 1 v1) q1.1 q1.2))) else none) else none)
set_option maxRecDepth 100000 in
set_option maxHeartbeats 4000000 in
theorem ze_m_ends (v1 v2 : Int) (σ : zz_S) : m_ends v1 v2 σ = zz_ev (zz_CE [(131, zw_m_planned), (132, zw_m_does)]) (zz_KE [(35, [(0, 42, true), (1, 0, false), (2, 0, false), (3, 0, false), (4, 0, false)], zz_f4 (m_ends_35))]) zk_m_ends 999 false 0 1 400 true (zz_sk zk_m_ends 0) [(0, 42, 1), (1, 0, v1), (2, 0, v2)] [] σ := rfl
theorem zo_m_ends : zz_okb zM_m_ends 0 [(0, 42, true), (1, 0, false), (2, 0, false)] (zz_f2 m_ends) :=
  fun vs σ r τ h => by
    obtain ⟨v1, v2, rfl, h⟩ := zz_f2_ok h
    exact zz_from zc_m_ends (zz_occ zo_m_m_planned (zz_occ zo_m_m_does zz_oc0)) (zz_olc (zo_m_ends_35) zz_ol0) ((ze_m_ends v1 v2 σ).symm.trans h)
noncomputable def zw_m_ends : List Int → zz_S → zz_R := zz_f3 fun a0 a1 a2 σ => if a0 = 1 then m_ends a1 a2 σ else none
theorem zo_m_m_ends : zz_okm zz_inf 133 zw_m_ends := fun vs σ r τ h => by
  obtain ⟨a0, a1, a2, rfl, h⟩ := zz_f3_ok h
  obtain ⟨e, h⟩ := zz_it h
  subst e
  exact zz_meth zi_m_ends zy_m_ends (zo_m_ends [a1, a2] σ r τ h)
def zk_m_isDue : List zz_E := [(0, false, .aload_n 0, 1, 0, (0, 0, 0, 0), 0, []),
  (1, false, .getfield 26, 3, 804, (40, 10, 46, 1), 0, []),
  (4, false, .iload_n 1, 1, 0, (0, 0, 0, 0), 0, []),
  (5, false, .iaload, 1, 0, (44, 0, 0, 0), 0, []),
  (6, false, .tableswitch 129 0 3 #[30, 46, 80, 96], 30, 0, (135, 0, 0, 0), 0, [36, 52, 86, 102]),
  (36, false, .aload_n 0, 1, 0, (0, 0, 0, 0), 0, []),
  (37, false, .getfield 29, 3, 805, (40, 11, 47, 1), 0, []),
  (40, false, .iload_n 1, 1, 0, (0, 0, 0, 0), 0, []),
  (41, false, .iaload, 1, 0, (45, 0, 0, 0), 0, []),
  (42, false, .iload_n 2, 1, 0, (0, 0, 0, 0), 0, []),
  (43, false, .if_icmp .ne 7, 3, 0, (50, 0, 0, 0), 0, []),
  (46, false, .iconst 1, 1, 0, (0, 0, 0, 0), 0, []),
  (47, false, .goto 4, 3, 0, (51, 0, 0, 0), 0, []),
  (50, false, .iconst 0, 1, 0, (0, 0, 0, 0), 0, []),
  (51, false, .ireturn, 1, 0, (0, 0, 0, 0), 0, []),
  (52, false, .iload_n 2, 1, 0, (0, 0, 0, 0), 0, []),
  (53, false, .aload_n 0, 1, 0, (0, 0, 0, 0), 0, []),
  (54, false, .getfield 29, 3, 805, (40, 11, 47, 1), 0, []),
  (57, false, .iload_n 1, 1, 0, (0, 0, 0, 0), 0, []),
  (58, false, .iaload, 1, 0, (45, 0, 0, 0), 0, []),
  (59, false, .if_icmp .lt 25, 3, 0, (84, 0, 0, 0), 0, []),
  (62, false, .iload_n 2, 1, 0, (0, 0, 0, 0), 0, []),
  (63, false, .aload_n 0, 1, 0, (0, 0, 0, 0), 0, []),
  (64, false, .getfield 29, 3, 805, (40, 11, 47, 1), 0, []),
  (67, false, .iload_n 1, 1, 0, (0, 0, 0, 0), 0, []),
  (68, false, .iaload, 1, 0, (45, 0, 0, 0), 0, []),
  (69, false, .isub, 1, 0, (0, 0, 0, 0), 0, []),
  (70, false, .aload_n 0, 1, 0, (0, 0, 0, 0), 0, []),
  (71, false, .getfield 32, 3, 806, (40, 12, 48, 1), 0, []),
  (74, false, .iload_n 1, 1, 0, (0, 0, 0, 0), 0, []),
  (75, false, .iaload, 1, 0, (46, 0, 0, 0), 0, []),
  (76, false, .irem, 1, 0, (0, 0, 0, 0), 0, []),
  (77, false, .ifCond .ne 7, 3, 0, (84, 0, 0, 0), 0, []),
  (80, false, .iconst 1, 1, 0, (0, 0, 0, 0), 0, []),
  (81, false, .goto 4, 3, 0, (85, 0, 0, 0), 0, []),
  (84, false, .iconst 0, 1, 0, (0, 0, 0, 0), 0, []),
  (85, false, .ireturn, 1, 0, (0, 0, 0, 0), 0, []),
  (86, false, .aload_n 0, 1, 0, (0, 0, 0, 0), 0, []),
  (87, false, .getfield 65, 3, 817, (40, 23, 59, 1), 0, []),
  (90, false, .iload_n 1, 1, 0, (0, 0, 0, 0), 0, []),
  (91, false, .iaload, 1, 0, (57, 0, 0, 0), 0, []),
  (92, false, .iload_n 2, 1, 0, (0, 0, 0, 0), 0, []),
  (93, false, .if_icmp .ne 7, 3, 0, (100, 0, 0, 0), 0, []),
  (96, false, .iconst 1, 1, 0, (0, 0, 0, 0), 0, []),
  (97, false, .goto 4, 3, 0, (101, 0, 0, 0), 0, []),
  (100, false, .iconst 0, 1, 0, (0, 0, 0, 0), 0, []),
  (101, false, .ireturn, 1, 0, (0, 0, 0, 0), 0, []),
  (102, false, .iload_n 2, 1, 0, (0, 0, 0, 0), 0, []),
  (103, false, .aload_n 0, 1, 0, (0, 0, 0, 0), 0, []),
  (104, false, .getfield 214, 3, 795, (40, 1, 0, 0), 0, []),
  (107, false, .iadd, 1, 0, (0, 0, 0, 0), 0, []),
  (108, false, .aload_n 0, 1, 0, (0, 0, 0, 0), 0, []),
  (109, false, .getfield 7, 3, 796, (40, 2, 0, 0), 0, []),
  (112, false, .if_icmp .le 21, 3, 0, (133, 0, 0, 0), 0, []),
  (115, false, .aload_n 0, 1, 0, (0, 0, 0, 0), 0, []),
  (116, false, .iload_n 1, 1, 0, (0, 0, 0, 0), 0, []),
  (117, false, .iload_n 2, 1, 0, (0, 0, 0, 0), 0, []),
  (118, false, .aload_n 0, 1, 0, (0, 0, 0, 0), 0, []),
  (119, false, .getfield 214, 3, 795, (40, 1, 0, 0), 0, []),
  (122, false, .iadd, 1, 0, (0, 0, 0, 0), 0, []),
  (123, false, .invokevirtual 293, 3, 1068, (119, 3, 0, 0), 0, [0, 0, 42]),
  (126, false, .ifCond .eq 7, 3, 0, (133, 0, 0, 0), 0, []),
  (129, false, .iconst 1, 1, 0, (0, 0, 0, 0), 0, []),
  (130, false, .goto 4, 3, 0, (134, 0, 0, 0), 0, []),
  (133, false, .iconst 0, 1, 0, (0, 0, 0, 0), 0, []),
  (134, false, .ireturn, 1, 0, (0, 0, 0, 0), 0, []),
  (135, false, .iconst 0, 1, 0, (0, 0, 0, 0), 0, []),
  (136, false, .ireturn, 1, 0, (0, 0, 0, 0), 0, [])]
theorem zc_m_isDue : zk_m_isDue.all (zz_ck zz_inf zM_m_isDue) = true ∧ zz_ch zk_m_isDue = true := ⟨by decide +kernel, by decide +kernel⟩
noncomputable def m_isDue (v1 v2 : Int) (σ : zz_S) : zz_R := (if zz_b σ 44 1 v1 then (if (zz_h σ 44 1 v1) = 0 then (if zz_b σ 45 1 v1 then (if (zz_h σ 45 1 v1) = v2 then (some (1, σ)) else (some (0, σ))) else none) else (if (zz_h σ 44 1 v1) = 1 then (if zz_b σ 45 1 v1 then (if v2 < (zz_h σ 45 1 v1) then (some (0, σ)) else (if zz_b σ 45 1 v1 then (if zz_b σ 46 1 v1 then (if (zz_h σ 46 1 v1) = 0 then none else (if (zz_rem (zz_r (v2 - (zz_h σ 45 1 v1))) (zz_h σ 46 1 v1)) = 0 then (some (1, σ)) else (some (0, σ)))) else none) else none)) else none) else (if (zz_h σ 44 1 v1) = 2 then (if zz_b σ 57 1 v1 then (if (zz_h σ 57 1 v1) = v2 then (some (1, σ)) else (some (0, σ))) else none) else (if (zz_h σ 44 1 v1) = 3 then (if (zz_r (v2 + (zz_h σ 40 1 1))) ≤ (zz_h σ 40 1 2) then (some (0, σ)) else ((m_fits v1 (zz_r (v2 + (zz_h σ 40 1 1))) σ).bind fun q1 => (if q1.1 = 0 then (some (0, q1.2)) else (some (1, q1.2))))) else (some (0, σ)))))) else none)
set_option maxRecDepth 100000 in
set_option maxHeartbeats 4000000 in
theorem ze_m_isDue (v1 v2 : Int) (σ : zz_S) : m_isDue v1 v2 σ = zz_ev (zz_CE [(119, zw_m_fits)]) (zz_KE []) zk_m_isDue 0 true 0 1 400 true (zz_sk zk_m_isDue 0) [(0, 42, 1), (1, 0, v1), (2, 0, v2)] [] σ := rfl
theorem zo_m_isDue : zz_okb zM_m_isDue 0 [(0, 42, true), (1, 0, false), (2, 0, false)] (zz_f2 m_isDue) :=
  fun vs σ r τ h => by
    obtain ⟨v1, v2, rfl, h⟩ := zz_f2_ok h
    exact zz_from zc_m_isDue (zz_occ zo_m_m_fits zz_oc0) zz_ol0 ((ze_m_isDue v1 v2 σ).symm.trans h)
noncomputable def zw_m_isDue : List Int → zz_S → zz_R := zz_f3 fun a0 a1 a2 σ => if a0 = 1 then m_isDue a1 a2 σ else none
theorem zo_m_m_isDue : zz_okm zz_inf 136 zw_m_isDue := fun vs σ r τ h => by
  obtain ⟨a0, a1, a2, rfl, h⟩ := zz_f3_ok h
  obtain ⟨e, h⟩ := zz_it h
  subst e
  exact zz_meth zi_m_isDue zy_m_isDue (zo_m_isDue [a1, a2] σ r τ h)
def zk_m_misses : List zz_E := [(0, false, .iconst 0, 1, 0, (0, 0, 0, 0), 0, []),
  (1, false, .istore_n 2, 1, 0, (0, 0, 0, 0), 0, []),
  (2, true, .iload_n 2, 1, 0, (0, 0, 0, 0), 0, []),
  (3, false, .aload_n 0, 1, 0, (0, 0, 0, 0), 0, []),
  (4, false, .getfield 178, 3, 847, (40, 53, 0, 0), 0, []),
  (7, false, .if_icmp .ge 138, 3, 0, (145, 0, 0, 0), 0, []),
  (10, false, .aload_n 0, 1, 0, (0, 0, 0, 0), 0, []),
  (11, false, .getfield 150, 3, 848, (40, 54, 87, 1), 0, []),
  (14, false, .iload_n 2, 1, 0, (0, 0, 0, 0), 0, []),
  (15, false, .iaload, 1, 0, (85, 0, 0, 0), 0, []),
  (16, false, .istore_n 3, 1, 0, (0, 0, 0, 0), 0, []),
  (17, false, .aload_n 0, 1, 0, (0, 0, 0, 0), 0, []),
  (18, false, .getfield 156, 3, 850, (40, 56, 89, 1), 0, []),
  (21, false, .iload_n 2, 1, 0, (0, 0, 0, 0), 0, []),
  (22, false, .baload, 1, 0, (87, 0, 0, 0), 0, []),
  (23, false, .ifCond .ne 20, 3, 0, (43, 0, 0, 0), 0, []),
  (26, false, .iload_n 1, 1, 0, (0, 0, 0, 0), 0, []),
  (27, false, .aload_n 0, 1, 0, (0, 0, 0, 0), 0, []),
  (28, false, .getfield 153, 3, 849, (40, 55, 88, 1), 0, []),
  (31, false, .iload_n 2, 1, 0, (0, 0, 0, 0), 0, []),
  (32, false, .iaload, 1, 0, (86, 0, 0, 0), 0, []),
  (33, false, .isub, 1, 0, (0, 0, 0, 0), 0, []),
  (34, false, .aload_n 0, 1, 0, (0, 0, 0, 0), 0, []),
  (35, false, .getfield 35, 3, 807, (40, 13, 49, 1), 0, []),
  (38, false, .iload_n 3, 1, 0, (0, 0, 0, 0), 0, []),
  (39, false, .iaload, 1, 0, (47, 0, 0, 0), 0, []),
  (40, false, .if_icmp .gt 9, 3, 0, (49, 0, 0, 0), 0, []),
  (43, false, .iinc 2 1, 3, 0, (0, 0, 0, 0), 0, []),
  (46, false, .goto (-44), 3, 0, (2, 0, 0, 0), 0, []),
  (49, false, .aload_n 0, 1, 0, (0, 0, 0, 0), 0, []),
  (50, false, .getfield 153, 3, 849, (40, 55, 88, 1), 0, []),
  (53, false, .iload_n 2, 1, 0, (0, 0, 0, 0), 0, []),
  (54, false, .iaload, 1, 0, (86, 0, 0, 0), 0, []),
  (55, false, .istore 4, 2, 0, (0, 0, 0, 0), 0, []),
  (57, false, .aload_n 0, 1, 0, (0, 0, 0, 0), 0, []),
  (58, false, .getfield 47, 3, 811, (40, 17, 53, 1), 0, []),
  (61, false, .iload_n 3, 1, 0, (0, 0, 0, 0), 0, []),
  (62, false, .iaload, 1, 0, (51, 0, 0, 0), 0, []),
  (63, false, .ifCond .eq 22, 3, 0, (85, 0, 0, 0), 0, []),
  (66, false, .aload_n 0, 1, 0, (0, 0, 0, 0), 0, []),
  (67, false, .getfield 47, 3, 811, (40, 17, 53, 1), 0, []),
  (70, false, .iload_n 3, 1, 0, (0, 0, 0, 0), 0, []),
  (71, false, .iaload, 1, 0, (51, 0, 0, 0), 0, []),
  (72, false, .iconst 1, 1, 0, (0, 0, 0, 0), 0, []),
  (73, false, .if_icmp .ne 16, 3, 0, (89, 0, 0, 0), 0, []),
  (76, false, .aload_n 0, 1, 0, (0, 0, 0, 0), 0, []),
  (77, false, .iload_n 3, 1, 0, (0, 0, 0, 0), 0, []),
  (78, false, .invokevirtual 296, 3, 1091, (114, 2, 0, 0), 0, [0, 42]),
  (81, false, .iconst 1, 1, 0, (0, 0, 0, 0), 0, []),
  (82, false, .if_icmp .le 7, 3, 0, (89, 0, 0, 0), 0, []),
  (85, true, .iconst 1, 1, 0, (0, 0, 0, 0), 0, []),
  (86, false, .goto 4, 3, 0, (90, 0, 0, 0), 0, []),
  (89, true, .iconst 0, 1, 0, (0, 0, 0, 0), 0, []),
  (90, false, .istore 5, 2, 0, (0, 0, 0, 0), 0, []),
  (92, false, .iload 5, 2, 0, (0, 0, 0, 0), 0, []),
  (94, false, .ifCond .eq 30, 3, 0, (124, 0, 0, 0), 0, []),
  (97, false, .aload_n 0, 1, 0, (0, 0, 0, 0), 0, []),
  (98, false, .iload_n 3, 1, 0, (0, 0, 0, 0), 0, []),
  (99, false, .iload 4, 2, 0, (0, 0, 0, 0), 0, []),
  (101, false, .aload_n 0, 1, 0, (0, 0, 0, 0), 0, []),
  (102, false, .getfield 47, 3, 811, (40, 17, 53, 1), 0, []),
  (105, false, .iload_n 3, 1, 0, (0, 0, 0, 0), 0, []),
  (106, false, .iaload, 1, 0, (51, 0, 0, 0), 0, []),
  (107, false, .invokevirtual 227, 3, 1052, (123, 4, 999, 0), 0, [0, 0, 0, 42]),
  (110, false, .aload_n 0, 1, 0, (0, 0, 0, 0), 0, []),
  (111, false, .iload_n 2, 1, 0, (0, 0, 0, 0), 0, []),
  (112, false, .invokevirtual 238, 3, 1032, (126, 2, 999, 0), 0, [0, 42]),
  (115, false, .aload_n 0, 1, 0, (0, 0, 0, 0), 0, []),
  (116, false, .iload_n 3, 1, 0, (0, 0, 0, 0), 0, []),
  (117, false, .iload_n 1, 1, 0, (0, 0, 0, 0), 0, []),
  (118, false, .invokevirtual 231, 3, 1056, (124, 3, 999, 0), 0, [0, 0, 42]),
  (121, false, .goto 21, 3, 0, (142, 0, 0, 0), 0, []),
  (124, false, .aload_n 0, 1, 0, (0, 0, 0, 0), 0, []),
  (125, false, .iload_n 3, 1, 0, (0, 0, 0, 0), 0, []),
  (126, false, .iload 4, 2, 0, (0, 0, 0, 0), 0, []),
  (128, false, .iconst 2, 1, 0, (0, 0, 0, 0), 0, []),
  (129, false, .invokevirtual 227, 3, 1052, (123, 4, 999, 0), 0, [0, 0, 0, 42]),
  (132, false, .aload_n 0, 1, 0, (0, 0, 0, 0), 0, []),
  (133, false, .getfield 156, 3, 850, (40, 56, 89, 1), 0, []),
  (136, false, .iload_n 2, 1, 0, (0, 0, 0, 0), 0, []),
  (137, false, .iconst 1, 1, 0, (0, 0, 0, 0), 0, []),
  (138, false, .bastore, 1, 0, (87, 0, 0, 0), 0, []),
  (139, false, .iinc 2 1, 3, 0, (0, 0, 0, 0), 0, []),
  (142, false, .goto (-140), 3, 0, (2, 0, 0, 0), 0, []),
  (145, false, .return_, 1, 0, (0, 0, 0, 0), 0, [])]
theorem zc_m_misses : zk_m_misses.all (zz_ck zz_inf zM_m_misses) = true ∧ zz_ch zk_m_misses = true := ⟨by decide +kernel, by decide +kernel⟩
noncomputable def m_misses_89 (k2 : Int → Int → zz_S → zz_R) (v1 v2 v3 v4 : Int) (σ : zz_S) : zz_R := ((m_books v3 v4 2 σ).bind fun q1 => (if zz_b q1.2 87 1 v2 then (let s2 := zz_w q1.2 87 1 v2 1; (k2 v1 (zz_r (v2 + 1)) s2)) else none))
set_option maxRecDepth 100000 in
set_option maxHeartbeats 4000000 in
theorem ze_m_misses_89 (k2 : Int → Int → zz_S → zz_R) (v1 v2 v3 v4 : Int) (σ : zz_S) : m_misses_89 k2 v1 v2 v3 v4 σ = zz_ev (zz_CE [(123, zw_m_books)]) (zz_KE [(2, [(0, 42, true), (1, 0, false), (2, 0, false)], zz_f2 k2)]) zk_m_misses 999 false 0 1 400 true (zz_sk zk_m_misses 89) [(0, 42, 1), (1, 0, v1), (2, 0, v2), (3, 0, v3), (4, 0, v4)] [] σ := rfl
theorem zo_m_misses_89 (k2 : Int → Int → zz_S → zz_R) (hk2 : zz_okb zM_m_misses 2 [(0, 42, true), (1, 0, false), (2, 0, false)] (zz_f2 k2)) : zz_okb zM_m_misses 89 [(0, 42, true), (1, 0, false), (2, 0, false), (3, 0, false), (4, 0, false)] (zz_f4 (m_misses_89 k2)) :=
  fun vs σ r τ h => by
    obtain ⟨v1, v2, v3, v4, rfl, h⟩ := zz_f4_ok h
    exact zz_from zc_m_misses (zz_occ zo_m_m_books zz_oc0) (zz_olc hk2 zz_ol0) ((ze_m_misses_89 k2 v1 v2 v3 v4 σ).symm.trans h)
noncomputable def m_misses_85 (k2 : Int → Int → zz_S → zz_R) (v1 v2 v3 v4 : Int) (σ : zz_S) : zz_R := (if zz_b σ 51 1 v3 then ((m_books v3 v4 (zz_h σ 51 1 v3) σ).bind fun q1 => ((m_takeDue v2 q1.2).bind fun q2 => ((m_dueGone v3 v1 q2.2).bind fun q3 => (k2 v1 v2 q3.2)))) else none)
set_option maxRecDepth 100000 in
set_option maxHeartbeats 4000000 in
theorem ze_m_misses_85 (k2 : Int → Int → zz_S → zz_R) (v1 v2 v3 v4 : Int) (σ : zz_S) : m_misses_85 k2 v1 v2 v3 v4 σ = zz_ev (zz_CE [(123, zw_m_books), (124, zw_m_dueGone), (126, zw_m_takeDue)]) (zz_KE [(2, [(0, 42, true), (1, 0, false), (2, 0, false)], zz_f2 k2)]) zk_m_misses 999 false 0 1 400 true (zz_sk zk_m_misses 85) [(0, 42, 1), (1, 0, v1), (2, 0, v2), (3, 0, v3), (4, 0, v4)] [] σ := rfl
theorem zo_m_misses_85 (k2 : Int → Int → zz_S → zz_R) (hk2 : zz_okb zM_m_misses 2 [(0, 42, true), (1, 0, false), (2, 0, false)] (zz_f2 k2)) : zz_okb zM_m_misses 85 [(0, 42, true), (1, 0, false), (2, 0, false), (3, 0, false), (4, 0, false)] (zz_f4 (m_misses_85 k2)) :=
  fun vs σ r τ h => by
    obtain ⟨v1, v2, v3, v4, rfl, h⟩ := zz_f4_ok h
    exact zz_from zc_m_misses (zz_occ zo_m_m_books (zz_occ zo_m_m_dueGone (zz_occ zo_m_m_takeDue zz_oc0))) (zz_olc hk2 zz_ol0) ((ze_m_misses_85 k2 v1 v2 v3 v4 σ).symm.trans h)
noncomputable def m_misses_2 : Nat → Int → Int → zz_S → zz_R
  | 0, _, _, _ => none
  | n + 1, v1, v2, σ => (if v2 < (zz_h σ 40 1 53) then (if zz_b σ 85 1 v2 then (if zz_b σ 87 1 v2 then (if (zz_h σ 87 1 v2) = 0 then (if zz_b σ 86 1 v2 then (if zz_b σ 47 1 (zz_h σ 85 1 v2) then (if (zz_r (v1 - (zz_h σ 86 1 v2))) ≤ (zz_h σ 47 1 (zz_h σ 85 1 v2)) then (m_misses_2 n v1 (zz_r (v2 + 1)) σ) else (if zz_b σ 86 1 v2 then (if zz_b σ 51 1 (zz_h σ 85 1 v2) then (if (zz_h σ 51 1 (zz_h σ 85 1 v2)) = 0 then (m_misses_85 (m_misses_2 n) v1 v2 (zz_h σ 85 1 v2) (zz_h σ 86 1 v2) σ) else (if zz_b σ 51 1 (zz_h σ 85 1 v2) then (if (zz_h σ 51 1 (zz_h σ 85 1 v2)) = 1 then ((m_duesOf (zz_h σ 85 1 v2) σ).bind fun q1 => (if q1.1 ≤ 1 then (m_misses_89 (m_misses_2 n) v1 v2 (zz_h σ 85 1 v2) (zz_h σ 86 1 v2) q1.2) else (m_misses_85 (m_misses_2 n) v1 v2 (zz_h σ 85 1 v2) (zz_h σ 86 1 v2) q1.2))) else (m_misses_89 (m_misses_2 n) v1 v2 (zz_h σ 85 1 v2) (zz_h σ 86 1 v2) σ)) else none)) else none) else none)) else none) else none) else (m_misses_2 n v1 (zz_r (v2 + 1)) σ)) else none) else none) else (some (0, σ)))
set_option maxRecDepth 100000 in
set_option maxHeartbeats 4000000 in
theorem ze_m_misses_2 (n : Nat) (v1 v2 : Int) (σ : zz_S) : m_misses_2 (n + 1) v1 v2 σ = zz_ev (zz_CE [(114, zw_m_duesOf)]) (zz_KE [(2, [(0, 42, true), (1, 0, false), (2, 0, false)], zz_f2 (m_misses_2 n)), (85, [(0, 42, true), (1, 0, false), (2, 0, false), (3, 0, false), (4, 0, false)], zz_f4 (m_misses_85 (m_misses_2 n))), (89, [(0, 42, true), (1, 0, false), (2, 0, false), (3, 0, false), (4, 0, false)], zz_f4 (m_misses_89 (m_misses_2 n)))]) zk_m_misses 999 false 0 1 400 true (zz_sk zk_m_misses 2) [(0, 42, 1), (1, 0, v1), (2, 0, v2)] [] σ := rfl
theorem zo_m_misses_2 : ∀ n : Nat, zz_okb zM_m_misses 2 [(0, 42, true), (1, 0, false), (2, 0, false)] (zz_f2 (m_misses_2 n))
  | 0 => fun vs σ r τ h => by
    obtain ⟨v1, v2, rfl, h⟩ := zz_f2_ok h
    exact nomatch (show (none : zz_R) = some (r, τ) from h)
  | n + 1 => by
    have ih := zo_m_misses_2 n
    exact fun vs σ r τ h => by
        obtain ⟨v1, v2, rfl, h⟩ := zz_f2_ok h
        exact zz_from zc_m_misses (zz_occ zo_m_m_duesOf zz_oc0) (zz_olc ih (zz_olc (zo_m_misses_85 (m_misses_2 n) ih) (zz_olc (zo_m_misses_89 (m_misses_2 n) ih) zz_ol0))) ((ze_m_misses_2 n v1 v2 σ).symm.trans h)
noncomputable def m_misses (v1 : Int) (σ : zz_S) : zz_R := (m_misses_2 zz_fu v1 0 σ)
set_option maxRecDepth 100000 in
set_option maxHeartbeats 4000000 in
theorem ze_m_misses (v1 : Int) (σ : zz_S) : m_misses v1 σ = zz_ev (zz_CE []) (zz_KE [(2, [(0, 42, true), (1, 0, false), (2, 0, false)], zz_f2 (m_misses_2 zz_fu))]) zk_m_misses 999 false 0 1 400 true (zz_sk zk_m_misses 0) [(0, 42, 1), (1, 0, v1)] [] σ := rfl
theorem zo_m_misses : zz_okb zM_m_misses 0 [(0, 42, true), (1, 0, false)] (zz_f1 m_misses) :=
  fun vs σ r τ h => by
    obtain ⟨v1, rfl, h⟩ := zz_f1_ok h
    exact zz_from zc_m_misses zz_oc0 (zz_olc (zo_m_misses_2 zz_fu) zz_ol0) ((ze_m_misses v1 σ).symm.trans h)
noncomputable def zw_m_misses : List Int → zz_S → zz_R := zz_f2 fun a0 a1 σ => if a0 = 1 then m_misses a1 σ else none
theorem zo_m_m_misses : zz_okm zz_inf 137 zw_m_misses := fun vs σ r τ h => by
  obtain ⟨a0, a1, rfl, h⟩ := zz_f2_ok h
  obtain ⟨e, h⟩ := zz_it h
  subst e
  exact zz_meth zi_m_misses zy_m_misses (zo_m_misses [a1] σ r τ h)
def zk_m_canBegin : List zz_E := [(0, false, .aload_n 0, 1, 0, (0, 0, 0, 0), 0, []),
  (1, false, .getfield 41, 3, 809, (40, 15, 51, 1), 0, []),
  (4, false, .iload_n 1, 1, 0, (0, 0, 0, 0), 0, []),
  (5, false, .iaload, 1, 0, (49, 0, 0, 0), 0, []),
  (6, false, .iconst (-1), 1, 0, (0, 0, 0, 0), 0, []),
  (7, false, .if_icmp .eq 29, 3, 0, (36, 0, 0, 0), 0, []),
  (10, false, .aload_n 0, 1, 0, (0, 0, 0, 0), 0, []),
  (11, false, .aload_n 0, 1, 0, (0, 0, 0, 0), 0, []),
  (12, false, .getfield 41, 3, 809, (40, 15, 51, 1), 0, []),
  (15, false, .iload_n 1, 1, 0, (0, 0, 0, 0), 0, []),
  (16, false, .iaload, 1, 0, (49, 0, 0, 0), 0, []),
  (17, false, .invokevirtual 299, 3, 1107, (113, 2, 0, 0), 0, [0, 42]),
  (20, false, .aload_n 0, 1, 0, (0, 0, 0, 0), 0, []),
  (21, false, .getfield 23, 3, 802, (40, 8, 45, 1), 0, []),
  (24, false, .aload_n 0, 1, 0, (0, 0, 0, 0), 0, []),
  (25, false, .getfield 41, 3, 809, (40, 15, 51, 1), 0, []),
  (28, false, .iload_n 1, 1, 0, (0, 0, 0, 0), 0, []),
  (29, false, .iaload, 1, 0, (49, 0, 0, 0), 0, []),
  (30, false, .iaload, 1, 0, (43, 0, 0, 0), 0, []),
  (31, false, .if_icmp .lt 5, 3, 0, (36, 0, 0, 0), 0, []),
  (34, false, .iconst 0, 1, 0, (0, 0, 0, 0), 0, []),
  (35, false, .ireturn, 1, 0, (0, 0, 0, 0), 0, []),
  (36, true, .aload_n 0, 1, 0, (0, 0, 0, 0), 0, []),
  (37, false, .getfield 44, 3, 810, (40, 16, 52, 1), 0, []),
  (40, false, .iload_n 1, 1, 0, (0, 0, 0, 0), 0, []),
  (41, false, .iaload, 1, 0, (50, 0, 0, 0), 0, []),
  (42, false, .iconst 2, 1, 0, (0, 0, 0, 0), 0, []),
  (43, false, .if_icmp .eq 11, 3, 0, (54, 0, 0, 0), 0, []),
  (46, false, .aload_n 0, 1, 0, (0, 0, 0, 0), 0, []),
  (47, false, .iload_n 1, 1, 0, (0, 0, 0, 0), 0, []),
  (48, false, .invokevirtual 235, 3, 1060, (112, 2, 0, 0), 0, [0, 42]),
  (51, false, .ifCond .ne 7, 3, 0, (58, 0, 0, 0), 0, []),
  (54, false, .iconst 1, 1, 0, (0, 0, 0, 0), 0, []),
  (55, false, .goto 4, 3, 0, (59, 0, 0, 0), 0, []),
  (58, false, .iconst 0, 1, 0, (0, 0, 0, 0), 0, []),
  (59, false, .ireturn, 1, 0, (0, 0, 0, 0), 0, [])]
theorem zc_m_canBegin : zk_m_canBegin.all (zz_ck zz_inf zM_m_canBegin) = true ∧ zz_ch zk_m_canBegin = true := ⟨by decide +kernel, by decide +kernel⟩
noncomputable def m_canBegin_36 (v1 : Int) (σ : zz_S) : zz_R := (if zz_b σ 50 1 v1 then (if (zz_h σ 50 1 v1) = 2 then (some (1, σ)) else ((m_isRunning v1 σ).bind fun q1 => (if q1.1 = 0 then (some (1, q1.2)) else (some (0, q1.2))))) else none)
set_option maxRecDepth 100000 in
set_option maxHeartbeats 4000000 in
theorem ze_m_canBegin_36 (v1 : Int) (σ : zz_S) : m_canBegin_36 v1 σ = zz_ev (zz_CE [(112, zw_m_isRunning)]) (zz_KE []) zk_m_canBegin 0 true 0 1 400 true (zz_sk zk_m_canBegin 36) [(0, 42, 1), (1, 0, v1)] [] σ := rfl
theorem zo_m_canBegin_36 : zz_okb zM_m_canBegin 36 [(0, 42, true), (1, 0, false)] (zz_f1 m_canBegin_36) :=
  fun vs σ r τ h => by
    obtain ⟨v1, rfl, h⟩ := zz_f1_ok h
    exact zz_from zc_m_canBegin (zz_occ zo_m_m_isRunning zz_oc0) zz_ol0 ((ze_m_canBegin_36 v1 σ).symm.trans h)
noncomputable def m_canBegin (v1 : Int) (σ : zz_S) : zz_R := (if zz_b σ 49 1 v1 then (if (zz_h σ 49 1 v1) = (-1) then (m_canBegin_36 v1 σ) else (if zz_b σ 49 1 v1 then ((m_loadOf (zz_h σ 49 1 v1) σ).bind fun q1 => (if zz_b q1.2 49 1 v1 then (if zz_b q1.2 43 1 (zz_h q1.2 49 1 v1) then (if q1.1 < (zz_h q1.2 43 1 (zz_h q1.2 49 1 v1)) then (m_canBegin_36 v1 q1.2) else (some (0, q1.2))) else none) else none)) else none)) else none)
set_option maxRecDepth 100000 in
set_option maxHeartbeats 4000000 in
theorem ze_m_canBegin (v1 : Int) (σ : zz_S) : m_canBegin v1 σ = zz_ev (zz_CE [(113, zw_m_loadOf)]) (zz_KE [(36, [(0, 42, true), (1, 0, false)], zz_f1 (m_canBegin_36))]) zk_m_canBegin 0 true 0 1 400 true (zz_sk zk_m_canBegin 0) [(0, 42, 1), (1, 0, v1)] [] σ := rfl
theorem zo_m_canBegin : zz_okb zM_m_canBegin 0 [(0, 42, true), (1, 0, false)] (zz_f1 m_canBegin) :=
  fun vs σ r τ h => by
    obtain ⟨v1, rfl, h⟩ := zz_f1_ok h
    exact zz_from zc_m_canBegin (zz_occ zo_m_m_loadOf zz_oc0) (zz_olc (zo_m_canBegin_36) zz_ol0) ((ze_m_canBegin v1 σ).symm.trans h)
noncomputable def zw_m_canBegin : List Int → zz_S → zz_R := zz_f2 fun a0 a1 σ => if a0 = 1 then m_canBegin a1 σ else none
theorem zo_m_m_canBegin : zz_okm zz_inf 138 zw_m_canBegin := fun vs σ r τ h => by
  obtain ⟨a0, a1, rfl, h⟩ := zz_f2_ok h
  obtain ⟨e, h⟩ := zz_it h
  subst e
  exact zz_meth zi_m_canBegin zy_m_canBegin (zo_m_canBegin [a1] σ r τ h)
def zk_m_isAhead : List zz_E := [(0, false, .aload_n 0, 1, 0, (0, 0, 0, 0), 0, []),
  (1, false, .getfield 150, 3, 848, (40, 54, 87, 1), 0, []),
  (4, false, .iload_n 1, 1, 0, (0, 0, 0, 0), 0, []),
  (5, false, .iaload, 1, 0, (85, 0, 0, 0), 0, []),
  (6, false, .istore_n 3, 1, 0, (0, 0, 0, 0), 0, []),
  (7, false, .aload_n 0, 1, 0, (0, 0, 0, 0), 0, []),
  (8, false, .getfield 150, 3, 848, (40, 54, 87, 1), 0, []),
  (11, false, .iload_n 2, 1, 0, (0, 0, 0, 0), 0, []),
  (12, false, .iaload, 1, 0, (85, 0, 0, 0), 0, []),
  (13, false, .istore 4, 2, 0, (0, 0, 0, 0), 0, []),
  (15, false, .aload_n 0, 1, 0, (0, 0, 0, 0), 0, []),
  (16, false, .getfield 38, 3, 808, (40, 14, 50, 1), 0, []),
  (19, false, .iload_n 3, 1, 0, (0, 0, 0, 0), 0, []),
  (20, false, .iaload, 1, 0, (48, 0, 0, 0), 0, []),
  (21, false, .aload_n 0, 1, 0, (0, 0, 0, 0), 0, []),
  (22, false, .getfield 38, 3, 808, (40, 14, 50, 1), 0, []),
  (25, false, .iload 4, 2, 0, (0, 0, 0, 0), 0, []),
  (27, false, .iaload, 1, 0, (48, 0, 0, 0), 0, []),
  (28, false, .if_icmp .eq 25, 3, 0, (53, 0, 0, 0), 0, []),
  (31, false, .aload_n 0, 1, 0, (0, 0, 0, 0), 0, []),
  (32, false, .getfield 38, 3, 808, (40, 14, 50, 1), 0, []),
  (35, false, .iload_n 3, 1, 0, (0, 0, 0, 0), 0, []),
  (36, false, .iaload, 1, 0, (48, 0, 0, 0), 0, []),
  (37, false, .aload_n 0, 1, 0, (0, 0, 0, 0), 0, []),
  (38, false, .getfield 38, 3, 808, (40, 14, 50, 1), 0, []),
  (41, false, .iload 4, 2, 0, (0, 0, 0, 0), 0, []),
  (43, false, .iaload, 1, 0, (48, 0, 0, 0), 0, []),
  (44, false, .if_icmp .le 7, 3, 0, (51, 0, 0, 0), 0, []),
  (47, false, .iconst 1, 1, 0, (0, 0, 0, 0), 0, []),
  (48, false, .goto 4, 3, 0, (52, 0, 0, 0), 0, []),
  (51, false, .iconst 0, 1, 0, (0, 0, 0, 0), 0, []),
  (52, false, .ireturn, 1, 0, (0, 0, 0, 0), 0, []),
  (53, false, .aload_n 0, 1, 0, (0, 0, 0, 0), 0, []),
  (54, false, .getfield 153, 3, 849, (40, 55, 88, 1), 0, []),
  (57, false, .iload_n 1, 1, 0, (0, 0, 0, 0), 0, []),
  (58, false, .iaload, 1, 0, (86, 0, 0, 0), 0, []),
  (59, false, .aload_n 0, 1, 0, (0, 0, 0, 0), 0, []),
  (60, false, .getfield 153, 3, 849, (40, 55, 88, 1), 0, []),
  (63, false, .iload_n 2, 1, 0, (0, 0, 0, 0), 0, []),
  (64, false, .iaload, 1, 0, (86, 0, 0, 0), 0, []),
  (65, false, .if_icmp .eq 24, 3, 0, (89, 0, 0, 0), 0, []),
  (68, false, .aload_n 0, 1, 0, (0, 0, 0, 0), 0, []),
  (69, false, .getfield 153, 3, 849, (40, 55, 88, 1), 0, []),
  (72, false, .iload_n 1, 1, 0, (0, 0, 0, 0), 0, []),
  (73, false, .iaload, 1, 0, (86, 0, 0, 0), 0, []),
  (74, false, .aload_n 0, 1, 0, (0, 0, 0, 0), 0, []),
  (75, false, .getfield 153, 3, 849, (40, 55, 88, 1), 0, []),
  (78, false, .iload_n 2, 1, 0, (0, 0, 0, 0), 0, []),
  (79, false, .iaload, 1, 0, (86, 0, 0, 0), 0, []),
  (80, false, .if_icmp .ge 7, 3, 0, (87, 0, 0, 0), 0, []),
  (83, false, .iconst 1, 1, 0, (0, 0, 0, 0), 0, []),
  (84, false, .goto 4, 3, 0, (88, 0, 0, 0), 0, []),
  (87, false, .iconst 0, 1, 0, (0, 0, 0, 0), 0, []),
  (88, false, .ireturn, 1, 0, (0, 0, 0, 0), 0, []),
  (89, false, .iload_n 3, 1, 0, (0, 0, 0, 0), 0, []),
  (90, false, .iload 4, 2, 0, (0, 0, 0, 0), 0, []),
  (92, false, .if_icmp .ge 7, 3, 0, (99, 0, 0, 0), 0, []),
  (95, false, .iconst 1, 1, 0, (0, 0, 0, 0), 0, []),
  (96, false, .goto 4, 3, 0, (100, 0, 0, 0), 0, []),
  (99, false, .iconst 0, 1, 0, (0, 0, 0, 0), 0, []),
  (100, false, .ireturn, 1, 0, (0, 0, 0, 0), 0, [])]
theorem zc_m_isAhead : zk_m_isAhead.all (zz_ck zz_inf zM_m_isAhead) = true ∧ zz_ch zk_m_isAhead = true := ⟨by decide +kernel, by decide +kernel⟩
noncomputable def m_isAhead (v1 v2 : Int) (σ : zz_S) : zz_R := (if zz_b σ 85 1 v1 then (if zz_b σ 85 1 v2 then (if zz_b σ 48 1 (zz_h σ 85 1 v1) then (if zz_b σ 48 1 (zz_h σ 85 1 v2) then (if (zz_h σ 48 1 (zz_h σ 85 1 v1)) = (zz_h σ 48 1 (zz_h σ 85 1 v2)) then (if zz_b σ 86 1 v1 then (if zz_b σ 86 1 v2 then (if (zz_h σ 86 1 v1) = (zz_h σ 86 1 v2) then (if (zz_h σ 85 1 v1) < (zz_h σ 85 1 v2) then (some (1, σ)) else (some (0, σ))) else (if zz_b σ 86 1 v1 then (if zz_b σ 86 1 v2 then (if (zz_h σ 86 1 v1) < (zz_h σ 86 1 v2) then (some (1, σ)) else (some (0, σ))) else none) else none)) else none) else none) else (if zz_b σ 48 1 (zz_h σ 85 1 v1) then (if zz_b σ 48 1 (zz_h σ 85 1 v2) then (if (zz_h σ 48 1 (zz_h σ 85 1 v1)) ≤ (zz_h σ 48 1 (zz_h σ 85 1 v2)) then (some (0, σ)) else (some (1, σ))) else none) else none)) else none) else none) else none) else none)
set_option maxRecDepth 100000 in
set_option maxHeartbeats 4000000 in
theorem ze_m_isAhead (v1 v2 : Int) (σ : zz_S) : m_isAhead v1 v2 σ = zz_ev (zz_CE []) (zz_KE []) zk_m_isAhead 0 true 0 1 400 true (zz_sk zk_m_isAhead 0) [(0, 42, 1), (1, 0, v1), (2, 0, v2)] [] σ := rfl
theorem zo_m_isAhead : zz_okb zM_m_isAhead 0 [(0, 42, true), (1, 0, false), (2, 0, false)] (zz_f2 m_isAhead) :=
  fun vs σ r τ h => by
    obtain ⟨v1, v2, rfl, h⟩ := zz_f2_ok h
    exact zz_from zc_m_isAhead zz_oc0 zz_ol0 ((ze_m_isAhead v1 v2 σ).symm.trans h)
noncomputable def zw_m_isAhead : List Int → zz_S → zz_R := zz_f3 fun a0 a1 a2 σ => if a0 = 1 then m_isAhead a1 a2 σ else none
theorem zo_m_m_isAhead : zz_okm zz_inf 140 zw_m_isAhead := fun vs σ r τ h => by
  obtain ⟨a0, a1, a2, rfl, h⟩ := zz_f3_ok h
  obtain ⟨e, h⟩ := zz_it h
  subst e
  exact zz_meth zi_m_isAhead zy_m_isAhead (zo_m_isAhead [a1, a2] σ r τ h)
