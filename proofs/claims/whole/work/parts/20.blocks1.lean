def zk_xD_new : List zz_E := [(0, false, .aload_n 0, 1, 0, (0, 0, 0, 0), 0, []),
  (1, false, .invokespecial 3, 3, 99, (0, 0, 0, 0), 0, []),
  (4, false, .aload_n 0, 1, 0, (0, 0, 0, 0), 0, []),
  (5, false, .bipush 100, 2, 0, (0, 0, 0, 0), 0, []),
  (7, false, .anewarray 9, 3, 100, (19, 0, 0, 0), 0, []),
  (10, false, .putfield 11, 3, 101, (4, 0, 21, 1), 0, []),
  (13, false, .aload_n 0, 1, 0, (0, 0, 0, 0), 0, []),
  (14, false, .bipush 100, 2, 0, (0, 0, 0, 0), 0, []),
  (16, false, .newarray .int, 2, 0, (20, 0, 0, 0), 0, []),
  (18, false, .putfield 17, 3, 103, (4, 1, 22, 1), 0, []),
  (21, false, .aload_n 0, 1, 0, (0, 0, 0, 0), 0, []),
  (22, false, .bipush 100, 2, 0, (0, 0, 0, 0), 0, []),
  (24, false, .newarray .boolean, 2, 0, (21, 0, 0, 0), 0, []),
  (26, false, .putfield 21, 3, 105, (4, 2, 23, 1), 0, []),
  (29, false, .aload_n 0, 1, 0, (0, 0, 0, 0), 0, []),
  (30, false, .iconst 0, 1, 0, (0, 0, 0, 0), 0, []),
  (31, false, .putfield 25, 3, 107, (4, 3, 0, 0), 0, []),
  (34, false, .return_, 1, 0, (0, 0, 0, 0), 0, [])]
theorem zc_xD_new : zk_xD_new.all (zz_ck zz_inf zM_xD_new) = true ∧ zz_ch zk_xD_new = true := ⟨by decide +kernel, by decide +kernel⟩
noncomputable def xD_new (v0 : Int) (σ : zz_S) : zz_R := (let s1 := zz_n σ 19 1 100; (if true = true ∧ (zz_c σ 19 + 1) ≠ v0 then none else (let s2 := zz_w s1 4 v0 0 (zz_c σ 19 + 1); (let s3 := zz_n s2 20 1 100; (if true = true ∧ (zz_c s2 20 + 1) ≠ v0 then none else (let s4 := zz_w s3 4 v0 1 (zz_c s2 20 + 1); (let s5 := zz_n s4 21 1 100; (if true = true ∧ (zz_c s4 21 + 1) ≠ v0 then none else (let s6 := zz_w s5 4 v0 2 (zz_c s4 21 + 1); (let s7 := zz_w s6 4 v0 3 0; (if zz_ow s7 4 v0 (zz_own 4) = true ∧ zz_m s7 4 + 1 = v0 then (some (0, zz_f s7 4)) else none)))))))))))
set_option maxRecDepth 100000 in
set_option maxHeartbeats 4000000 in
theorem ze_xD_new (v0 : Int) (σ : zz_S) : xD_new v0 σ = zz_ev (zz_CE []) (zz_KE []) zk_xD_new 999 false 4 0 400 true (zz_sk zk_xD_new 0) [(0, 1004, v0)] [] σ := rfl
theorem zo_xD_new : zz_okb zM_xD_new 0 [(0, 1004, false)] (zz_f1 xD_new) :=
  fun vs σ r τ h => by
    obtain ⟨v0, rfl, h⟩ := zz_f1_ok h
    exact zz_from zc_xD_new zz_oc0 zz_ol0 ((ze_xD_new v0 σ).symm.trans h)
noncomputable def zw_xD_new : List Int → zz_S → zz_R := zz_f1 fun a0 σ => xD_new a0 σ
theorem zo_m_xD_new : zz_okm zz_inf 75 zw_xD_new := fun vs σ r τ h => by
  obtain ⟨a0, rfl, h⟩ := zz_f1_ok h
  exact zz_meth zi_xD_new zy_xD_new (zo_xD_new [a0] σ r τ h)
def zk_xB_new : List zz_E := [(0, false, .aload_n 0, 1, 0, (0, 0, 0, 0), 0, []),
  (1, false, .invokespecial 3, 3, 125, (0, 0, 0, 0), 0, []),
  (4, false, .aload_n 0, 1, 0, (0, 0, 0, 0), 0, []),
  (5, false, .sipush 300, 3, 0, (0, 0, 0, 0), 0, []),
  (8, false, .newarray .int, 2, 0, (22, 0, 0, 0), 0, []),
  (10, false, .putfield 9, 3, 126, (5, 0, 24, 1), 0, []),
  (13, false, .aload_n 0, 1, 0, (0, 0, 0, 0), 0, []),
  (14, false, .sipush 300, 3, 0, (0, 0, 0, 0), 0, []),
  (17, false, .newarray .int, 2, 0, (23, 0, 0, 0), 0, []),
  (19, false, .putfield 15, 3, 128, (5, 1, 25, 1), 0, []),
  (22, false, .aload_n 0, 1, 0, (0, 0, 0, 0), 0, []),
  (23, false, .sipush 300, 3, 0, (0, 0, 0, 0), 0, []),
  (26, false, .newarray .int, 2, 0, (24, 0, 0, 0), 0, []),
  (28, false, .putfield 18, 3, 130, (5, 2, 26, 1), 0, []),
  (31, false, .aload_n 0, 1, 0, (0, 0, 0, 0), 0, []),
  (32, false, .iconst 0, 1, 0, (0, 0, 0, 0), 0, []),
  (33, false, .putfield 21, 3, 132, (5, 3, 0, 0), 0, []),
  (36, false, .return_, 1, 0, (0, 0, 0, 0), 0, [])]
theorem zc_xB_new : zk_xB_new.all (zz_ck zz_inf zM_xB_new) = true ∧ zz_ch zk_xB_new = true := ⟨by decide +kernel, by decide +kernel⟩
noncomputable def xB_new (v0 : Int) (σ : zz_S) : zz_R := (let s1 := zz_n σ 22 1 300; (if true = true ∧ (zz_c σ 22 + 1) ≠ v0 then none else (let s2 := zz_w s1 5 v0 0 (zz_c σ 22 + 1); (let s3 := zz_n s2 23 1 300; (if true = true ∧ (zz_c s2 23 + 1) ≠ v0 then none else (let s4 := zz_w s3 5 v0 1 (zz_c s2 23 + 1); (let s5 := zz_n s4 24 1 300; (if true = true ∧ (zz_c s4 24 + 1) ≠ v0 then none else (let s6 := zz_w s5 5 v0 2 (zz_c s4 24 + 1); (let s7 := zz_w s6 5 v0 3 0; (if zz_ow s7 5 v0 (zz_own 5) = true ∧ zz_m s7 5 + 1 = v0 then (some (0, zz_f s7 5)) else none)))))))))))
set_option maxRecDepth 100000 in
set_option maxHeartbeats 4000000 in
theorem ze_xB_new (v0 : Int) (σ : zz_S) : xB_new v0 σ = zz_ev (zz_CE []) (zz_KE []) zk_xB_new 999 false 5 0 400 true (zz_sk zk_xB_new 0) [(0, 1005, v0)] [] σ := rfl
theorem zo_xB_new : zz_okb zM_xB_new 0 [(0, 1005, false)] (zz_f1 xB_new) :=
  fun vs σ r τ h => by
    obtain ⟨v0, rfl, h⟩ := zz_f1_ok h
    exact zz_from zc_xB_new zz_oc0 zz_ol0 ((ze_xB_new v0 σ).symm.trans h)
noncomputable def zw_xB_new : List Int → zz_S → zz_R := zz_f1 fun a0 σ => xB_new a0 σ
theorem zo_m_xB_new : zz_okm zz_inf 81 zw_xB_new := fun vs σ r τ h => by
  obtain ⟨a0, rfl, h⟩ := zz_f1_ok h
  exact zz_meth zi_xB_new zy_xB_new (zo_xB_new [a0] σ r τ h)
def zk_xP_new : List zz_E := [(0, false, .aload_n 0, 1, 0, (0, 0, 0, 0), 0, []),
  (1, false, .invokespecial 3, 3, 148, (0, 0, 0, 0), 0, []),
  (4, false, .aload_n 0, 1, 0, (0, 0, 0, 0), 0, []),
  (5, false, .bipush 40, 2, 0, (0, 0, 0, 0), 0, []),
  (7, false, .newarray .int, 2, 0, (25, 0, 0, 0), 0, []),
  (9, false, .putfield 9, 3, 149, (6, 0, 27, 1), 0, []),
  (12, false, .aload_n 0, 1, 0, (0, 0, 0, 0), 0, []),
  (13, false, .bipush 40, 2, 0, (0, 0, 0, 0), 0, []),
  (15, false, .newarray .int, 2, 0, (26, 0, 0, 0), 0, []),
  (17, false, .putfield 15, 3, 150, (6, 1, 28, 1), 0, []),
  (20, false, .aload_n 0, 1, 0, (0, 0, 0, 0), 0, []),
  (21, false, .bipush 40, 2, 0, (0, 0, 0, 0), 0, []),
  (23, false, .newarray .int, 2, 0, (27, 0, 0, 0), 0, []),
  (25, false, .putfield 18, 3, 151, (6, 2, 29, 1), 0, []),
  (28, false, .aload_n 0, 1, 0, (0, 0, 0, 0), 0, []),
  (29, false, .iconst 0, 1, 0, (0, 0, 0, 0), 0, []),
  (30, false, .putfield 21, 3, 152, (6, 3, 0, 0), 0, []),
  (33, false, .return_, 1, 0, (0, 0, 0, 0), 0, [])]
theorem zc_xP_new : zk_xP_new.all (zz_ck zz_inf zM_xP_new) = true ∧ zz_ch zk_xP_new = true := ⟨by decide +kernel, by decide +kernel⟩
noncomputable def xP_new (v0 : Int) (σ : zz_S) : zz_R := (let s1 := zz_n σ 25 1 40; (if true = true ∧ (zz_c σ 25 + 1) ≠ v0 then none else (let s2 := zz_w s1 6 v0 0 (zz_c σ 25 + 1); (let s3 := zz_n s2 26 1 40; (if true = true ∧ (zz_c s2 26 + 1) ≠ v0 then none else (let s4 := zz_w s3 6 v0 1 (zz_c s2 26 + 1); (let s5 := zz_n s4 27 1 40; (if true = true ∧ (zz_c s4 27 + 1) ≠ v0 then none else (let s6 := zz_w s5 6 v0 2 (zz_c s4 27 + 1); (let s7 := zz_w s6 6 v0 3 0; (if zz_ow s7 6 v0 (zz_own 6) = true ∧ zz_m s7 6 + 1 = v0 then (some (0, zz_f s7 6)) else none)))))))))))
set_option maxRecDepth 100000 in
set_option maxHeartbeats 4000000 in
theorem ze_xP_new (v0 : Int) (σ : zz_S) : xP_new v0 σ = zz_ev (zz_CE []) (zz_KE []) zk_xP_new 999 false 6 0 400 true (zz_sk zk_xP_new 0) [(0, 1006, v0)] [] σ := rfl
theorem zo_xP_new : zz_okb zM_xP_new 0 [(0, 1006, false)] (zz_f1 xP_new) :=
  fun vs σ r τ h => by
    obtain ⟨v0, rfl, h⟩ := zz_f1_ok h
    exact zz_from zc_xP_new zz_oc0 zz_ol0 ((ze_xP_new v0 σ).symm.trans h)
noncomputable def zw_xP_new : List Int → zz_S → zz_R := zz_f1 fun a0 σ => xP_new a0 σ
theorem zo_m_xP_new : zz_okm zz_inf 83 zw_xP_new := fun vs σ r τ h => by
  obtain ⟨a0, rfl, h⟩ := zz_f1_ok h
  exact zz_meth zi_xP_new zy_xP_new (zo_xP_new [a0] σ r τ h)
def zk_x_new : List zz_E := [(0, false, .aload_n 0, 1, 0, (0, 0, 0, 0), 0, []),
  (1, false, .invokespecial 1, 3, 87, (0, 0, 0, 0), 0, []),
  (4, false, .aload_n 0, 1, 0, (0, 0, 0, 0), 0, []),
  (5, false, .bipush 60, 2, 0, (0, 0, 0, 0), 0, []),
  (7, false, .anewarray 9, 3, 90, (11, 0, 0, 0), 0, []),
  (10, false, .putfield 11, 3, 163, (3, 0, 13, 1), 0, []),
  (13, false, .aload_n 0, 1, 0, (0, 0, 0, 0), 0, []),
  (14, false, .sipush 2000, 3, 0, (0, 0, 0, 0), 0, []),
  (17, false, .anewarray 15, 3, 92, (12, 0, 0, 0), 0, []),
  (20, false, .putfield 17, 3, 164, (3, 1, 14, 1), 0, []),
  (23, false, .aload_n 0, 1, 0, (0, 0, 0, 0), 0, []),
  (24, false, .bipush 8, 2, 0, (0, 0, 0, 0), 0, []),
  (26, false, .anewarray 15, 3, 92, (13, 0, 0, 0), 0, []),
  (29, false, .putfield 21, 3, 165, (3, 2, 15, 1), 0, []),
  (32, false, .aload_n 0, 1, 0, (0, 0, 0, 0), 0, []),
  (33, false, .new 24, 3, 94, (4, 0, 0, 0), 0, []),
  (36, false, .dup, 1, 0, (0, 0, 0, 0), 0, []),
  (37, false, .invokespecial 26, 3, 96, (75, 4, 999, 1), 0, [1004]),
  (40, false, .putfield 27, 3, 166, (3, 3, 6, 1), 0, []),
  (43, false, .aload_n 0, 1, 0, (0, 0, 0, 0), 0, []),
  (44, false, .new 31, 3, 120, (5, 0, 0, 0), 0, []),
  (47, false, .dup, 1, 0, (0, 0, 0, 0), 0, []),
  (48, false, .invokespecial 33, 3, 122, (81, 5, 999, 1), 0, [1005]),
  (51, false, .putfield 34, 3, 167, (3, 4, 7, 1), 0, []),
  (54, false, .aload_n 0, 1, 0, (0, 0, 0, 0), 0, []),
  (55, false, .new 38, 3, 143, (6, 0, 0, 0), 0, []),
  (58, false, .dup, 1, 0, (0, 0, 0, 0), 0, []),
  (59, false, .invokespecial 40, 3, 145, (83, 6, 999, 1), 0, [1006]),
  (62, false, .putfield 41, 3, 168, (3, 5, 8, 1), 0, []),
  (65, false, .aload_n 0, 1, 0, (0, 0, 0, 0), 0, []),
  (66, false, .bipush 8, 2, 0, (0, 0, 0, 0), 0, []),
  (68, false, .newarray .int, 2, 0, (14, 0, 0, 0), 0, []),
  (70, false, .putfield 45, 3, 169, (3, 6, 16, 1), 0, []),
  (73, false, .aload_n 0, 1, 0, (0, 0, 0, 0), 0, []),
  (74, false, .bipush 8, 2, 0, (0, 0, 0, 0), 0, []),
  (76, false, .newarray .int, 2, 0, (15, 0, 0, 0), 0, []),
  (78, false, .putfield 49, 3, 170, (3, 7, 17, 1), 0, []),
  (81, false, .aload_n 0, 1, 0, (0, 0, 0, 0), 0, []),
  (82, false, .bipush 8, 2, 0, (0, 0, 0, 0), 0, []),
  (84, false, .newarray .boolean, 2, 0, (16, 0, 0, 0), 0, []),
  (86, false, .putfield 52, 3, 171, (3, 8, 18, 1), 0, []),
  (89, false, .aload_n 0, 1, 0, (0, 0, 0, 0), 0, []),
  (90, false, .bipush 8, 2, 0, (0, 0, 0, 0), 0, []),
  (92, false, .newarray .int, 2, 0, (17, 0, 0, 0), 0, []),
  (94, false, .putfield 56, 3, 172, (3, 9, 19, 1), 0, []),
  (97, false, .aload_n 0, 1, 0, (0, 0, 0, 0), 0, []),
  (98, false, .bipush 60, 2, 0, (0, 0, 0, 0), 0, []),
  (100, false, .newarray .int, 2, 0, (18, 0, 0, 0), 0, []),
  (102, false, .putfield 59, 3, 173, (3, 10, 20, 1), 0, []),
  (105, false, .aload_n 0, 1, 0, (0, 0, 0, 0), 0, []),
  (106, false, .iconst 0, 1, 0, (0, 0, 0, 0), 0, []),
  (107, false, .putfield 62, 3, 174, (3, 11, 0, 0), 0, []),
  (110, false, .aload_n 0, 1, 0, (0, 0, 0, 0), 0, []),
  (111, false, .iconst 0, 1, 0, (0, 0, 0, 0), 0, []),
  (112, false, .putfield 66, 3, 175, (3, 12, 0, 0), 0, []),
  (115, false, .aload_n 0, 1, 0, (0, 0, 0, 0), 0, []),
  (116, false, .iconst 0, 1, 0, (0, 0, 0, 0), 0, []),
  (117, false, .putfield 69, 3, 176, (3, 13, 0, 0), 0, []),
  (120, false, .aload_n 0, 1, 0, (0, 0, 0, 0), 0, []),
  (121, false, .iconst 0, 1, 0, (0, 0, 0, 0), 0, []),
  (122, false, .putfield 72, 3, 177, (3, 14, 0, 0), 0, []),
  (125, false, .aload_n 0, 1, 0, (0, 0, 0, 0), 0, []),
  (126, false, .iconst 1, 1, 0, (0, 0, 0, 0), 0, []),
  (127, false, .putfield 75, 3, 178, (3, 15, 0, 0), 0, []),
  (130, false, .aload_n 0, 1, 0, (0, 0, 0, 0), 0, []),
  (131, false, .iconst 0, 1, 0, (0, 0, 0, 0), 0, []),
  (132, false, .putfield 78, 3, 179, (3, 16, 0, 0), 0, []),
  (135, false, .aload_n 0, 1, 0, (0, 0, 0, 0), 0, []),
  (136, false, .iconst 0, 1, 0, (0, 0, 0, 0), 0, []),
  (137, false, .putfield 81, 3, 180, (3, 17, 0, 0), 0, []),
  (140, false, .aload_n 0, 1, 0, (0, 0, 0, 0), 0, []),
  (141, false, .iconst (-1), 1, 0, (0, 0, 0, 0), 0, []),
  (142, false, .putfield 84, 3, 181, (3, 18, 0, 0), 0, []),
  (145, false, .aload_n 0, 1, 0, (0, 0, 0, 0), 0, []),
  (146, false, .iconst 0, 1, 0, (0, 0, 0, 0), 0, []),
  (147, false, .putfield 87, 3, 182, (3, 19, 0, 0), 1, []),
  (150, false, .return_, 1, 0, (0, 0, 0, 0), 0, [])]
theorem zc_x_new : zk_x_new.all (zz_ck zz_inf zM_x_new) = true ∧ zz_ch zk_x_new = true := ⟨by decide +kernel, by decide +kernel⟩
noncomputable def x_new (v0 : Int) (σ : zz_S) : zz_R := (let s1 := zz_n σ 11 1 60; (if true = true ∧ (zz_c σ 11 + 1) ≠ v0 then none else (let s2 := zz_w s1 3 v0 0 (zz_c σ 11 + 1); (let s3 := zz_n s2 12 1 2000; (if true = true ∧ (zz_c s2 12 + 1) ≠ v0 then none else (let s4 := zz_w s3 3 v0 1 (zz_c s2 12 + 1); (let s5 := zz_n s4 13 1 8; (if true = true ∧ (zz_c s4 13 + 1) ≠ v0 then none else (let s6 := zz_w s5 3 v0 2 (zz_c s4 13 + 1); (let s7 := zz_n s6 4 0 4; ((xD_new (zz_c s6 4 + 1) s7).bind fun q8 => (if zz_c q8.2 4 = zz_m q8.2 4 then (if true = true ∧ (zz_c s6 4 + 1) ≠ v0 then none else (let s9 := zz_w q8.2 3 v0 3 (zz_c s6 4 + 1); (let s10 := zz_n s9 5 0 4; ((xB_new (zz_c s9 5 + 1) s10).bind fun q11 => (if zz_c q11.2 5 = zz_m q11.2 5 then (if true = true ∧ (zz_c s9 5 + 1) ≠ v0 then none else (let s12 := zz_w q11.2 3 v0 4 (zz_c s9 5 + 1); (let s13 := zz_n s12 6 0 4; ((xP_new (zz_c s12 6 + 1) s13).bind fun q14 => (if zz_c q14.2 6 = zz_m q14.2 6 then (if true = true ∧ (zz_c s12 6 + 1) ≠ v0 then none else (let s15 := zz_w q14.2 3 v0 5 (zz_c s12 6 + 1); (let s16 := zz_n s15 14 1 8; (if true = true ∧ (zz_c s15 14 + 1) ≠ v0 then none else (let s17 := zz_w s16 3 v0 6 (zz_c s15 14 + 1); (let s18 := zz_n s17 15 1 8; (if true = true ∧ (zz_c s17 15 + 1) ≠ v0 then none else (let s19 := zz_w s18 3 v0 7 (zz_c s17 15 + 1); (let s20 := zz_n s19 16 1 8; (if true = true ∧ (zz_c s19 16 + 1) ≠ v0 then none else (let s21 := zz_w s20 3 v0 8 (zz_c s19 16 + 1); (let s22 := zz_n s21 17 1 8; (if true = true ∧ (zz_c s21 17 + 1) ≠ v0 then none else (let s23 := zz_w s22 3 v0 9 (zz_c s21 17 + 1); (let s24 := zz_n s23 18 1 60; (if true = true ∧ (zz_c s23 18 + 1) ≠ v0 then none else (let s25 := zz_w s24 3 v0 10 (zz_c s23 18 + 1); (let s26 := zz_w s25 3 v0 11 0; (let s27 := zz_w s26 3 v0 12 0; (let s28 := zz_w s27 3 v0 13 0; (let s29 := zz_w s28 3 v0 14 0; (let s30 := zz_w s29 3 v0 15 1; (let s31 := zz_w s30 3 v0 16 0; (let s32 := zz_w s31 3 v0 17 0; (let s33 := zz_w s32 3 v0 18 (-1); (let s34 := zz_w s33 3 v0 19 0; (if zz_ow s34 3 v0 (zz_own 3) = true ∧ zz_m s34 3 + 1 = v0 then (some (0, zz_f s34 3)) else none))))))))))))))))))))))))))) else none))))) else none))))) else none))))))))))))
set_option maxRecDepth 100000 in
set_option maxHeartbeats 4000000 in
theorem ze_x_new (v0 : Int) (σ : zz_S) : x_new v0 σ = zz_ev (zz_CE [(75, zw_xD_new), (81, zw_xB_new), (83, zw_xP_new)]) (zz_KE []) zk_x_new 999 false 3 0 400 true (zz_sk zk_x_new 0) [(0, 1003, v0)] [] σ := rfl
theorem zo_x_new : zz_okb zM_x_new 0 [(0, 1003, false)] (zz_f1 x_new) :=
  fun vs σ r τ h => by
    obtain ⟨v0, rfl, h⟩ := zz_f1_ok h
    exact zz_from zc_x_new (zz_occ zo_m_xD_new (zz_occ zo_m_xB_new (zz_occ zo_m_xP_new zz_oc0))) zz_ol0 ((ze_x_new v0 σ).symm.trans h)
noncomputable def zw_x_new : List Int → zz_S → zz_R := zz_f1 fun a0 σ => x_new a0 σ
theorem zo_m_x_new : zz_okm zz_inf 10 zw_x_new := fun vs σ r τ h => by
  obtain ⟨a0, rfl, h⟩ := zz_f1_ok h
  exact zz_meth zi_x_new zy_x_new (zo_x_new [a0] σ r τ h)
def zk_x_isWithin : List zz_E := [(0, false, .iload_n 0, 1, 0, (0, 0, 0, 0), 0, []),
  (1, false, .iload_n 1, 1, 0, (0, 0, 0, 0), 0, []),
  (2, false, .if_icmp .lt 12, 3, 0, (14, 0, 0, 0), 0, []),
  (5, false, .iload_n 0, 1, 0, (0, 0, 0, 0), 0, []),
  (6, false, .iload_n 2, 1, 0, (0, 0, 0, 0), 0, []),
  (7, false, .if_icmp .gt 7, 3, 0, (14, 0, 0, 0), 0, []),
  (10, false, .iconst 1, 1, 0, (0, 0, 0, 0), 0, []),
  (11, false, .goto 4, 3, 0, (15, 0, 0, 0), 0, []),
  (14, false, .iconst 0, 1, 0, (0, 0, 0, 0), 0, []),
  (15, false, .ireturn, 1, 0, (0, 0, 0, 0), 0, [])]
theorem zc_x_isWithin : zk_x_isWithin.all (zz_ck zz_inf zM_x_isWithin) = true ∧ zz_ch zk_x_isWithin = true := ⟨by decide +kernel, by decide +kernel⟩
noncomputable def x_isWithin (v0 v1 v2 : Int) (σ : zz_S) : zz_R := (if v0 < v1 then (some (0, σ)) else (if v0 ≤ v2 then (some (1, σ)) else (some (0, σ))))
set_option maxRecDepth 100000 in
set_option maxHeartbeats 4000000 in
theorem ze_x_isWithin (v0 v1 v2 : Int) (σ : zz_S) : x_isWithin v0 v1 v2 σ = zz_ev (zz_CE []) (zz_KE []) zk_x_isWithin 0 true 0 0 400 true (zz_sk zk_x_isWithin 0) [(0, 0, v0), (1, 0, v1), (2, 0, v2)] [] σ := rfl
theorem zo_x_isWithin : zz_okb zM_x_isWithin 0 [(0, 0, false), (1, 0, false), (2, 0, false)] (zz_f3 x_isWithin) :=
  fun vs σ r τ h => by
    obtain ⟨v0, v1, v2, rfl, h⟩ := zz_f3_ok h
    exact zz_from zc_x_isWithin zz_oc0 zz_ol0 ((ze_x_isWithin v0 v1 v2 σ).symm.trans h)
noncomputable def zw_x_isWithin : List Int → zz_S → zz_R := zz_f3 fun a0 a1 a2 σ => x_isWithin a0 a1 a2 σ
theorem zo_m_x_isWithin : zz_okm zz_inf 72 zw_x_isWithin := fun vs σ r τ h => by
  obtain ⟨a0, a1, a2, rfl, h⟩ := zz_f3_ok h
  exact zz_meth zi_x_isWithin zy_x_isWithin (zo_x_isWithin [a0, a1, a2] σ r τ h)
def zk_x_workers : List zz_E := [(0, false, .iload_n 1, 1, 0, (0, 0, 0, 0), 0, []),
  (1, false, .iconst 1, 1, 0, (0, 0, 0, 0), 0, []),
  (2, false, .bipush 8, 2, 0, (0, 0, 0, 0), 0, []),
  (4, false, .invokestatic 91, 3, 228, (72, 3, 0, 0), 0, [0, 0, 0]),
  (7, false, .ifCond .ne 6, 3, 0, (13, 0, 0, 0), 0, []),
  (10, false, .bipush (-2), 2, 0, (0, 0, 0, 0), 0, []),
  (12, false, .ireturn, 1, 0, (0, 0, 0, 0), 0, []),
  (13, false, .aload_n 0, 1, 0, (0, 0, 0, 0), 0, []),
  (14, false, .getfield 69, 3, 176, (3, 13, 0, 0), 0, []),
  (17, false, .ifCond .le 6, 3, 0, (23, 0, 0, 0), 0, []),
  (20, false, .bipush (-3), 2, 0, (0, 0, 0, 0), 0, []),
  (22, false, .ireturn, 1, 0, (0, 0, 0, 0), 0, []),
  (23, false, .aload_n 0, 1, 0, (0, 0, 0, 0), 0, []),
  (24, false, .iload_n 1, 1, 0, (0, 0, 0, 0), 0, []),
  (25, false, .putfield 75, 3, 178, (3, 15, 0, 0), 0, []),
  (28, false, .iconst 0, 1, 0, (0, 0, 0, 0), 0, []),
  (29, false, .istore_n 2, 1, 0, (0, 0, 0, 0), 0, []),
  (30, true, .iload_n 2, 1, 0, (0, 0, 0, 0), 0, []),
  (31, false, .bipush 8, 2, 0, (0, 0, 0, 0), 0, []),
  (33, false, .if_icmp .ge 16, 3, 0, (49, 0, 0, 0), 0, []),
  (36, false, .aload_n 0, 1, 0, (0, 0, 0, 0), 0, []),
  (37, false, .getfield 49, 3, 170, (3, 7, 17, 1), 0, []),
  (40, false, .iload_n 2, 1, 0, (0, 0, 0, 0), 0, []),
  (41, false, .iconst 0, 1, 0, (0, 0, 0, 0), 0, []),
  (42, false, .iastore, 1, 0, (15, 0, 0, 0), 0, []),
  (43, false, .iinc 2 1, 3, 0, (0, 0, 0, 0), 0, []),
  (46, false, .goto (-16), 3, 0, (30, 0, 0, 0), 0, []),
  (49, false, .iload_n 1, 1, 0, (0, 0, 0, 0), 0, []),
  (50, false, .ireturn, 1, 0, (0, 0, 0, 0), 0, [])]
theorem zc_x_workers : zk_x_workers.all (zz_ck zz_inf zM_x_workers) = true ∧ zz_ch zk_x_workers = true := ⟨by decide +kernel, by decide +kernel⟩
noncomputable def x_workers_30 : Nat → Int → Int → zz_S → zz_R
  | 0, _, _, _ => none
  | n + 1, v1, v2, σ => (if v2 < 8 then (if zz_b σ 15 1 v2 then (let s1 := zz_w σ 15 1 v2 0; (x_workers_30 n v1 (zz_r (v2 + 1)) s1)) else none) else (some (v1, σ)))
set_option maxRecDepth 100000 in
set_option maxHeartbeats 4000000 in
theorem ze_x_workers_30 (n : Nat) (v1 v2 : Int) (σ : zz_S) : x_workers_30 (n + 1) v1 v2 σ = zz_ev (zz_CE []) (zz_KE [(30, [(0, 5, true), (1, 0, false), (2, 0, false)], zz_f2 (x_workers_30 n))]) zk_x_workers 0 false 0 0 400 true (zz_sk zk_x_workers 30) [(0, 5, 1), (1, 0, v1), (2, 0, v2)] [] σ := rfl
theorem zo_x_workers_30 : ∀ n : Nat, zz_okb zM_x_workers 30 [(0, 5, true), (1, 0, false), (2, 0, false)] (zz_f2 (x_workers_30 n))
  | 0 => fun vs σ r τ h => by
    obtain ⟨v1, v2, rfl, h⟩ := zz_f2_ok h
    exact nomatch (show (none : zz_R) = some (r, τ) from h)
  | n + 1 => by
    have ih := zo_x_workers_30 n
    exact fun vs σ r τ h => by
        obtain ⟨v1, v2, rfl, h⟩ := zz_f2_ok h
        exact zz_from zc_x_workers zz_oc0 (zz_olc ih zz_ol0) ((ze_x_workers_30 n v1 v2 σ).symm.trans h)
noncomputable def x_workers (v1 : Int) (σ : zz_S) : zz_R := ((x_isWithin v1 1 8 σ).bind fun q1 => (if q1.1 = 0 then (some ((-2), q1.2)) else (if (zz_h q1.2 3 1 13) ≤ 0 then (let s2 := zz_w q1.2 3 1 15 v1; (x_workers_30 zz_fu v1 0 s2)) else (some ((-3), q1.2)))))
set_option maxRecDepth 100000 in
set_option maxHeartbeats 4000000 in
theorem ze_x_workers (v1 : Int) (σ : zz_S) : x_workers v1 σ = zz_ev (zz_CE [(72, zw_x_isWithin)]) (zz_KE [(30, [(0, 5, true), (1, 0, false), (2, 0, false)], zz_f2 (x_workers_30 zz_fu))]) zk_x_workers 0 false 0 0 400 true (zz_sk zk_x_workers 0) [(0, 5, 1), (1, 0, v1)] [] σ := rfl
theorem zo_x_workers : zz_okb zM_x_workers 0 [(0, 5, true), (1, 0, false)] (zz_f1 x_workers) :=
  fun vs σ r τ h => by
    obtain ⟨v1, rfl, h⟩ := zz_f1_ok h
    exact zz_from zc_x_workers (zz_occ zo_m_x_isWithin zz_oc0) (zz_olc (zo_x_workers_30 zz_fu) zz_ol0) ((ze_x_workers v1 σ).symm.trans h)
noncomputable def zw_x_workers : List Int → zz_S → zz_R := zz_f2 fun a0 a1 σ => if a0 = 1 then x_workers a1 σ else none
theorem zo_m_x_workers : zz_okm zz_inf 11 zw_x_workers := fun vs σ r τ h => by
  obtain ⟨a0, a1, rfl, h⟩ := zz_f2_ok h
  obtain ⟨e, h⟩ := zz_it h
  subst e
  exact zz_meth zi_x_workers zy_x_workers (zo_x_workers [a1] σ r τ h)
def zk_x_group : List zz_E := [(0, false, .iload_n 1, 1, 0, (0, 0, 0, 0), 0, []),
  (1, false, .iconst 1, 1, 0, (0, 0, 0, 0), 0, []),
  (2, false, .bipush 8, 2, 0, (0, 0, 0, 0), 0, []),
  (4, false, .invokestatic 91, 3, 228, (72, 3, 0, 0), 0, [0, 0, 0]),
  (7, false, .ifCond .ne 6, 3, 0, (13, 0, 0, 0), 0, []),
  (10, false, .bipush (-2), 2, 0, (0, 0, 0, 0), 0, []),
  (12, false, .ireturn, 1, 0, (0, 0, 0, 0), 0, []),
  (13, false, .aload_n 0, 1, 0, (0, 0, 0, 0), 0, []),
  (14, false, .getfield 72, 3, 177, (3, 14, 0, 0), 0, []),
  (17, false, .bipush 8, 2, 0, (0, 0, 0, 0), 0, []),
  (19, false, .if_icmp .lt 6, 3, 0, (25, 0, 0, 0), 0, []),
  (22, false, .bipush (-4), 2, 0, (0, 0, 0, 0), 0, []),
  (24, false, .ireturn, 1, 0, (0, 0, 0, 0), 0, []),
  (25, false, .aload_n 0, 1, 0, (0, 0, 0, 0), 0, []),
  (26, false, .getfield 45, 3, 169, (3, 6, 16, 1), 0, []),
  (29, false, .aload_n 0, 1, 0, (0, 0, 0, 0), 0, []),
  (30, false, .getfield 72, 3, 177, (3, 14, 0, 0), 0, []),
  (33, false, .iload_n 1, 1, 0, (0, 0, 0, 0), 0, []),
  (34, false, .iastore, 1, 0, (14, 0, 0, 0), 0, []),
  (35, false, .aload_n 0, 1, 0, (0, 0, 0, 0), 0, []),
  (36, false, .dup, 1, 0, (0, 0, 0, 0), 0, []),
  (37, false, .getfield 72, 3, 177, (3, 14, 0, 0), 0, []),
  (40, false, .iconst 1, 1, 0, (0, 0, 0, 0), 0, []),
  (41, false, .iadd, 1, 0, (0, 0, 0, 0), 0, []),
  (42, false, .putfield 72, 3, 177, (3, 14, 0, 0), 0, []),
  (45, false, .aload_n 0, 1, 0, (0, 0, 0, 0), 0, []),
  (46, false, .getfield 72, 3, 177, (3, 14, 0, 0), 0, []),
  (49, false, .iconst 1, 1, 0, (0, 0, 0, 0), 0, []),
  (50, false, .isub, 1, 0, (0, 0, 0, 0), 0, []),
  (51, false, .ireturn, 1, 0, (0, 0, 0, 0), 0, [])]
theorem zc_x_group : zk_x_group.all (zz_ck zz_inf zM_x_group) = true ∧ zz_ch zk_x_group = true := ⟨by decide +kernel, by decide +kernel⟩
noncomputable def x_group (v1 : Int) (σ : zz_S) : zz_R := ((x_isWithin v1 1 8 σ).bind fun q1 => (if q1.1 = 0 then (some ((-2), q1.2)) else (if (zz_h q1.2 3 1 14) < 8 then (if zz_b q1.2 14 1 (zz_h q1.2 3 1 14) then (let s2 := zz_w q1.2 14 1 (zz_h q1.2 3 1 14) v1; (let s3 := zz_w s2 3 1 14 (zz_r ((zz_h s2 3 1 14) + 1)); (some ((zz_r ((zz_h s3 3 1 14) - 1)), s3)))) else none) else (some ((-4), q1.2)))))
set_option maxRecDepth 100000 in
set_option maxHeartbeats 4000000 in
theorem ze_x_group (v1 : Int) (σ : zz_S) : x_group v1 σ = zz_ev (zz_CE [(72, zw_x_isWithin)]) (zz_KE []) zk_x_group 0 false 0 0 400 true (zz_sk zk_x_group 0) [(0, 5, 1), (1, 0, v1)] [] σ := rfl
theorem zo_x_group : zz_okb zM_x_group 0 [(0, 5, true), (1, 0, false)] (zz_f1 x_group) :=
  fun vs σ r τ h => by
    obtain ⟨v1, rfl, h⟩ := zz_f1_ok h
    exact zz_from zc_x_group (zz_occ zo_m_x_isWithin zz_oc0) zz_ol0 ((ze_x_group v1 σ).symm.trans h)
noncomputable def zw_x_group : List Int → zz_S → zz_R := zz_f2 fun a0 a1 σ => if a0 = 1 then x_group a1 σ else none
theorem zo_m_x_group : zz_okm zz_inf 12 zw_x_group := fun vs σ r τ h => by
  obtain ⟨a0, a1, rfl, h⟩ := zz_f2_ok h
  obtain ⟨e, h⟩ := zz_it h
  subst e
  exact zz_meth zi_x_group zy_x_group (zo_x_group [a1] σ r τ h)
def zk_xC_new : List zz_E := [(0, false, .aload_n 0, 1, 0, (0, 0, 0, 0), 0, []),
  (1, false, .invokespecial 3, 3, 251, (0, 0, 0, 0), 0, []),
  (4, false, .aload_n 0, 1, 0, (0, 0, 0, 0), 0, []),
  (5, false, .iconst 0, 1, 0, (0, 0, 0, 0), 0, []),
  (6, false, .putfield 9, 3, 253, (8, 0, 0, 0), 0, []),
  (9, false, .aload_n 0, 1, 0, (0, 0, 0, 0), 0, []),
  (10, false, .ldc2_w 15, 3, 252, (0, 0, 0, 0), (-1), []),
  (13, false, .putfield 17, 3, 255, (8, 1, 1, 0), 0, []),
  (16, false, .aload_n 0, 1, 0, (0, 0, 0, 0), 0, []),
  (17, false, .iconst (-1), 1, 0, (0, 0, 0, 0), 0, []),
  (18, false, .putfield 21, 3, 256, (8, 2, 0, 0), 0, []),
  (21, false, .aload_n 0, 1, 0, (0, 0, 0, 0), 0, []),
  (22, false, .iconst (-1), 1, 0, (0, 0, 0, 0), 0, []),
  (23, false, .putfield 24, 3, 257, (8, 3, 0, 0), 0, []),
  (26, false, .aload_n 0, 1, 0, (0, 0, 0, 0), 0, []),
  (27, false, .iconst (-1), 1, 0, (0, 0, 0, 0), 0, []),
  (28, false, .putfield 27, 3, 258, (8, 4, 0, 0), 0, []),
  (31, false, .aload_n 0, 1, 0, (0, 0, 0, 0), 0, []),
  (32, false, .iconst (-1), 1, 0, (0, 0, 0, 0), 0, []),
  (33, false, .putfield 30, 3, 259, (8, 5, 0, 0), 0, []),
  (36, false, .aload_n 0, 1, 0, (0, 0, 0, 0), 0, []),
  (37, false, .iconst (-1), 1, 0, (0, 0, 0, 0), 0, []),
  (38, false, .putfield 33, 3, 260, (8, 6, 0, 0), 0, []),
  (41, false, .aload_n 0, 1, 0, (0, 0, 0, 0), 0, []),
  (42, false, .iconst 0, 1, 0, (0, 0, 0, 0), 0, []),
  (43, false, .putfield 36, 3, 261, (8, 7, 0, 0), 1, []),
  (46, false, .return_, 1, 0, (0, 0, 0, 0), 0, [])]
theorem zc_xC_new : zk_xC_new.all (zz_ck zz_inf zM_xC_new) = true ∧ zz_ch zk_xC_new = true := ⟨by decide +kernel, by decide +kernel⟩
noncomputable def xC_new (v0 : Int) (σ : zz_S) : zz_R := (let s1 := zz_w σ 8 v0 0 0; (let s2 := zz_w s1 8 v0 1 (-1); (let s3 := zz_w s2 8 v0 2 (-1); (let s4 := zz_w s3 8 v0 3 (-1); (let s5 := zz_w s4 8 v0 4 (-1); (let s6 := zz_w s5 8 v0 5 (-1); (let s7 := zz_w s6 8 v0 6 (-1); (let s8 := zz_w s7 8 v0 7 0; (if zz_ow s8 8 v0 (zz_own 8) = true ∧ zz_m s8 8 + 1 = v0 then (some (0, zz_f s8 8)) else none)))))))))
set_option maxRecDepth 100000 in
set_option maxHeartbeats 4000000 in
theorem ze_xC_new (v0 : Int) (σ : zz_S) : xC_new v0 σ = zz_ev (zz_CE []) (zz_KE []) zk_xC_new 999 false 8 0 400 true (zz_sk zk_xC_new 0) [(0, 1008, v0)] [] σ := rfl
theorem zo_xC_new : zz_okb zM_xC_new 0 [(0, 1008, false)] (zz_f1 xC_new) :=
  fun vs σ r τ h => by
    obtain ⟨v0, rfl, h⟩ := zz_f1_ok h
    exact zz_from zc_xC_new zz_oc0 zz_ol0 ((ze_xC_new v0 σ).symm.trans h)
noncomputable def zw_xC_new : List Int → zz_S → zz_R := zz_f1 fun a0 σ => xC_new a0 σ
theorem zo_m_xC_new : zz_okm zz_inf 93 zw_xC_new := fun vs σ r τ h => by
  obtain ⟨a0, rfl, h⟩ := zz_f1_ok h
  exact zz_meth zi_xC_new zy_xC_new (zo_xC_new [a0] σ r τ h)
def zk_xN_new : List zz_E := [(0, false, .aload_n 0, 1, 0, (0, 0, 0, 0), 0, []),
  (1, false, .invokespecial 3, 3, 284, (0, 0, 0, 0), 0, []),
  (4, false, .aload_n 0, 1, 0, (0, 0, 0, 0), 0, []),
  (5, false, .iconst 4, 1, 0, (0, 0, 0, 0), 0, []),
  (6, false, .newarray .int, 2, 0, (29, 0, 0, 0), 0, []),
  (8, false, .putfield 9, 3, 285, (9, 0, 31, 1), 0, []),
  (11, false, .aload_n 0, 1, 0, (0, 0, 0, 0), 0, []),
  (12, false, .iconst 4, 1, 0, (0, 0, 0, 0), 0, []),
  (13, false, .newarray .int, 2, 0, (30, 0, 0, 0), 0, []),
  (15, false, .putfield 15, 3, 287, (9, 1, 32, 1), 0, []),
  (18, false, .aload_n 0, 1, 0, (0, 0, 0, 0), 0, []),
  (19, false, .iconst 0, 1, 0, (0, 0, 0, 0), 0, []),
  (20, false, .putfield 18, 3, 288, (9, 2, 0, 0), 0, []),
  (23, false, .return_, 1, 0, (0, 0, 0, 0), 0, [])]
theorem zc_xN_new : zk_xN_new.all (zz_ck zz_inf zM_xN_new) = true ∧ zz_ch zk_xN_new = true := ⟨by decide +kernel, by decide +kernel⟩
noncomputable def xN_new (v0 : Int) (σ : zz_S) : zz_R := (let s1 := zz_n σ 29 1 4; (if true = true ∧ (zz_c σ 29 + 1) ≠ v0 then none else (let s2 := zz_w s1 9 v0 0 (zz_c σ 29 + 1); (let s3 := zz_n s2 30 1 4; (if true = true ∧ (zz_c s2 30 + 1) ≠ v0 then none else (let s4 := zz_w s3 9 v0 1 (zz_c s2 30 + 1); (let s5 := zz_w s4 9 v0 2 0; (if zz_ow s5 9 v0 (zz_own 9) = true ∧ zz_m s5 9 + 1 = v0 then (some (0, zz_f s5 9)) else none))))))))
set_option maxRecDepth 100000 in
set_option maxHeartbeats 4000000 in
theorem ze_xN_new (v0 : Int) (σ : zz_S) : xN_new v0 σ = zz_ev (zz_CE []) (zz_KE []) zk_xN_new 999 false 9 0 400 true (zz_sk zk_xN_new 0) [(0, 1009, v0)] [] σ := rfl
theorem zo_xN_new : zz_okb zM_xN_new 0 [(0, 1009, false)] (zz_f1 xN_new) :=
  fun vs σ r τ h => by
    obtain ⟨v0, rfl, h⟩ := zz_f1_ok h
    exact zz_from zc_xN_new zz_oc0 zz_ol0 ((ze_xN_new v0 σ).symm.trans h)
noncomputable def zw_xN_new : List Int → zz_S → zz_R := zz_f1 fun a0 σ => xN_new a0 σ
theorem zo_m_xN_new : zz_okm zz_inf 103 zw_xN_new := fun vs σ r τ h => by
  obtain ⟨a0, rfl, h⟩ := zz_f1_ok h
  exact zz_meth zi_xN_new zy_xN_new (zo_xN_new [a0] σ r τ h)
def zk_xT_new : List zz_E := [(0, false, .aload_n 0, 1, 0, (0, 0, 0, 0), 0, []),
  (1, false, .invokespecial 3, 3, 245, (0, 0, 0, 0), 0, []),
  (4, false, .aload_n 0, 1, 0, (0, 0, 0, 0), 0, []),
  (5, false, .bipush 6, 2, 0, (0, 0, 0, 0), 0, []),
  (7, false, .newarray .int, 2, 0, (28, 0, 0, 0), 0, []),
  (9, false, .dup, 1, 0, (0, 0, 0, 0), 0, []),
  (10, false, .iconst 0, 1, 0, (0, 0, 0, 0), 0, []),
  (11, false, .iconst 1, 1, 0, (0, 0, 0, 0), 0, []),
  (12, false, .iastore, 1, 0, (28, 0, 0, 0), 0, []),
  (13, false, .dup, 1, 0, (0, 0, 0, 0), 0, []),
  (14, false, .iconst 1, 1, 0, (0, 0, 0, 0), 0, []),
  (15, false, .iconst 0, 1, 0, (0, 0, 0, 0), 0, []),
  (16, false, .iastore, 1, 0, (28, 0, 0, 0), 0, []),
  (17, false, .dup, 1, 0, (0, 0, 0, 0), 0, []),
  (18, false, .iconst 2, 1, 0, (0, 0, 0, 0), 0, []),
  (19, false, .iconst (-1), 1, 0, (0, 0, 0, 0), 0, []),
  (20, false, .iastore, 1, 0, (28, 0, 0, 0), 0, []),
  (21, false, .dup, 1, 0, (0, 0, 0, 0), 0, []),
  (22, false, .iconst 3, 1, 0, (0, 0, 0, 0), 0, []),
  (23, false, .iconst 0, 1, 0, (0, 0, 0, 0), 0, []),
  (24, false, .iastore, 1, 0, (28, 0, 0, 0), 0, []),
  (25, false, .dup, 1, 0, (0, 0, 0, 0), 0, []),
  (26, false, .iconst 4, 1, 0, (0, 0, 0, 0), 0, []),
  (27, false, .iconst 0, 1, 0, (0, 0, 0, 0), 0, []),
  (28, false, .iastore, 1, 0, (28, 0, 0, 0), 0, []),
  (29, false, .dup, 1, 0, (0, 0, 0, 0), 0, []),
  (30, false, .iconst 5, 1, 0, (0, 0, 0, 0), 0, []),
  (31, false, .iconst 0, 1, 0, (0, 0, 0, 0), 0, []),
  (32, false, .iastore, 1, 0, (28, 0, 0, 0), 0, []),
  (33, false, .putfield 9, 3, 306, (7, 4, 30, 1), 0, []),
  (36, false, .aload_n 0, 1, 0, (0, 0, 0, 0), 0, []),
  (37, false, .new 15, 3, 246, (8, 0, 0, 0), 0, []),
  (40, false, .dup, 1, 0, (0, 0, 0, 0), 0, []),
  (41, false, .invokespecial 17, 3, 248, (93, 8, 999, 1), 0, [1008]),
  (44, false, .putfield 18, 3, 310, (7, 5, 10, 1), 0, []),
  (47, false, .aload_n 0, 1, 0, (0, 0, 0, 0), 0, []),
  (48, false, .new 22, 3, 279, (9, 0, 0, 0), 0, []),
  (51, false, .dup, 1, 0, (0, 0, 0, 0), 0, []),
  (52, false, .invokespecial 24, 3, 281, (103, 9, 999, 1), 0, [1009]),
  (55, false, .putfield 25, 3, 312, (7, 6, 11, 1), 0, []),
  (58, false, .aload_n 0, 1, 0, (0, 0, 0, 0), 0, []),
  (59, false, .iconst 0, 1, 0, (0, 0, 0, 0), 0, []),
  (60, false, .putfield 29, 3, 314, (7, 7, 0, 0), 0, []),
  (63, false, .aload_n 0, 1, 0, (0, 0, 0, 0), 0, []),
  (64, false, .iconst 0, 1, 0, (0, 0, 0, 0), 0, []),
  (65, false, .putfield 33, 3, 316, (7, 8, 0, 0), 0, []),
  (68, false, .aload_n 0, 1, 0, (0, 0, 0, 0), 0, []),
  (69, false, .iconst 0, 1, 0, (0, 0, 0, 0), 0, []),
  (70, false, .putfield 36, 3, 318, (7, 9, 0, 0), 0, []),
  (73, false, .aload_n 0, 1, 0, (0, 0, 0, 0), 0, []),
  (74, false, .iconst 0, 1, 0, (0, 0, 0, 0), 0, []),
  (75, false, .putfield 39, 3, 320, (7, 10, 0, 0), 0, []),
  (78, false, .aload_n 0, 1, 0, (0, 0, 0, 0), 0, []),
  (79, false, .iconst 0, 1, 0, (0, 0, 0, 0), 0, []),
  (80, false, .putfield 42, 3, 324, (7, 12, 0, 0), 0, []),
  (83, false, .aload_n 0, 1, 0, (0, 0, 0, 0), 0, []),
  (84, false, .iconst 0, 1, 0, (0, 0, 0, 0), 0, []),
  (85, false, .putfield 45, 3, 326, (7, 13, 0, 0), 0, []),
  (88, false, .aload_n 0, 1, 0, (0, 0, 0, 0), 0, []),
  (89, false, .iconst 0, 1, 0, (0, 0, 0, 0), 0, []),
  (90, false, .putfield 48, 3, 329, (7, 14, 0, 0), 0, []),
  (93, false, .aload_n 0, 1, 0, (0, 0, 0, 0), 0, []),
  (94, false, .iconst 0, 1, 0, (0, 0, 0, 0), 0, []),
  (95, false, .putfield 51, 3, 331, (7, 15, 0, 0), 0, []),
  (98, false, .aload_n 0, 1, 0, (0, 0, 0, 0), 0, []),
  (99, false, .iconst 0, 1, 0, (0, 0, 0, 0), 0, []),
  (100, false, .putfield 54, 3, 333, (7, 16, 0, 0), 0, []),
  (103, false, .aload_n 0, 1, 0, (0, 0, 0, 0), 0, []),
  (104, false, .iconst 0, 1, 0, (0, 0, 0, 0), 0, []),
  (105, false, .putfield 57, 3, 336, (7, 17, 0, 0), 0, []),
  (108, false, .aload_n 0, 1, 0, (0, 0, 0, 0), 0, []),
  (109, false, .iconst (-1), 1, 0, (0, 0, 0, 0), 0, []),
  (110, false, .putfield 60, 3, 338, (7, 18, 0, 0), 0, []),
  (113, false, .aload_n 0, 1, 0, (0, 0, 0, 0), 0, []),
  (114, false, .iconst (-1), 1, 0, (0, 0, 0, 0), 0, []),
  (115, false, .putfield 63, 3, 339, (7, 19, 0, 0), 0, []),
  (118, false, .aload_n 0, 1, 0, (0, 0, 0, 0), 0, []),
  (119, false, .iload_n 1, 1, 0, (0, 0, 0, 0), 0, []),
  (120, false, .putfield 66, 3, 297, (7, 0, 0, 0), 0, []),
  (123, false, .aload_n 0, 1, 0, (0, 0, 0, 0), 0, []),
  (124, false, .iload_n 2, 1, 0, (0, 0, 0, 0), 0, []),
  (125, false, .putfield 69, 3, 300, (7, 1, 0, 0), 0, []),
  (128, false, .aload_n 0, 1, 0, (0, 0, 0, 0), 0, []),
  (129, false, .iload_n 3, 1, 0, (0, 0, 0, 0), 0, []),
  (130, false, .putfield 72, 3, 302, (7, 2, 0, 0), 0, []),
  (133, false, .aload_n 0, 1, 0, (0, 0, 0, 0), 0, []),
  (134, false, .iload 4, 2, 0, (0, 0, 0, 0), 0, []),
  (136, false, .putfield 75, 3, 304, (7, 3, 0, 0), 0, []),
  (139, false, .aload_n 0, 1, 0, (0, 0, 0, 0), 0, []),
  (140, false, .iload_n 2, 1, 0, (0, 0, 0, 0), 0, []),
  (141, false, .iconst 2, 1, 0, (0, 0, 0, 0), 0, []),
  (142, false, .if_icmp .ne 7, 3, 0, (149, 0, 0, 0), 0, []),
  (145, false, .iload_n 3, 1, 0, (0, 0, 0, 0), 0, []),
  (146, false, .goto 4, 3, 0, (150, 0, 0, 0), 0, []),
  (149, false, .iconst (-1), 1, 0, (0, 0, 0, 0), 0, []),
  (150, false, .putfield 78, 3, 322, (7, 11, 0, 0), 0, []),
  (153, false, .return_, 1, 0, (0, 0, 0, 0), 0, [])]
theorem zc_xT_new : zk_xT_new.all (zz_ck zz_inf zM_xT_new) = true ∧ zz_ch zk_xT_new = true := ⟨by decide +kernel, by decide +kernel⟩
noncomputable def xT_new (v0 v1 v2 v3 v4 : Int) (σ : zz_S) : zz_R := (let s1 := zz_n σ 28 1 6; (if (zz_c σ 28 + 1) = 0 then none else (if zz_b s1 28 (zz_c σ 28 + 1) 0 then (let s2 := zz_w s1 28 (zz_c σ 28 + 1) 0 1; (if (zz_c σ 28 + 1) = 0 then none else (if zz_b s2 28 (zz_c σ 28 + 1) 1 then (let s3 := zz_w s2 28 (zz_c σ 28 + 1) 1 0; (if (zz_c σ 28 + 1) = 0 then none else (if zz_b s3 28 (zz_c σ 28 + 1) 2 then (let s4 := zz_w s3 28 (zz_c σ 28 + 1) 2 (-1); (if (zz_c σ 28 + 1) = 0 then none else (if zz_b s4 28 (zz_c σ 28 + 1) 3 then (let s5 := zz_w s4 28 (zz_c σ 28 + 1) 3 0; (if (zz_c σ 28 + 1) = 0 then none else (if zz_b s5 28 (zz_c σ 28 + 1) 4 then (let s6 := zz_w s5 28 (zz_c σ 28 + 1) 4 0; (if (zz_c σ 28 + 1) = 0 then none else (if zz_b s6 28 (zz_c σ 28 + 1) 5 then (let s7 := zz_w s6 28 (zz_c σ 28 + 1) 5 0; (if true = true ∧ (zz_c σ 28 + 1) ≠ v0 then none else (let s8 := zz_w s7 7 v0 4 (zz_c σ 28 + 1); (let s9 := zz_n s8 8 0 8; ((xC_new (zz_c s8 8 + 1) s9).bind fun q10 => (if zz_c q10.2 8 = zz_m q10.2 8 then (if true = true ∧ (zz_c s8 8 + 1) ≠ v0 then none else (let s11 := zz_w q10.2 7 v0 5 (zz_c s8 8 + 1); (let s12 := zz_n s11 9 0 3; ((xN_new (zz_c s11 9 + 1) s12).bind fun q13 => (if zz_c q13.2 9 = zz_m q13.2 9 then (if true = true ∧ (zz_c s11 9 + 1) ≠ v0 then none else (let s14 := zz_w q13.2 7 v0 6 (zz_c s11 9 + 1); (let s15 := zz_w s14 7 v0 7 0; (let s16 := zz_w s15 7 v0 8 0; (let s17 := zz_w s16 7 v0 9 0; (let s18 := zz_w s17 7 v0 10 0; (let s19 := zz_w s18 7 v0 12 0; (let s20 := zz_w s19 7 v0 13 0; (let s21 := zz_w s20 7 v0 14 0; (let s22 := zz_w s21 7 v0 15 0; (let s23 := zz_w s22 7 v0 16 0; (let s24 := zz_w s23 7 v0 17 0; (let s25 := zz_w s24 7 v0 18 (-1); (let s26 := zz_w s25 7 v0 19 (-1); (let s27 := zz_w s26 7 v0 0 v1; (let s28 := zz_w s27 7 v0 1 v2; (let s29 := zz_w s28 7 v0 2 v3; (let s30 := zz_w s29 7 v0 3 v4; (if v2 = 2 then (let s31 := zz_w s30 7 v0 11 v3; (if zz_ow s31 7 v0 (zz_own 7) = true ∧ zz_m s31 7 + 1 = v0 then (some (0, zz_f s31 7)) else none)) else (let s32 := zz_w s30 7 v0 11 (-1); (if zz_ow s32 7 v0 (zz_own 7) = true ∧ zz_m s32 7 + 1 = v0 then (some (0, zz_f s32 7)) else none))))))))))))))))))))) else none))))) else none)))))) else none))) else none))) else none))) else none))) else none))) else none)))
set_option maxRecDepth 100000 in
set_option maxHeartbeats 4000000 in
theorem ze_xT_new (v0 v1 v2 v3 v4 : Int) (σ : zz_S) : xT_new v0 v1 v2 v3 v4 σ = zz_ev (zz_CE [(93, zw_xC_new), (103, zw_xN_new)]) (zz_KE []) zk_xT_new 999 false 7 0 400 true (zz_sk zk_xT_new 0) [(0, 1007, v0), (1, 0, v1), (2, 0, v2), (3, 0, v3), (4, 0, v4)] [] σ := rfl
theorem zo_xT_new : zz_okb zM_xT_new 0 [(0, 1007, false), (1, 0, false), (2, 0, false), (3, 0, false), (4, 0, false)] (zz_f5 xT_new) :=
  fun vs σ r τ h => by
    obtain ⟨v0, v1, v2, v3, v4, rfl, h⟩ := zz_f5_ok h
    exact zz_from zc_xT_new (zz_occ zo_m_xC_new (zz_occ zo_m_xN_new zz_oc0)) zz_ol0 ((ze_xT_new v0 v1 v2 v3 v4 σ).symm.trans h)
noncomputable def zw_xT_new : List Int → zz_S → zz_R := zz_f5 fun a0 a1 a2 a3 a4 σ => xT_new a0 a1 a2 a3 a4 σ
theorem zo_m_xT_new : zz_okm zz_inf 87 zw_xT_new := fun vs σ r τ h => by
  obtain ⟨a0, a1, a2, a3, a4, rfl, h⟩ := zz_f5_ok h
  exact zz_meth zi_xT_new zy_xT_new (zo_xT_new [a0, a1, a2, a3, a4] σ r τ h)
def zk_x_task : List zz_E := [(0, false, .iload_n 1, 1, 0, (0, 0, 0, 0), 0, []),
  (1, false, .iconst 0, 1, 0, (0, 0, 0, 0), 0, []),
  (2, false, .iconst 4, 1, 0, (0, 0, 0, 0), 0, []),
  (3, false, .invokestatic 91, 3, 228, (72, 3, 0, 0), 0, [0, 0, 0]),
  (6, false, .ifCond .ne 6, 3, 0, (12, 0, 0, 0), 0, []),
  (9, false, .bipush (-2), 2, 0, (0, 0, 0, 0), 0, []),
  (11, false, .ireturn, 1, 0, (0, 0, 0, 0), 0, []),
  (12, false, .iload_n 1, 1, 0, (0, 0, 0, 0), 0, []),
  (13, false, .iconst 2, 1, 0, (0, 0, 0, 0), 0, []),
  (14, false, .if_icmp .gt 19, 3, 0, (33, 0, 0, 0), 0, []),
  (17, false, .iload_n 2, 1, 0, (0, 0, 0, 0), 0, []),
  (18, false, .aload_n 0, 1, 0, (0, 0, 0, 0), 0, []),
  (19, false, .getfield 78, 3, 179, (3, 16, 0, 0), 0, []),
  (22, false, .ldc 95, 2, 239, (0, 0, 0, 0), 400000, []),
  (24, false, .invokestatic 91, 3, 228, (72, 3, 0, 0), 0, [0, 0, 0]),
  (27, false, .ifCond .ne 6, 3, 0, (33, 0, 0, 0), 0, []),
  (30, false, .bipush (-2), 2, 0, (0, 0, 0, 0), 0, []),
  (32, false, .ireturn, 1, 0, (0, 0, 0, 0), 0, []),
  (33, true, .iload_n 1, 1, 0, (0, 0, 0, 0), 0, []),
  (34, false, .iconst 1, 1, 0, (0, 0, 0, 0), 0, []),
  (35, false, .if_icmp .eq 8, 3, 0, (43, 0, 0, 0), 0, []),
  (38, false, .iload_n 1, 1, 0, (0, 0, 0, 0), 0, []),
  (39, false, .iconst 2, 1, 0, (0, 0, 0, 0), 0, []),
  (40, false, .if_icmp .ne 16, 3, 0, (56, 0, 0, 0), 0, []),
  (43, false, .iload_n 3, 1, 0, (0, 0, 0, 0), 0, []),
  (44, false, .iconst 1, 1, 0, (0, 0, 0, 0), 0, []),
  (45, false, .ldc 96, 2, 240, (0, 0, 0, 0), 100000, []),
  (47, false, .invokestatic 91, 3, 228, (72, 3, 0, 0), 0, [0, 0, 0]),
  (50, false, .ifCond .ne 6, 3, 0, (56, 0, 0, 0), 0, []),
  (53, false, .bipush (-2), 2, 0, (0, 0, 0, 0), 0, []),
  (55, false, .ireturn, 1, 0, (0, 0, 0, 0), 0, []),
  (56, true, .aload_n 0, 1, 0, (0, 0, 0, 0), 0, []),
  (57, false, .getfield 62, 3, 174, (3, 11, 0, 0), 0, []),
  (60, false, .bipush 60, 2, 0, (0, 0, 0, 0), 0, []),
  (62, false, .if_icmp .lt 6, 3, 0, (68, 0, 0, 0), 0, []),
  (65, false, .bipush (-4), 2, 0, (0, 0, 0, 0), 0, []),
  (67, false, .ireturn, 1, 0, (0, 0, 0, 0), 0, []),
  (68, false, .aload_n 0, 1, 0, (0, 0, 0, 0), 0, []),
  (69, false, .getfield 11, 3, 163, (3, 0, 13, 1), 0, []),
  (72, false, .aload_n 0, 1, 0, (0, 0, 0, 0), 0, []),
  (73, false, .getfield 62, 3, 174, (3, 11, 0, 0), 0, []),
  (76, false, .new 9, 3, 90, (7, 0, 0, 0), 0, []),
  (79, false, .dup, 1, 0, (0, 0, 0, 0), 0, []),
  (80, false, .aload_n 0, 1, 0, (0, 0, 0, 0), 0, []),
  (81, false, .getfield 62, 3, 174, (3, 11, 0, 0), 0, []),
  (84, false, .iload_n 1, 1, 0, (0, 0, 0, 0), 0, []),
  (85, false, .iload_n 2, 1, 0, (0, 0, 0, 0), 0, []),
  (86, false, .iload_n 3, 1, 0, (0, 0, 0, 0), 0, []),
  (87, false, .invokespecial 97, 3, 242, (87, 7, 999, 0), 0, [0, 0, 0, 0, 1007]),
  (90, false, .aastore, 1, 0, (11, 0, 9, 0), 0, []),
  (91, false, .aload_n 0, 1, 0, (0, 0, 0, 0), 0, []),
  (92, false, .dup, 1, 0, (0, 0, 0, 0), 0, []),
  (93, false, .getfield 62, 3, 174, (3, 11, 0, 0), 0, []),
  (96, false, .iconst 1, 1, 0, (0, 0, 0, 0), 0, []),
  (97, false, .iadd, 1, 0, (0, 0, 0, 0), 0, []),
  (98, false, .putfield 62, 3, 174, (3, 11, 0, 0), 0, []),
  (101, false, .aload_n 0, 1, 0, (0, 0, 0, 0), 0, []),
  (102, false, .getfield 62, 3, 174, (3, 11, 0, 0), 0, []),
  (105, false, .iconst 1, 1, 0, (0, 0, 0, 0), 0, []),
  (106, false, .isub, 1, 0, (0, 0, 0, 0), 0, []),
  (107, false, .ireturn, 1, 0, (0, 0, 0, 0), 0, [])]
theorem zc_x_task : zk_x_task.all (zz_ck zz_inf zM_x_task) = true ∧ zz_ch zk_x_task = true := ⟨by decide +kernel, by decide +kernel⟩
noncomputable def x_task_56 (v1 v2 v3 : Int) (σ : zz_S) : zz_R := (if (zz_h σ 3 1 11) < 60 then (let s1 := zz_n σ 7 0 20; ((xT_new (zz_c σ 7 + 1) (zz_h s1 3 1 11) v1 v2 v3 s1).bind fun q2 => (if zz_c q2.2 7 = zz_m q2.2 7 then (if zz_b q2.2 11 1 (zz_h σ 3 1 11) then (if (zz_c σ 7 + 1) = 0 then none else (let s3 := zz_w q2.2 11 1 (zz_h σ 3 1 11) (zz_c σ 7 + 1); (let s4 := zz_w s3 3 1 11 (zz_r ((zz_h s3 3 1 11) + 1)); (some ((zz_r ((zz_h s4 3 1 11) - 1)), s4))))) else none) else none))) else (some ((-4), σ)))
set_option maxRecDepth 100000 in
set_option maxHeartbeats 4000000 in
theorem ze_x_task_56 (v1 v2 v3 : Int) (σ : zz_S) : x_task_56 v1 v2 v3 σ = zz_ev (zz_CE [(87, zw_xT_new)]) (zz_KE []) zk_x_task 0 false 0 0 400 true (zz_sk zk_x_task 56) [(0, 5, 1), (1, 0, v1), (2, 0, v2), (3, 0, v3)] [] σ := rfl
theorem zo_x_task_56 : zz_okb zM_x_task 56 [(0, 5, true), (1, 0, false), (2, 0, false), (3, 0, false)] (zz_f3 x_task_56) :=
  fun vs σ r τ h => by
    obtain ⟨v1, v2, v3, rfl, h⟩ := zz_f3_ok h
    exact zz_from zc_x_task (zz_occ zo_m_xT_new zz_oc0) zz_ol0 ((ze_x_task_56 v1 v2 v3 σ).symm.trans h)
noncomputable def x_task_33 (v1 v2 v3 : Int) (σ : zz_S) : zz_R := (if v1 = 1 then ((x_isWithin v3 1 100000 σ).bind fun q1 => (if q1.1 = 0 then (some ((-2), q1.2)) else (x_task_56 v1 v2 v3 q1.2))) else (if v1 = 2 then ((x_isWithin v3 1 100000 σ).bind fun q2 => (if q2.1 = 0 then (some ((-2), q2.2)) else (x_task_56 v1 v2 v3 q2.2))) else (x_task_56 v1 v2 v3 σ)))
set_option maxRecDepth 100000 in
set_option maxHeartbeats 4000000 in
theorem ze_x_task_33 (v1 v2 v3 : Int) (σ : zz_S) : x_task_33 v1 v2 v3 σ = zz_ev (zz_CE [(72, zw_x_isWithin)]) (zz_KE [(56, [(0, 5, true), (1, 0, false), (2, 0, false), (3, 0, false)], zz_f3 (x_task_56))]) zk_x_task 0 false 0 0 400 true (zz_sk zk_x_task 33) [(0, 5, 1), (1, 0, v1), (2, 0, v2), (3, 0, v3)] [] σ := rfl
theorem zo_x_task_33 : zz_okb zM_x_task 33 [(0, 5, true), (1, 0, false), (2, 0, false), (3, 0, false)] (zz_f3 x_task_33) :=
  fun vs σ r τ h => by
    obtain ⟨v1, v2, v3, rfl, h⟩ := zz_f3_ok h
    exact zz_from zc_x_task (zz_occ zo_m_x_isWithin zz_oc0) (zz_olc (zo_x_task_56) zz_ol0) ((ze_x_task_33 v1 v2 v3 σ).symm.trans h)
noncomputable def x_task (v1 v2 v3 : Int) (σ : zz_S) : zz_R := ((x_isWithin v1 0 4 σ).bind fun q1 => (if q1.1 = 0 then (some ((-2), q1.2)) else (if v1 ≤ 2 then ((x_isWithin v2 (zz_h q1.2 3 1 16) 400000 q1.2).bind fun q2 => (if q2.1 = 0 then (some ((-2), q2.2)) else (x_task_33 v1 v2 v3 q2.2))) else (x_task_33 v1 v2 v3 q1.2))))
set_option maxRecDepth 100000 in
set_option maxHeartbeats 4000000 in
theorem ze_x_task (v1 v2 v3 : Int) (σ : zz_S) : x_task v1 v2 v3 σ = zz_ev (zz_CE [(72, zw_x_isWithin)]) (zz_KE [(33, [(0, 5, true), (1, 0, false), (2, 0, false), (3, 0, false)], zz_f3 (x_task_33))]) zk_x_task 0 false 0 0 400 true (zz_sk zk_x_task 0) [(0, 5, 1), (1, 0, v1), (2, 0, v2), (3, 0, v3)] [] σ := rfl
theorem zo_x_task : zz_okb zM_x_task 0 [(0, 5, true), (1, 0, false), (2, 0, false), (3, 0, false)] (zz_f3 x_task) :=
  fun vs σ r τ h => by
    obtain ⟨v1, v2, v3, rfl, h⟩ := zz_f3_ok h
    exact zz_from zc_x_task (zz_occ zo_m_x_isWithin zz_oc0) (zz_olc (zo_x_task_33) zz_ol0) ((ze_x_task v1 v2 v3 σ).symm.trans h)
noncomputable def zw_x_task : List Int → zz_S → zz_R := zz_f4 fun a0 a1 a2 a3 σ => if a0 = 1 then x_task a1 a2 a3 σ else none
theorem zo_m_x_task : zz_okm zz_inf 13 zw_x_task := fun vs σ r τ h => by
  obtain ⟨a0, a1, a2, a3, rfl, h⟩ := zz_f4_ok h
  obtain ⟨e, h⟩ := zz_it h
  subst e
  exact zz_meth zi_x_task zy_x_task (zo_x_task [a1, a2, a3] σ r τ h)
def zk_x_taskAt : List zz_E := [(0, false, .iload_n 1, 1, 0, (0, 0, 0, 0), 0, []),
  (1, false, .iconst 0, 1, 0, (0, 0, 0, 0), 0, []),
  (2, false, .aload_n 0, 1, 0, (0, 0, 0, 0), 0, []),
  (3, false, .getfield 62, 3, 174, (3, 11, 0, 0), 0, []),
  (6, false, .iconst 1, 1, 0, (0, 0, 0, 0), 0, []),
  (7, false, .isub, 1, 0, (0, 0, 0, 0), 0, []),
  (8, false, .invokestatic 91, 3, 228, (72, 3, 0, 0), 0, [0, 0, 0]),
  (11, false, .ifCond .eq 12, 3, 0, (23, 0, 0, 0), 0, []),
  (14, false, .aload_n 0, 1, 0, (0, 0, 0, 0), 0, []),
  (15, false, .getfield 11, 3, 163, (3, 0, 13, 1), 0, []),
  (18, false, .iload_n 1, 1, 0, (0, 0, 0, 0), 0, []),
  (19, false, .aaload, 1, 0, (11, 0, 9, 0), 0, []),
  (20, false, .goto 4, 3, 0, (24, 0, 0, 0), 0, []),
  (23, false, .aconst_null, 1, 0, (0, 0, 0, 0), 0, []),
  (24, false, .areturn, 1, 0, (0, 0, 0, 0), 0, [])]
theorem zc_x_taskAt : zk_x_taskAt.all (zz_ck zz_inf zM_x_taskAt) = true ∧ zz_ch zk_x_taskAt = true := ⟨by decide +kernel, by decide +kernel⟩
noncomputable def x_taskAt (v1 : Int) (σ : zz_S) : zz_R := ((x_isWithin v1 0 (zz_r ((zz_h σ 3 1 11) - 1)) σ).bind fun q1 => (if q1.1 = 0 then (some (0, q1.2)) else (if zz_b q1.2 11 1 v1 then (some ((zz_h q1.2 11 1 v1), q1.2)) else none)))
set_option maxRecDepth 100000 in
set_option maxHeartbeats 4000000 in
theorem ze_x_taskAt (v1 : Int) (σ : zz_S) : x_taskAt v1 σ = zz_ev (zz_CE [(72, zw_x_isWithin)]) (zz_KE []) zk_x_taskAt 9 false 0 0 400 true (zz_sk zk_x_taskAt 0) [(0, 5, 1), (1, 0, v1)] [] σ := rfl
theorem zo_x_taskAt : zz_okb zM_x_taskAt 0 [(0, 5, true), (1, 0, false)] (zz_f1 x_taskAt) :=
  fun vs σ r τ h => by
    obtain ⟨v1, rfl, h⟩ := zz_f1_ok h
    exact zz_from zc_x_taskAt (zz_occ zo_m_x_isWithin zz_oc0) zz_ol0 ((ze_x_taskAt v1 σ).symm.trans h)
noncomputable def zw_x_taskAt : List Int → zz_S → zz_R := zz_f2 fun a0 a1 σ => if a0 = 1 then x_taskAt a1 σ else none
theorem zo_m_x_taskAt : zz_okm zz_inf 73 zw_x_taskAt := fun vs σ r τ h => by
  obtain ⟨a0, a1, rfl, h⟩ := zz_f2_ok h
  obtain ⟨e, h⟩ := zz_it h
  subst e
  exact zz_meth zi_x_taskAt zy_x_taskAt (zo_x_taskAt [a1] σ r τ h)
def zk_x_leastTold : List zz_E := [(0, false, .iload_n 0, 1, 0, (0, 0, 0, 0), 0, []),
  (1, false, .ifCond .ne 5, 3, 0, (6, 0, 0, 0), 0, []),
  (4, false, .iconst 1, 1, 0, (0, 0, 0, 0), 0, []),
  (5, false, .ireturn, 1, 0, (0, 0, 0, 0), 0, []),
  (6, false, .iload_n 0, 1, 0, (0, 0, 0, 0), 0, []),
  (7, false, .iconst 2, 1, 0, (0, 0, 0, 0), 0, []),
  (8, false, .if_icmp .ne 7, 3, 0, (15, 0, 0, 0), 0, []),
  (11, false, .iconst (-1), 1, 0, (0, 0, 0, 0), 0, []),
  (12, false, .goto 4, 3, 0, (16, 0, 0, 0), 0, []),
  (15, false, .iconst 0, 1, 0, (0, 0, 0, 0), 0, []),
  (16, false, .ireturn, 1, 0, (0, 0, 0, 0), 0, [])]
theorem zc_x_leastTold : zk_x_leastTold.all (zz_ck zz_inf zM_x_leastTold) = true ∧ zz_ch zk_x_leastTold = true := ⟨by decide +kernel, by decide +kernel⟩
noncomputable def x_leastTold (v0 : Int) (σ : zz_S) : zz_R := (if v0 = 0 then (some (1, σ)) else (if v0 = 2 then (some ((-1), σ)) else (some (0, σ))))
set_option maxRecDepth 100000 in
set_option maxHeartbeats 4000000 in
theorem ze_x_leastTold (v0 : Int) (σ : zz_S) : x_leastTold v0 σ = zz_ev (zz_CE []) (zz_KE []) zk_x_leastTold 0 false 0 0 400 true (zz_sk zk_x_leastTold 0) [(0, 0, v0)] [] σ := rfl
theorem zo_x_leastTold : zz_okb zM_x_leastTold 0 [(0, 0, false)] (zz_f1 x_leastTold) :=
  fun vs σ r τ h => by
    obtain ⟨v0, rfl, h⟩ := zz_f1_ok h
    exact zz_from zc_x_leastTold zz_oc0 zz_ol0 ((ze_x_leastTold v0 σ).symm.trans h)
noncomputable def zw_x_leastTold : List Int → zz_S → zz_R := zz_f1 fun a0 σ => x_leastTold a0 σ
theorem zo_m_x_leastTold : zz_okm zz_inf 15 zw_x_leastTold := fun vs σ r τ h => by
  obtain ⟨a0, rfl, h⟩ := zz_f1_ok h
  exact zz_meth zi_x_leastTold zy_x_leastTold (zo_x_leastTold [a0] σ r τ h)
def zk_x_mostTold : List zz_E := [(0, false, .iload_n 1, 1, 0, (0, 0, 0, 0), 0, []),
  (1, false, .tableswitch 40 0 2 #[27, 30, 33], 27, 0, (41, 0, 0, 0), 0, [28, 31, 34]),
  (28, false, .bipush 120, 2, 0, (0, 0, 0, 0), 0, []),
  (30, false, .ireturn, 1, 0, (0, 0, 0, 0), 0, []),
  (31, false, .bipush 9, 2, 0, (0, 0, 0, 0), 0, []),
  (33, false, .ireturn, 1, 0, (0, 0, 0, 0), 0, []),
  (34, false, .aload_n 0, 1, 0, (0, 0, 0, 0), 0, []),
  (35, false, .getfield 72, 3, 177, (3, 14, 0, 0), 0, []),
  (38, false, .iconst 1, 1, 0, (0, 0, 0, 0), 0, []),
  (39, false, .isub, 1, 0, (0, 0, 0, 0), 0, []),
  (40, false, .ireturn, 1, 0, (0, 0, 0, 0), 0, []),
  (41, false, .iconst 2, 1, 0, (0, 0, 0, 0), 0, []),
  (42, false, .ireturn, 1, 0, (0, 0, 0, 0), 0, [])]
theorem zc_x_mostTold : zk_x_mostTold.all (zz_ck zz_inf zM_x_mostTold) = true ∧ zz_ch zk_x_mostTold = true := ⟨by decide +kernel, by decide +kernel⟩
noncomputable def x_mostTold (v1 : Int) (σ : zz_S) : zz_R := (if v1 = 0 then (some (120, σ)) else (if v1 = 1 then (some (9, σ)) else (if v1 = 2 then (some ((zz_r ((zz_h σ 3 1 14) - 1)), σ)) else (some (2, σ)))))
set_option maxRecDepth 100000 in
set_option maxHeartbeats 4000000 in
theorem ze_x_mostTold (v1 : Int) (σ : zz_S) : x_mostTold v1 σ = zz_ev (zz_CE []) (zz_KE []) zk_x_mostTold 0 false 0 0 400 true (zz_sk zk_x_mostTold 0) [(0, 5, 1), (1, 0, v1)] [] σ := rfl
theorem zo_x_mostTold : zz_okb zM_x_mostTold 0 [(0, 5, true), (1, 0, false)] (zz_f1 x_mostTold) :=
  fun vs σ r τ h => by
    obtain ⟨v1, rfl, h⟩ := zz_f1_ok h
    exact zz_from zc_x_mostTold zz_oc0 zz_ol0 ((ze_x_mostTold v1 σ).symm.trans h)
noncomputable def zw_x_mostTold : List Int → zz_S → zz_R := zz_f2 fun a0 a1 σ => if a0 = 1 then x_mostTold a1 σ else none
theorem zo_m_x_mostTold : zz_okm zz_inf 16 zw_x_mostTold := fun vs σ r τ h => by
  obtain ⟨a0, a1, rfl, h⟩ := zz_f2_ok h
  obtain ⟨e, h⟩ := zz_it h
  subst e
  exact zz_meth zi_x_mostTold zy_x_mostTold (zo_x_mostTold [a1] σ r τ h)
def zk_x_set : List zz_E := [(0, false, .aload_n 0, 1, 0, (0, 0, 0, 0), 0, []),
  (1, false, .iload_n 1, 1, 0, (0, 0, 0, 0), 0, []),
  (2, false, .invokevirtual 100, 3, 385, (73, 2, 9, 0), 0, [0, 5]),
  (5, false, .astore 4, 2, 0, (0, 0, 0, 0), 0, []),
  (7, false, .aload 4, 2, 0, (0, 0, 0, 0), 0, []),
  (9, false, .ifnull 12, 3, 0, (21, 0, 0, 0), 0, []),
  (12, false, .iload_n 2, 1, 0, (0, 0, 0, 0), 0, []),
  (13, false, .iconst 0, 1, 0, (0, 0, 0, 0), 0, []),
  (14, false, .iconst 5, 1, 0, (0, 0, 0, 0), 0, []),
  (15, false, .invokestatic 91, 3, 228, (72, 3, 0, 0), 0, [0, 0, 0]),
  (18, false, .ifCond .ne 6, 3, 0, (24, 0, 0, 0), 0, []),
  (21, false, .bipush (-2), 2, 0, (0, 0, 0, 0), 0, []),
  (23, false, .ireturn, 1, 0, (0, 0, 0, 0), 0, []),
  (24, false, .iload_n 3, 1, 0, (0, 0, 0, 0), 0, []),
  (25, false, .iload_n 2, 1, 0, (0, 0, 0, 0), 0, []),
  (26, false, .invokestatic 104, 3, 389, (15, 1, 0, 0), 0, [0]),
  (29, false, .aload_n 0, 1, 0, (0, 0, 0, 0), 0, []),
  (30, false, .iload_n 2, 1, 0, (0, 0, 0, 0), 0, []),
  (31, false, .invokevirtual 108, 3, 392, (16, 2, 0, 0), 0, [0, 5]),
  (34, false, .invokestatic 91, 3, 228, (72, 3, 0, 0), 0, [0, 0, 0]),
  (37, false, .ifCond .ne 6, 3, 0, (43, 0, 0, 0), 0, []),
  (40, false, .bipush (-2), 2, 0, (0, 0, 0, 0), 0, []),
  (42, false, .ireturn, 1, 0, (0, 0, 0, 0), 0, []),
  (43, false, .aload 4, 2, 0, (0, 0, 0, 0), 0, []),
  (45, false, .getfield 111, 3, 308, (7, 4, 30, 1), 0, []),
  (48, false, .iload_n 2, 1, 0, (0, 0, 0, 0), 0, []),
  (49, false, .iaload, 1, 0, (28, 0, 0, 0), 0, []),
  (50, false, .istore 5, 2, 0, (0, 0, 0, 0), 0, []),
  (52, false, .aload 4, 2, 0, (0, 0, 0, 0), 0, []),
  (54, false, .getfield 111, 3, 308, (7, 4, 30, 1), 0, []),
  (57, false, .iload_n 2, 1, 0, (0, 0, 0, 0), 0, []),
  (58, false, .iload_n 3, 1, 0, (0, 0, 0, 0), 0, []),
  (59, false, .iastore, 1, 0, (28, 0, 0, 0), 0, []),
  (60, false, .iload 5, 2, 0, (0, 0, 0, 0), 0, []),
  (62, false, .ireturn, 1, 0, (0, 0, 0, 0), 0, [])]
theorem zc_x_set : zk_x_set.all (zz_ck zz_inf zM_x_set) = true ∧ zz_ch zk_x_set = true := ⟨by decide +kernel, by decide +kernel⟩
noncomputable def x_set (v1 v2 v3 : Int) (σ : zz_S) : zz_R := ((x_taskAt v1 σ).bind fun q1 => (if q1.1 = 0 then (some ((-2), q1.2)) else ((x_isWithin v2 0 5 q1.2).bind fun q2 => (if q2.1 = 0 then (some ((-2), q2.2)) else ((x_leastTold v2 q2.2).bind fun q3 => ((x_mostTold v2 q3.2).bind fun q4 => ((x_isWithin v3 q3.1 q4.1 q4.2).bind fun q5 => (if q5.1 = 0 then (some ((-2), q5.2)) else (if q1.1 = 0 then none else (if q1.1 = 0 then none else (if zz_b q5.2 28 q1.1 v2 then (if q1.1 = 0 then none else (if q1.1 = 0 then none else (if zz_b q5.2 28 q1.1 v2 then (let s6 := zz_w q5.2 28 q1.1 v2 v3; (some ((zz_h q5.2 28 q1.1 v2), s6))) else none))) else none)))))))))))
set_option maxRecDepth 100000 in
set_option maxHeartbeats 4000000 in
theorem ze_x_set (v1 v2 v3 : Int) (σ : zz_S) : x_set v1 v2 v3 σ = zz_ev (zz_CE [(15, zw_x_leastTold), (16, zw_x_mostTold), (72, zw_x_isWithin), (73, zw_x_taskAt)]) (zz_KE []) zk_x_set 0 false 0 0 400 true (zz_sk zk_x_set 0) [(0, 5, 1), (1, 0, v1), (2, 0, v2), (3, 0, v3)] [] σ := rfl
theorem zo_x_set : zz_okb zM_x_set 0 [(0, 5, true), (1, 0, false), (2, 0, false), (3, 0, false)] (zz_f3 x_set) :=
  fun vs σ r τ h => by
    obtain ⟨v1, v2, v3, rfl, h⟩ := zz_f3_ok h
    exact zz_from zc_x_set (zz_occ zo_m_x_leastTold (zz_occ zo_m_x_mostTold (zz_occ zo_m_x_isWithin (zz_occ zo_m_x_taskAt zz_oc0)))) zz_ol0 ((ze_x_set v1 v2 v3 σ).symm.trans h)
noncomputable def zw_x_set : List Int → zz_S → zz_R := zz_f4 fun a0 a1 a2 a3 σ => if a0 = 1 then x_set a1 a2 a3 σ else none
theorem zo_m_x_set : zz_okm zz_inf 14 zw_x_set := fun vs σ r τ h => by
  obtain ⟨a0, a1, a2, a3, rfl, h⟩ := zz_f4_ok h
  obtain ⟨e, h⟩ := zz_it h
  subst e
  exact zz_meth zi_x_set zy_x_set (zo_x_set [a1, a2, a3] σ r τ h)
def zk_xC_isForm : List zz_E := [(0, false, .iload_n 0, 1, 0, (0, 0, 0, 0), 0, []),
  (1, false, .iconst 0, 1, 0, (0, 0, 0, 0), 0, []),
  (2, false, .getstatic 40, 3, 403, (2, 0, 0, 0), 0, []),
  (5, false, .arraylength, 1, 0, (2, 0, 0, 0), 0, []),
  (6, false, .iconst 1, 1, 0, (0, 0, 0, 0), 0, []),
  (7, false, .isub, 1, 0, (0, 0, 0, 0), 0, []),
  (8, false, .invokestatic 44, 3, 405, (72, 3, 0, 1), 0, [0, 0, 0]),
  (11, false, .ifCond .ne 5, 3, 0, (16, 0, 0, 0), 0, []),
  (14, false, .iconst 0, 1, 0, (0, 0, 0, 0), 0, []),
  (15, false, .ireturn, 1, 0, (0, 0, 0, 0), 0, []),
  (16, false, .iload_n 0, 1, 0, (0, 0, 0, 0), 0, []),
  (17, false, .bipush 6, 2, 0, (0, 0, 0, 0), 0, []),
  (19, false, .if_icmp .eq 33, 3, 0, (52, 0, 0, 0), 0, []),
  (22, false, .iload_n 1, 1, 0, (0, 0, 0, 0), 0, []),
  (23, false, .iload_n 0, 1, 0, (0, 0, 0, 0), 0, []),
  (24, false, .iconst 5, 1, 0, (0, 0, 0, 0), 0, []),
  (25, false, .if_icmp .eq 9, 3, 0, (34, 0, 0, 0), 0, []),
  (28, false, .iload_n 0, 1, 0, (0, 0, 0, 0), 0, []),
  (29, false, .bipush 7, 2, 0, (0, 0, 0, 0), 0, []),
  (31, false, .if_icmp .lt 7, 3, 0, (38, 0, 0, 0), 0, []),
  (34, false, .iconst 1, 1, 0, (0, 0, 0, 0), 0, []),
  (35, false, .goto 4, 3, 0, (39, 0, 0, 0), 0, []),
  (38, false, .iconst 0, 1, 0, (0, 0, 0, 0), 0, []),
  (39, false, .getstatic 40, 3, 403, (2, 0, 0, 0), 0, []),
  (42, false, .iload_n 0, 1, 0, (0, 0, 0, 0), 0, []),
  (43, false, .iaload, 1, 0, (2, 0, 0, 0), 0, []),
  (44, false, .invokestatic 44, 3, 405, (72, 3, 0, 1), 0, [0, 0, 0]),
  (47, false, .ifCond .ne 5, 3, 0, (52, 0, 0, 0), 0, []),
  (50, false, .iconst 0, 1, 0, (0, 0, 0, 0), 0, []),
  (51, false, .ireturn, 1, 0, (0, 0, 0, 0), 0, []),
  (52, true, .iload_n 0, 1, 0, (0, 0, 0, 0), 0, []),
  (53, false, .iconst 2, 1, 0, (0, 0, 0, 0), 0, []),
  (54, false, .if_icmp .ne 11, 3, 0, (65, 0, 0, 0), 0, []),
  (57, false, .iload_n 2, 1, 0, (0, 0, 0, 0), 0, []),
  (58, false, .iload_n 1, 1, 0, (0, 0, 0, 0), 0, []),
  (59, false, .bipush 23, 2, 0, (0, 0, 0, 0), 0, []),
  (61, false, .invokestatic 44, 3, 405, (72, 3, 0, 1), 0, [0, 0, 0]),
  (64, false, .ireturn, 1, 0, (0, 0, 0, 0), 0, []),
  (65, false, .iload_n 0, 1, 0, (0, 0, 0, 0), 0, []),
  (66, false, .iconst 4, 1, 0, (0, 0, 0, 0), 0, []),
  (67, false, .if_icmp .eq 9, 3, 0, (76, 0, 0, 0), 0, []),
  (70, false, .iload_n 0, 1, 0, (0, 0, 0, 0), 0, []),
  (71, false, .bipush 7, 2, 0, (0, 0, 0, 0), 0, []),
  (73, false, .if_icmp .ne 13, 3, 0, (86, 0, 0, 0), 0, []),
  (76, true, .iload_n 2, 1, 0, (0, 0, 0, 0), 0, []),
  (77, false, .iconst 0, 1, 0, (0, 0, 0, 0), 0, []),
  (78, false, .bipush 6, 2, 0, (0, 0, 0, 0), 0, []),
  (80, false, .invokestatic 44, 3, 405, (72, 3, 0, 1), 0, [0, 0, 0]),
  (83, false, .ifCond .eq 7, 3, 0, (90, 0, 0, 0), 0, []),
  (86, false, .iconst 1, 1, 0, (0, 0, 0, 0), 0, []),
  (87, false, .goto 4, 3, 0, (91, 0, 0, 0), 0, []),
  (90, false, .iconst 0, 1, 0, (0, 0, 0, 0), 0, []),
  (91, false, .ireturn, 1, 0, (0, 0, 0, 0), 0, [])]
theorem zc_xC_isForm : zk_xC_isForm.all (zz_ck zz_inf zM_xC_isForm) = true ∧ zz_ch zk_xC_isForm = true := ⟨by decide +kernel, by decide +kernel⟩
noncomputable def xC_isForm_76 (v2 : Int) (σ : zz_S) : zz_R := ((x_isWithin v2 0 6 σ).bind fun q1 => (if q1.1 = 0 then (some (0, q1.2)) else (some (1, q1.2))))
set_option maxRecDepth 100000 in
set_option maxHeartbeats 4000000 in
theorem ze_xC_isForm_76 (v2 : Int) (σ : zz_S) : xC_isForm_76 v2 σ = zz_ev (zz_CE [(72, zw_x_isWithin)]) (zz_KE []) zk_xC_isForm 0 true 0 0 400 true (zz_sk zk_xC_isForm 76) [(2, 0, v2)] [] σ := rfl
theorem zo_xC_isForm_76 : zz_okb zM_xC_isForm 76 [(2, 0, false)] (zz_f1 xC_isForm_76) :=
  fun vs σ r τ h => by
    obtain ⟨v2, rfl, h⟩ := zz_f1_ok h
    exact zz_from zc_xC_isForm (zz_occ zo_m_x_isWithin zz_oc0) zz_ol0 ((ze_xC_isForm_76 v2 σ).symm.trans h)
noncomputable def xC_isForm_52 (v0 v1 v2 : Int) (σ : zz_S) : zz_R := (if v0 = 2 then ((x_isWithin v2 v1 23 σ).bind fun q1 => (if zz_o q1.1 then (some (q1.1, q1.2)) else none)) else (if v0 = 4 then (xC_isForm_76 v2 σ) else (if v0 = 7 then (xC_isForm_76 v2 σ) else (some (1, σ)))))
set_option maxRecDepth 100000 in
set_option maxHeartbeats 4000000 in
theorem ze_xC_isForm_52 (v0 v1 v2 : Int) (σ : zz_S) : xC_isForm_52 v0 v1 v2 σ = zz_ev (zz_CE [(72, zw_x_isWithin)]) (zz_KE [(76, [(2, 0, false)], zz_f1 (xC_isForm_76))]) zk_xC_isForm 0 true 0 0 400 true (zz_sk zk_xC_isForm 52) [(0, 0, v0), (1, 0, v1), (2, 0, v2)] [] σ := rfl
theorem zo_xC_isForm_52 : zz_okb zM_xC_isForm 52 [(0, 0, false), (1, 0, false), (2, 0, false)] (zz_f3 xC_isForm_52) :=
  fun vs σ r τ h => by
    obtain ⟨v0, v1, v2, rfl, h⟩ := zz_f3_ok h
    exact zz_from zc_xC_isForm (zz_occ zo_m_x_isWithin zz_oc0) (zz_olc (zo_xC_isForm_76) zz_ol0) ((ze_xC_isForm_52 v0 v1 v2 σ).symm.trans h)
noncomputable def xC_isForm (v0 v1 v2 : Int) (σ : zz_S) : zz_R := ((x_isWithin v0 0 (zz_r ((zz_al σ 2 1) - 1)) σ).bind fun q1 => (if q1.1 = 0 then (some (0, q1.2)) else (if v0 = 6 then (xC_isForm_52 v0 v1 v2 q1.2) else (if v0 = 5 then (if zz_b q1.2 2 1 v0 then ((x_isWithin v1 1 (zz_h q1.2 2 1 v0) q1.2).bind fun q2 => (if q2.1 = 0 then (some (0, q2.2)) else (xC_isForm_52 v0 v1 v2 q2.2))) else none) else (if v0 < 7 then (if zz_b q1.2 2 1 v0 then ((x_isWithin v1 0 (zz_h q1.2 2 1 v0) q1.2).bind fun q3 => (if q3.1 = 0 then (some (0, q3.2)) else (xC_isForm_52 v0 v1 v2 q3.2))) else none) else (if zz_b q1.2 2 1 v0 then ((x_isWithin v1 1 (zz_h q1.2 2 1 v0) q1.2).bind fun q4 => (if q4.1 = 0 then (some (0, q4.2)) else (xC_isForm_52 v0 v1 v2 q4.2))) else none))))))
set_option maxRecDepth 100000 in
set_option maxHeartbeats 4000000 in
theorem ze_xC_isForm (v0 v1 v2 : Int) (σ : zz_S) : xC_isForm v0 v1 v2 σ = zz_ev (zz_CE [(72, zw_x_isWithin)]) (zz_KE [(52, [(0, 0, false), (1, 0, false), (2, 0, false)], zz_f3 (xC_isForm_52))]) zk_xC_isForm 0 true 0 0 400 true (zz_sk zk_xC_isForm 0) [(0, 0, v0), (1, 0, v1), (2, 0, v2)] [] σ := rfl
theorem zo_xC_isForm : zz_okb zM_xC_isForm 0 [(0, 0, false), (1, 0, false), (2, 0, false)] (zz_f3 xC_isForm) :=
  fun vs σ r τ h => by
    obtain ⟨v0, v1, v2, rfl, h⟩ := zz_f3_ok h
    exact zz_from zc_xC_isForm (zz_occ zo_m_x_isWithin zz_oc0) (zz_olc (zo_xC_isForm_52) zz_ol0) ((ze_xC_isForm v0 v1 v2 σ).symm.trans h)
noncomputable def zw_xC_isForm : List Int → zz_S → zz_R := zz_f3 fun a0 a1 a2 σ => xC_isForm a0 a1 a2 σ
theorem zo_m_xC_isForm : zz_okm zz_inf 94 zw_xC_isForm := fun vs σ r τ h => by
  obtain ⟨a0, a1, a2, rfl, h⟩ := zz_f3_ok h
  exact zz_meth zi_xC_isForm zy_xC_isForm (zo_xC_isForm [a0, a1, a2] σ r τ h)
def zk_xC_ring : List zz_E := [(0, false, .iconst 0, 1, 0, (0, 0, 0, 0), 0, []),
  (1, false, .istore_n 3, 1, 0, (0, 0, 0, 0), 0, []),
  (2, false, .iconst 0, 1, 0, (0, 0, 0, 0), 0, []),
  (3, false, .istore 4, 2, 0, (0, 0, 0, 0), 0, []),
  (5, true, .iload 4, 2, 0, (0, 0, 0, 0), 0, []),
  (7, false, .iload_n 2, 1, 0, (0, 0, 0, 0), 0, []),
  (8, false, .if_icmp .ge 65, 3, 0, (73, 0, 0, 0), 0, []),
  (11, false, .iload_n 0, 1, 0, (0, 0, 0, 0), 0, []),
  (12, false, .iload_n 1, 1, 0, (0, 0, 0, 0), 0, []),
  (13, false, .if_icmp .gt 23, 3, 0, (36, 0, 0, 0), 0, []),
  (16, false, .iload 4, 2, 0, (0, 0, 0, 0), 0, []),
  (18, false, .iload_n 0, 1, 0, (0, 0, 0, 0), 0, []),
  (19, false, .if_icmp .lt 13, 3, 0, (32, 0, 0, 0), 0, []),
  (22, false, .iload 4, 2, 0, (0, 0, 0, 0), 0, []),
  (24, false, .iload_n 1, 1, 0, (0, 0, 0, 0), 0, []),
  (25, false, .if_icmp .gt 7, 3, 0, (32, 0, 0, 0), 0, []),
  (28, false, .iconst 1, 1, 0, (0, 0, 0, 0), 0, []),
  (29, false, .goto 24, 3, 0, (53, 0, 0, 0), 0, []),
  (32, true, .iconst 0, 1, 0, (0, 0, 0, 0), 0, []),
  (33, false, .goto 20, 3, 0, (53, 0, 0, 0), 0, []),
  (36, false, .iload 4, 2, 0, (0, 0, 0, 0), 0, []),
  (38, false, .iload_n 0, 1, 0, (0, 0, 0, 0), 0, []),
  (39, false, .if_icmp .ge 9, 3, 0, (48, 0, 0, 0), 0, []),
  (42, false, .iload 4, 2, 0, (0, 0, 0, 0), 0, []),
  (44, false, .iload_n 1, 1, 0, (0, 0, 0, 0), 0, []),
  (45, false, .if_icmp .gt 7, 3, 0, (52, 0, 0, 0), 0, []),
  (48, true, .iconst 1, 1, 0, (0, 0, 0, 0), 0, []),
  (49, false, .goto 4, 3, 0, (53, 0, 0, 0), 0, []),
  (52, false, .iconst 0, 1, 0, (0, 0, 0, 0), 0, []),
  (53, false, .istore 5, 2, 0, (0, 0, 0, 0), 0, []),
  (55, false, .iload 5, 2, 0, (0, 0, 0, 0), 0, []),
  (57, false, .ifCond .eq 10, 3, 0, (67, 0, 0, 0), 0, []),
  (60, false, .iload_n 3, 1, 0, (0, 0, 0, 0), 0, []),
  (61, false, .iconst 1, 1, 0, (0, 0, 0, 0), 0, []),
  (62, false, .iload 4, 2, 0, (0, 0, 0, 0), 0, []),
  (64, false, .ishl, 1, 0, (0, 0, 0, 0), 0, []),
  (65, false, .ior, 1, 0, (0, 0, 0, 0), 0, []),
  (66, false, .istore_n 3, 1, 0, (0, 0, 0, 0), 0, []),
  (67, false, .iinc 4 1, 3, 0, (0, 0, 0, 0), 0, []),
  (70, false, .goto (-65), 3, 0, (5, 0, 0, 0), 0, []),
  (73, false, .iload_n 3, 1, 0, (0, 0, 0, 0), 0, []),
  (74, false, .ireturn, 1, 0, (0, 0, 0, 0), 0, [])]
theorem zc_xC_ring : zk_xC_ring.all (zz_ck zz_inf zM_xC_ring) = true ∧ zz_ch zk_xC_ring = true := ⟨by decide +kernel, by decide +kernel⟩
noncomputable def xC_ring_48 (k5 : Int → Int → Int → Int → Int → zz_S → zz_R) (v0 v1 v2 v3 v4 : Int) (σ : zz_S) : zz_R := (k5 v0 v1 v2 (zz_or v3 (zz_shl 1 v4)) (zz_r (v4 + 1)) σ)
set_option maxRecDepth 100000 in
set_option maxHeartbeats 4000000 in
theorem ze_xC_ring_48 (k5 : Int → Int → Int → Int → Int → zz_S → zz_R) (v0 v1 v2 v3 v4 : Int) (σ : zz_S) : xC_ring_48 k5 v0 v1 v2 v3 v4 σ = zz_ev (zz_CE []) (zz_KE [(5, [(0, 0, false), (1, 0, false), (2, 0, false), (3, 0, false), (4, 0, false)], zz_f5 k5)]) zk_xC_ring 0 false 0 0 400 true (zz_sk zk_xC_ring 48) [(0, 0, v0), (1, 0, v1), (2, 0, v2), (3, 0, v3), (4, 0, v4)] [] σ := rfl
theorem zo_xC_ring_48 (k5 : Int → Int → Int → Int → Int → zz_S → zz_R) (hk5 : zz_okb zM_xC_ring 5 [(0, 0, false), (1, 0, false), (2, 0, false), (3, 0, false), (4, 0, false)] (zz_f5 k5)) : zz_okb zM_xC_ring 48 [(0, 0, false), (1, 0, false), (2, 0, false), (3, 0, false), (4, 0, false)] (zz_f5 (xC_ring_48 k5)) :=
  fun vs σ r τ h => by
    obtain ⟨v0, v1, v2, v3, v4, rfl, h⟩ := zz_f5_ok h
    exact zz_from zc_xC_ring zz_oc0 (zz_olc hk5 zz_ol0) ((ze_xC_ring_48 k5 v0 v1 v2 v3 v4 σ).symm.trans h)
noncomputable def xC_ring_32 (k5 : Int → Int → Int → Int → Int → zz_S → zz_R) (v0 v1 v2 v3 v4 : Int) (σ : zz_S) : zz_R := (k5 v0 v1 v2 v3 (zz_r (v4 + 1)) σ)
set_option maxRecDepth 100000 in
set_option maxHeartbeats 4000000 in
theorem ze_xC_ring_32 (k5 : Int → Int → Int → Int → Int → zz_S → zz_R) (v0 v1 v2 v3 v4 : Int) (σ : zz_S) : xC_ring_32 k5 v0 v1 v2 v3 v4 σ = zz_ev (zz_CE []) (zz_KE [(5, [(0, 0, false), (1, 0, false), (2, 0, false), (3, 0, false), (4, 0, false)], zz_f5 k5)]) zk_xC_ring 0 false 0 0 400 true (zz_sk zk_xC_ring 32) [(0, 0, v0), (1, 0, v1), (2, 0, v2), (3, 0, v3), (4, 0, v4)] [] σ := rfl
theorem zo_xC_ring_32 (k5 : Int → Int → Int → Int → Int → zz_S → zz_R) (hk5 : zz_okb zM_xC_ring 5 [(0, 0, false), (1, 0, false), (2, 0, false), (3, 0, false), (4, 0, false)] (zz_f5 k5)) : zz_okb zM_xC_ring 32 [(0, 0, false), (1, 0, false), (2, 0, false), (3, 0, false), (4, 0, false)] (zz_f5 (xC_ring_32 k5)) :=
  fun vs σ r τ h => by
    obtain ⟨v0, v1, v2, v3, v4, rfl, h⟩ := zz_f5_ok h
    exact zz_from zc_xC_ring zz_oc0 (zz_olc hk5 zz_ol0) ((ze_xC_ring_32 k5 v0 v1 v2 v3 v4 σ).symm.trans h)
noncomputable def xC_ring_5 : Nat → Int → Int → Int → Int → Int → zz_S → zz_R
  | 0, _, _, _, _, _, _ => none
  | n + 1, v0, v1, v2, v3, v4, σ => (if v4 < v2 then (if v0 ≤ v1 then (if v4 < v0 then (xC_ring_32 (xC_ring_5 n) v0 v1 v2 v3 v4 σ) else (if v4 ≤ v1 then (xC_ring_5 n v0 v1 v2 (zz_or v3 (zz_shl 1 v4)) (zz_r (v4 + 1)) σ) else (xC_ring_32 (xC_ring_5 n) v0 v1 v2 v3 v4 σ))) else (if v4 < v0 then (if v4 ≤ v1 then (xC_ring_48 (xC_ring_5 n) v0 v1 v2 v3 v4 σ) else (xC_ring_5 n v0 v1 v2 v3 (zz_r (v4 + 1)) σ)) else (xC_ring_48 (xC_ring_5 n) v0 v1 v2 v3 v4 σ))) else (some (v3, σ)))
set_option maxRecDepth 100000 in
set_option maxHeartbeats 4000000 in
theorem ze_xC_ring_5 (n : Nat) (v0 v1 v2 v3 v4 : Int) (σ : zz_S) : xC_ring_5 (n + 1) v0 v1 v2 v3 v4 σ = zz_ev (zz_CE []) (zz_KE [(5, [(0, 0, false), (1, 0, false), (2, 0, false), (3, 0, false), (4, 0, false)], zz_f5 (xC_ring_5 n)), (32, [(0, 0, false), (1, 0, false), (2, 0, false), (3, 0, false), (4, 0, false)], zz_f5 (xC_ring_32 (xC_ring_5 n))), (48, [(0, 0, false), (1, 0, false), (2, 0, false), (3, 0, false), (4, 0, false)], zz_f5 (xC_ring_48 (xC_ring_5 n)))]) zk_xC_ring 0 false 0 0 400 true (zz_sk zk_xC_ring 5) [(0, 0, v0), (1, 0, v1), (2, 0, v2), (3, 0, v3), (4, 0, v4)] [] σ := rfl
theorem zo_xC_ring_5 : ∀ n : Nat, zz_okb zM_xC_ring 5 [(0, 0, false), (1, 0, false), (2, 0, false), (3, 0, false), (4, 0, false)] (zz_f5 (xC_ring_5 n))
  | 0 => fun vs σ r τ h => by
    obtain ⟨v0, v1, v2, v3, v4, rfl, h⟩ := zz_f5_ok h
    exact nomatch (show (none : zz_R) = some (r, τ) from h)
  | n + 1 => by
    have ih := zo_xC_ring_5 n
    exact fun vs σ r τ h => by
        obtain ⟨v0, v1, v2, v3, v4, rfl, h⟩ := zz_f5_ok h
        exact zz_from zc_xC_ring zz_oc0 (zz_olc ih (zz_olc (zo_xC_ring_32 (xC_ring_5 n) ih) (zz_olc (zo_xC_ring_48 (xC_ring_5 n) ih) zz_ol0))) ((ze_xC_ring_5 n v0 v1 v2 v3 v4 σ).symm.trans h)
noncomputable def xC_ring (v0 v1 v2 : Int) (σ : zz_S) : zz_R := (xC_ring_5 zz_fu v0 v1 v2 0 0 σ)
set_option maxRecDepth 100000 in
set_option maxHeartbeats 4000000 in
theorem ze_xC_ring (v0 v1 v2 : Int) (σ : zz_S) : xC_ring v0 v1 v2 σ = zz_ev (zz_CE []) (zz_KE [(5, [(0, 0, false), (1, 0, false), (2, 0, false), (3, 0, false), (4, 0, false)], zz_f5 (xC_ring_5 zz_fu))]) zk_xC_ring 0 false 0 0 400 true (zz_sk zk_xC_ring 0) [(0, 0, v0), (1, 0, v1), (2, 0, v2)] [] σ := rfl
theorem zo_xC_ring : zz_okb zM_xC_ring 0 [(0, 0, false), (1, 0, false), (2, 0, false)] (zz_f3 xC_ring) :=
  fun vs σ r τ h => by
    obtain ⟨v0, v1, v2, rfl, h⟩ := zz_f3_ok h
    exact zz_from zc_xC_ring zz_oc0 (zz_olc (zo_xC_ring_5 zz_fu) zz_ol0) ((ze_xC_ring v0 v1 v2 σ).symm.trans h)
noncomputable def zw_xC_ring : List Int → zz_S → zz_R := zz_f3 fun a0 a1 a2 σ => xC_ring a0 a1 a2 σ
theorem zo_m_xC_ring : zz_okm zz_inf 96 zw_xC_ring := fun vs σ r τ h => by
  obtain ⟨a0, a1, a2, rfl, h⟩ := zz_f3_ok h
  exact zz_meth zi_xC_ring zy_xC_ring (zo_xC_ring [a0, a1, a2] σ r τ h)
def zk_xC_add : List zz_E := [(0, false, .aload_n 0, 1, 0, (0, 0, 0, 0), 0, []),
  (1, false, .dup, 1, 0, (0, 0, 0, 0), 0, []),
  (2, false, .getfield 9, 3, 253, (8, 0, 0, 0), 0, []),
  (5, false, .iconst 1, 1, 0, (0, 0, 0, 0), 0, []),
  (6, false, .iadd, 1, 0, (0, 0, 0, 0), 0, []),
  (7, false, .putfield 9, 3, 253, (8, 0, 0, 0), 0, []),
  (10, false, .iload_n 1, 1, 0, (0, 0, 0, 0), 0, []),
  (11, false, .tableswitch 203 0 8 #[49, 64, 79, 98, 113, 132, 149, 157, 186], 49, 0, (214, 0, 0, 0), 0, [60, 75, 90, 109, 124, 143, 160, 168, 197]),
  (60, false, .aload_n 0, 1, 0, (0, 0, 0, 0), 0, []),
  (61, false, .dup, 1, 0, (0, 0, 0, 0), 0, []),
  (62, false, .getfield 17, 3, 255, (8, 1, 1, 0), 0, []),
  (65, false, .lconst 1, 1, 0, (0, 0, 0, 0), 1, []),
  (66, false, .iload_n 2, 1, 0, (0, 0, 0, 0), 0, []),
  (67, false, .lshl, 1, 0, (0, 0, 0, 0), 0, []),
  (68, false, .land, 1, 0, (0, 0, 0, 0), 0, []),
  (69, false, .putfield 17, 3, 255, (8, 1, 1, 0), 0, []),
  (72, false, .goto 142, 3, 0, (214, 0, 0, 0), 0, []),
  (75, false, .aload_n 0, 1, 0, (0, 0, 0, 0), 0, []),
  (76, false, .dup, 1, 0, (0, 0, 0, 0), 0, []),
  (77, false, .getfield 21, 3, 256, (8, 2, 0, 0), 0, []),
  (80, false, .iconst 1, 1, 0, (0, 0, 0, 0), 0, []),
  (81, false, .iload_n 2, 1, 0, (0, 0, 0, 0), 0, []),
  (82, false, .ishl, 1, 0, (0, 0, 0, 0), 0, []),
  (83, false, .iand, 1, 0, (0, 0, 0, 0), 0, []),
  (84, false, .putfield 21, 3, 256, (8, 2, 0, 0), 0, []),
  (87, false, .goto 127, 3, 0, (214, 0, 0, 0), 0, []),
  (90, false, .aload_n 0, 1, 0, (0, 0, 0, 0), 0, []),
  (91, false, .dup, 1, 0, (0, 0, 0, 0), 0, []),
  (92, false, .getfield 21, 3, 256, (8, 2, 0, 0), 0, []),
  (95, false, .iload_n 2, 1, 0, (0, 0, 0, 0), 0, []),
  (96, false, .iload_n 3, 1, 0, (0, 0, 0, 0), 0, []),
  (97, false, .bipush 24, 2, 0, (0, 0, 0, 0), 0, []),
  (99, false, .invokestatic 48, 3, 410, (96, 3, 0, 0), 0, [0, 0, 0]),
  (102, false, .iand, 1, 0, (0, 0, 0, 0), 0, []),
  (103, false, .putfield 21, 3, 256, (8, 2, 0, 0), 0, []),
  (106, false, .goto 108, 3, 0, (214, 0, 0, 0), 0, []),
  (109, false, .aload_n 0, 1, 0, (0, 0, 0, 0), 0, []),
  (110, false, .dup, 1, 0, (0, 0, 0, 0), 0, []),
  (111, false, .getfield 24, 3, 257, (8, 3, 0, 0), 0, []),
  (114, false, .iconst 1, 1, 0, (0, 0, 0, 0), 0, []),
  (115, false, .iload_n 2, 1, 0, (0, 0, 0, 0), 0, []),
  (116, false, .ishl, 1, 0, (0, 0, 0, 0), 0, []),
  (117, false, .iand, 1, 0, (0, 0, 0, 0), 0, []),
  (118, false, .putfield 24, 3, 257, (8, 3, 0, 0), 0, []),
  (121, false, .goto 93, 3, 0, (214, 0, 0, 0), 0, []),
  (124, false, .aload_n 0, 1, 0, (0, 0, 0, 0), 0, []),
  (125, false, .dup, 1, 0, (0, 0, 0, 0), 0, []),
  (126, false, .getfield 24, 3, 257, (8, 3, 0, 0), 0, []),
  (129, false, .iload_n 2, 1, 0, (0, 0, 0, 0), 0, []),
  (130, false, .iload_n 3, 1, 0, (0, 0, 0, 0), 0, []),
  (131, false, .bipush 7, 2, 0, (0, 0, 0, 0), 0, []),
  (133, false, .invokestatic 48, 3, 410, (96, 3, 0, 0), 0, [0, 0, 0]),
  (136, false, .iand, 1, 0, (0, 0, 0, 0), 0, []),
  (137, false, .putfield 24, 3, 257, (8, 3, 0, 0), 0, []),
  (140, false, .goto 74, 3, 0, (214, 0, 0, 0), 0, []),
  (143, false, .aload_n 0, 1, 0, (0, 0, 0, 0), 0, []),
  (144, false, .dup, 1, 0, (0, 0, 0, 0), 0, []),
  (145, false, .getfield 27, 3, 258, (8, 4, 0, 0), 0, []),
  (148, false, .iconst 1, 1, 0, (0, 0, 0, 0), 0, []),
  (149, false, .iload_n 2, 1, 0, (0, 0, 0, 0), 0, []),
  (150, false, .iconst 1, 1, 0, (0, 0, 0, 0), 0, []),
  (151, false, .isub, 1, 0, (0, 0, 0, 0), 0, []),
  (152, false, .ishl, 1, 0, (0, 0, 0, 0), 0, []),
  (153, false, .iand, 1, 0, (0, 0, 0, 0), 0, []),
  (154, false, .putfield 27, 3, 258, (8, 4, 0, 0), 0, []),
  (157, false, .goto 57, 3, 0, (214, 0, 0, 0), 0, []),
  (160, false, .aload_n 0, 1, 0, (0, 0, 0, 0), 0, []),
  (161, false, .iconst 1, 1, 0, (0, 0, 0, 0), 0, []),
  (162, false, .putfield 36, 3, 261, (8, 7, 0, 0), 1, []),
  (165, false, .goto 49, 3, 0, (214, 0, 0, 0), 0, []),
  (168, false, .aload_n 0, 1, 0, (0, 0, 0, 0), 0, []),
  (169, false, .dup, 1, 0, (0, 0, 0, 0), 0, []),
  (170, false, .getfield 30, 3, 259, (8, 5, 0, 0), 0, []),
  (173, false, .iconst 1, 1, 0, (0, 0, 0, 0), 0, []),
  (174, false, .iload_n 2, 1, 0, (0, 0, 0, 0), 0, []),
  (175, false, .iconst 1, 1, 0, (0, 0, 0, 0), 0, []),
  (176, false, .isub, 1, 0, (0, 0, 0, 0), 0, []),
  (177, false, .ishl, 1, 0, (0, 0, 0, 0), 0, []),
  (178, false, .iand, 1, 0, (0, 0, 0, 0), 0, []),
  (179, false, .putfield 30, 3, 259, (8, 5, 0, 0), 0, []),
  (182, false, .aload_n 0, 1, 0, (0, 0, 0, 0), 0, []),
  (183, false, .dup, 1, 0, (0, 0, 0, 0), 0, []),
  (184, false, .getfield 24, 3, 257, (8, 3, 0, 0), 0, []),
  (187, false, .iconst 1, 1, 0, (0, 0, 0, 0), 0, []),
  (188, false, .iload_n 3, 1, 0, (0, 0, 0, 0), 0, []),
  (189, false, .ishl, 1, 0, (0, 0, 0, 0), 0, []),
  (190, false, .iand, 1, 0, (0, 0, 0, 0), 0, []),
  (191, false, .putfield 24, 3, 257, (8, 3, 0, 0), 0, []),
  (194, false, .goto 20, 3, 0, (214, 0, 0, 0), 0, []),
  (197, false, .aload_n 0, 1, 0, (0, 0, 0, 0), 0, []),
  (198, false, .dup, 1, 0, (0, 0, 0, 0), 0, []),
  (199, false, .getfield 33, 3, 260, (8, 6, 0, 0), 0, []),
  (202, false, .iconst 1, 1, 0, (0, 0, 0, 0), 0, []),
  (203, false, .iload_n 2, 1, 0, (0, 0, 0, 0), 0, []),
  (204, false, .iconst 1, 1, 0, (0, 0, 0, 0), 0, []),
  (205, false, .isub, 1, 0, (0, 0, 0, 0), 0, []),
  (206, false, .ishl, 1, 0, (0, 0, 0, 0), 0, []),
  (207, false, .iand, 1, 0, (0, 0, 0, 0), 0, []),
  (208, false, .putfield 33, 3, 260, (8, 6, 0, 0), 0, []),
  (211, false, .goto 3, 3, 0, (214, 0, 0, 0), 0, []),
  (214, false, .return_, 1, 0, (0, 0, 0, 0), 0, [])]
theorem zc_xC_add : zk_xC_add.all (zz_ck zz_inf zM_xC_add) = true ∧ zz_ch zk_xC_add = true := ⟨by decide +kernel, by decide +kernel⟩
noncomputable def xC_add (v0 v1 v2 v3 : Int) (σ : zz_S) : zz_R := (if v0 = 0 then none else (if v0 = 0 then none else (let s1 := zz_w σ 8 v0 0 (zz_r ((zz_h σ 8 v0 0) + 1)); (if v1 = 0 then (if v0 = 0 then none else (if v0 = 0 then none else (let s13 := zz_w s1 8 v0 1 (zz_land (zz_h s1 8 v0 1) (zz_lshl 1 v2)); (some (0, s13))))) else (if v1 = 1 then (if v0 = 0 then none else (if v0 = 0 then none else (let s12 := zz_w s1 8 v0 2 (zz_and (zz_h s1 8 v0 2) (zz_shl 1 v2)); (some (0, s12))))) else (if v1 = 2 then (if v0 = 0 then none else ((xC_ring v2 v3 24 s1).bind fun q10 => (if v0 = 0 then none else (let s11 := zz_w q10.2 8 v0 2 (zz_and (zz_h s1 8 v0 2) q10.1); (some (0, s11)))))) else (if v1 = 3 then (if v0 = 0 then none else (if v0 = 0 then none else (let s9 := zz_w s1 8 v0 3 (zz_and (zz_h s1 8 v0 3) (zz_shl 1 v2)); (some (0, s9))))) else (if v1 = 4 then (if v0 = 0 then none else ((xC_ring v2 v3 7 s1).bind fun q7 => (if v0 = 0 then none else (let s8 := zz_w q7.2 8 v0 3 (zz_and (zz_h s1 8 v0 3) q7.1); (some (0, s8)))))) else (if v1 = 5 then (if v0 = 0 then none else (if v0 = 0 then none else (let s6 := zz_w s1 8 v0 4 (zz_and (zz_h s1 8 v0 4) (zz_shl 1 (zz_r (v2 - 1)))); (some (0, s6))))) else (if v1 = 6 then (if v0 = 0 then none else (let s5 := zz_w s1 8 v0 7 1; (some (0, s5)))) else (if v1 = 7 then (if v0 = 0 then none else (if v0 = 0 then none else (let s3 := zz_w s1 8 v0 5 (zz_and (zz_h s1 8 v0 5) (zz_shl 1 (zz_r (v2 - 1)))); (if v0 = 0 then none else (if v0 = 0 then none else (let s4 := zz_w s3 8 v0 3 (zz_and (zz_h s3 8 v0 3) (zz_shl 1 v3)); (some (0, s4)))))))) else (if v1 = 8 then (if v0 = 0 then none else (if v0 = 0 then none else (let s2 := zz_w s1 8 v0 6 (zz_and (zz_h s1 8 v0 6) (zz_shl 1 (zz_r (v2 - 1)))); (some (0, s2))))) else (some (0, s1))))))))))))))
set_option maxRecDepth 100000 in
set_option maxHeartbeats 4000000 in
theorem ze_xC_add (v0 v1 v2 v3 : Int) (σ : zz_S) : xC_add v0 v1 v2 v3 σ = zz_ev (zz_CE [(96, zw_xC_ring)]) (zz_KE []) zk_xC_add 999 false 0 0 400 true (zz_sk zk_xC_add 0) [(0, 10, v0), (1, 0, v1), (2, 0, v2), (3, 0, v3)] [] σ := rfl
theorem zo_xC_add : zz_okb zM_xC_add 0 [(0, 10, false), (1, 0, false), (2, 0, false), (3, 0, false)] (zz_f4 xC_add) :=
  fun vs σ r τ h => by
    obtain ⟨v0, v1, v2, v3, rfl, h⟩ := zz_f4_ok h
    exact zz_from zc_xC_add (zz_occ zo_m_xC_ring zz_oc0) zz_ol0 ((ze_xC_add v0 v1 v2 v3 σ).symm.trans h)
noncomputable def zw_xC_add : List Int → zz_S → zz_R := zz_f4 fun a0 a1 a2 a3 σ => xC_add a0 a1 a2 a3 σ
theorem zo_m_xC_add : zz_okm zz_inf 95 zw_xC_add := fun vs σ r τ h => by
  obtain ⟨a0, a1, a2, a3, rfl, h⟩ := zz_f4_ok h
  exact zz_meth zi_xC_add zy_xC_add (zo_xC_add [a0, a1, a2, a3] σ r τ h)
def zk_x_calendar : List zz_E := [(0, false, .aload_n 0, 1, 0, (0, 0, 0, 0), 0, []),
  (1, false, .iload_n 1, 1, 0, (0, 0, 0, 0), 0, []),
  (2, false, .invokevirtual 100, 3, 385, (73, 2, 9, 0), 0, [0, 5]),
  (5, false, .astore 5, 2, 0, (0, 0, 0, 0), 0, []),
  (7, false, .aload 5, 2, 0, (0, 0, 0, 0), 0, []),
  (9, false, .ifnull 22, 3, 0, (31, 0, 0, 0), 0, []),
  (12, false, .aload 5, 2, 0, (0, 0, 0, 0), 0, []),
  (14, false, .getfield 114, 3, 301, (7, 1, 0, 0), 0, []),
  (17, false, .iconst 3, 1, 0, (0, 0, 0, 0), 0, []),
  (18, false, .if_icmp .ne 13, 3, 0, (31, 0, 0, 0), 0, []),
  (21, false, .iload_n 2, 1, 0, (0, 0, 0, 0), 0, []),
  (22, false, .iload_n 3, 1, 0, (0, 0, 0, 0), 0, []),
  (23, false, .iload 4, 2, 0, (0, 0, 0, 0), 0, []),
  (25, false, .invokestatic 117, 3, 400, (94, 3, 0, 0), 0, [0, 0, 0]),
  (28, false, .ifCond .ne 6, 3, 0, (34, 0, 0, 0), 0, []),
  (31, false, .bipush (-2), 2, 0, (0, 0, 0, 0), 0, []),
  (33, false, .ireturn, 1, 0, (0, 0, 0, 0), 0, []),
  (34, false, .aload 5, 2, 0, (0, 0, 0, 0), 0, []),
  (36, false, .getfield 122, 3, 311, (7, 5, 10, 1), 0, []),
  (39, false, .getfield 126, 3, 254, (8, 0, 0, 0), 0, []),
  (42, false, .iconst 4, 1, 0, (0, 0, 0, 0), 0, []),
  (43, false, .if_icmp .lt 6, 3, 0, (49, 0, 0, 0), 0, []),
  (46, false, .bipush (-4), 2, 0, (0, 0, 0, 0), 0, []),
  (48, false, .ireturn, 1, 0, (0, 0, 0, 0), 0, []),
  (49, false, .aload 5, 2, 0, (0, 0, 0, 0), 0, []),
  (51, false, .getfield 122, 3, 311, (7, 5, 10, 1), 0, []),
  (54, false, .iload_n 2, 1, 0, (0, 0, 0, 0), 0, []),
  (55, false, .iload_n 3, 1, 0, (0, 0, 0, 0), 0, []),
  (56, false, .iload 4, 2, 0, (0, 0, 0, 0), 0, []),
  (58, false, .invokevirtual 129, 3, 406, (95, 4, 999, 0), 0, [0, 0, 0, 10]),
  (61, false, .aload 5, 2, 0, (0, 0, 0, 0), 0, []),
  (63, false, .getfield 122, 3, 311, (7, 5, 10, 1), 0, []),
  (66, false, .getfield 126, 3, 254, (8, 0, 0, 0), 0, []),
  (69, false, .ireturn, 1, 0, (0, 0, 0, 0), 0, [])]
theorem zc_x_calendar : zk_x_calendar.all (zz_ck zz_inf zM_x_calendar) = true ∧ zz_ch zk_x_calendar = true := ⟨by decide +kernel, by decide +kernel⟩
noncomputable def x_calendar (v1 v2 v3 v4 : Int) (σ : zz_S) : zz_R := ((x_taskAt v1 σ).bind fun q1 => (if q1.1 = 0 then (some ((-2), q1.2)) else (if q1.1 = 0 then none else (if (zz_h q1.2 7 q1.1 1) = 3 then ((xC_isForm v2 v3 v4 q1.2).bind fun q2 => (if q2.1 = 0 then (some ((-2), q2.2)) else (if q1.1 = 0 then none else (if q1.1 = 0 then none else (if (zz_h q2.2 8 q1.1 0) < 4 then (if q1.1 = 0 then none else (if q1.1 = 0 then none else ((xC_add q1.1 v2 v3 v4 q2.2).bind fun q3 => (if q1.1 = 0 then none else (if q1.1 = 0 then none else (some ((zz_h q3.2 8 q1.1 0), q3.2))))))) else (some ((-4), q2.2))))))) else (some ((-2), q1.2))))))
set_option maxRecDepth 100000 in
set_option maxHeartbeats 4000000 in
theorem ze_x_calendar (v1 v2 v3 v4 : Int) (σ : zz_S) : x_calendar v1 v2 v3 v4 σ = zz_ev (zz_CE [(73, zw_x_taskAt), (94, zw_xC_isForm), (95, zw_xC_add)]) (zz_KE []) zk_x_calendar 0 false 0 0 400 true (zz_sk zk_x_calendar 0) [(0, 5, 1), (1, 0, v1), (2, 0, v2), (3, 0, v3), (4, 0, v4)] [] σ := rfl
theorem zo_x_calendar : zz_okb zM_x_calendar 0 [(0, 5, true), (1, 0, false), (2, 0, false), (3, 0, false), (4, 0, false)] (zz_f4 x_calendar) :=
  fun vs σ r τ h => by
    obtain ⟨v1, v2, v3, v4, rfl, h⟩ := zz_f4_ok h
    exact zz_from zc_x_calendar (zz_occ zo_m_x_taskAt (zz_occ zo_m_xC_isForm (zz_occ zo_m_xC_add zz_oc0))) zz_ol0 ((ze_x_calendar v1 v2 v3 v4 σ).symm.trans h)
noncomputable def zw_x_calendar : List Int → zz_S → zz_R := zz_f5 fun a0 a1 a2 a3 a4 σ => if a0 = 1 then x_calendar a1 a2 a3 a4 σ else none
theorem zo_m_x_calendar : zz_okm zz_inf 17 zw_x_calendar := fun vs σ r τ h => by
  obtain ⟨a0, a1, a2, a3, a4, rfl, h⟩ := zz_f5_ok h
  obtain ⟨e, h⟩ := zz_it h
  subst e
  exact zz_meth zi_x_calendar zy_x_calendar (zo_x_calendar [a1, a2, a3, a4] σ r τ h)
def zk_x_body : List zz_E := [(0, false, .aload_n 0, 1, 0, (0, 0, 0, 0), 0, []),
  (1, false, .iload_n 1, 1, 0, (0, 0, 0, 0), 0, []),
  (2, false, .invokevirtual 100, 3, 385, (73, 2, 9, 0), 0, [0, 5]),
  (5, false, .astore 5, 2, 0, (0, 0, 0, 0), 0, []),
  (7, false, .aload 5, 2, 0, (0, 0, 0, 0), 0, []),
  (9, false, .ifnull 13, 3, 0, (22, 0, 0, 0), 0, []),
  (12, false, .iload_n 2, 1, 0, (0, 0, 0, 0), 0, []),
  (13, false, .iconst 0, 1, 0, (0, 0, 0, 0), 0, []),
  (14, false, .bipush 6, 2, 0, (0, 0, 0, 0), 0, []),
  (16, false, .invokestatic 91, 3, 228, (72, 3, 0, 0), 0, [0, 0, 0]),
  (19, false, .ifCond .ne 6, 3, 0, (25, 0, 0, 0), 0, []),
  (22, false, .bipush (-2), 2, 0, (0, 0, 0, 0), 0, []),
  (24, false, .ireturn, 1, 0, (0, 0, 0, 0), 0, []),
  (25, false, .aload 5, 2, 0, (0, 0, 0, 0), 0, []),
  (27, false, .getfield 133, 3, 315, (7, 7, 0, 0), 0, []),
  (30, false, .istore 6, 2, 0, (0, 0, 0, 0), 0, []),
  (32, false, .aload 5, 2, 0, (0, 0, 0, 0), 0, []),
  (34, false, .iload_n 2, 1, 0, (0, 0, 0, 0), 0, []),
  (35, false, .putfield 133, 3, 315, (7, 7, 0, 0), 0, []),
  (38, false, .aload 5, 2, 0, (0, 0, 0, 0), 0, []),
  (40, false, .iload_n 3, 1, 0, (0, 0, 0, 0), 0, []),
  (41, false, .putfield 136, 3, 317, (7, 8, 0, 0), 0, []),
  (44, false, .aload 5, 2, 0, (0, 0, 0, 0), 0, []),
  (46, false, .iload 4, 2, 0, (0, 0, 0, 0), 0, []),
  (48, false, .putfield 139, 3, 319, (7, 9, 0, 0), 0, []),
  (51, false, .iload 6, 2, 0, (0, 0, 0, 0), 0, []),
  (53, false, .ireturn, 1, 0, (0, 0, 0, 0), 0, [])]
theorem zc_x_body : zk_x_body.all (zz_ck zz_inf zM_x_body) = true ∧ zz_ch zk_x_body = true := ⟨by decide +kernel, by decide +kernel⟩
noncomputable def x_body (v1 v2 v3 v4 : Int) (σ : zz_S) : zz_R := ((x_taskAt v1 σ).bind fun q1 => (if q1.1 = 0 then (some ((-2), q1.2)) else ((x_isWithin v2 0 6 q1.2).bind fun q2 => (if q2.1 = 0 then (some ((-2), q2.2)) else (if q1.1 = 0 then none else (if q1.1 = 0 then none else (let s3 := zz_w q2.2 7 q1.1 7 v2; (if q1.1 = 0 then none else (let s4 := zz_w s3 7 q1.1 8 v3; (if q1.1 = 0 then none else (let s5 := zz_w s4 7 q1.1 9 v4; (some ((zz_h q2.2 7 q1.1 7), s5)))))))))))))
set_option maxRecDepth 100000 in
set_option maxHeartbeats 4000000 in
theorem ze_x_body (v1 v2 v3 v4 : Int) (σ : zz_S) : x_body v1 v2 v3 v4 σ = zz_ev (zz_CE [(72, zw_x_isWithin), (73, zw_x_taskAt)]) (zz_KE []) zk_x_body 0 false 0 0 400 true (zz_sk zk_x_body 0) [(0, 5, 1), (1, 0, v1), (2, 0, v2), (3, 0, v3), (4, 0, v4)] [] σ := rfl
theorem zo_x_body : zz_okb zM_x_body 0 [(0, 5, true), (1, 0, false), (2, 0, false), (3, 0, false), (4, 0, false)] (zz_f4 x_body) :=
  fun vs σ r τ h => by
    obtain ⟨v1, v2, v3, v4, rfl, h⟩ := zz_f4_ok h
    exact zz_from zc_x_body (zz_occ zo_m_x_isWithin (zz_occ zo_m_x_taskAt zz_oc0)) zz_ol0 ((ze_x_body v1 v2 v3 v4 σ).symm.trans h)
noncomputable def zw_x_body : List Int → zz_S → zz_R := zz_f5 fun a0 a1 a2 a3 a4 σ => if a0 = 1 then x_body a1 a2 a3 a4 σ else none
theorem zo_m_x_body : zz_okm zz_inf 18 zw_x_body := fun vs σ r τ h => by
  obtain ⟨a0, a1, a2, a3, a4, rfl, h⟩ := zz_f5_ok h
  obtain ⟨e, h⟩ := zz_it h
  subst e
  exact zz_meth zi_x_body zy_x_body (zo_x_body [a1, a2, a3, a4] σ r τ h)
def zk_x_link : List zz_E := [(0, false, .iload_n 2, 1, 0, (0, 0, 0, 0), 0, []),
  (1, false, .bipush 60, 2, 0, (0, 0, 0, 0), 0, []),
  (3, false, .if_icmp .lt 5, 3, 0, (8, 0, 0, 0), 0, []),
  (6, false, .iload_n 2, 1, 0, (0, 0, 0, 0), 0, []),
  (7, false, .ireturn, 1, 0, (0, 0, 0, 0), 0, []),
  (8, false, .iconst 0, 1, 0, (0, 0, 0, 0), 0, []),
  (9, false, .istore_n 3, 1, 0, (0, 0, 0, 0), 0, []),
  (10, true, .iload_n 3, 1, 0, (0, 0, 0, 0), 0, []),
  (11, false, .iload_n 2, 1, 0, (0, 0, 0, 0), 0, []),
  (12, false, .if_icmp .ge 21, 3, 0, (33, 0, 0, 0), 0, []),
  (15, false, .aload_n 0, 1, 0, (0, 0, 0, 0), 0, []),
  (16, false, .getfield 59, 3, 173, (3, 10, 20, 1), 0, []),
  (19, false, .iload_n 3, 1, 0, (0, 0, 0, 0), 0, []),
  (20, false, .iaload, 1, 0, (18, 0, 0, 0), 0, []),
  (21, false, .iload_n 1, 1, 0, (0, 0, 0, 0), 0, []),
  (22, false, .if_icmp .ne 5, 3, 0, (27, 0, 0, 0), 0, []),
  (25, false, .iload_n 2, 1, 0, (0, 0, 0, 0), 0, []),
  (26, false, .ireturn, 1, 0, (0, 0, 0, 0), 0, []),
  (27, false, .iinc 3 1, 3, 0, (0, 0, 0, 0), 0, []),
  (30, false, .goto (-20), 3, 0, (10, 0, 0, 0), 0, []),
  (33, false, .aload_n 0, 1, 0, (0, 0, 0, 0), 0, []),
  (34, false, .getfield 59, 3, 173, (3, 10, 20, 1), 0, []),
  (37, false, .iload_n 2, 1, 0, (0, 0, 0, 0), 0, []),
  (38, false, .iload_n 1, 1, 0, (0, 0, 0, 0), 0, []),
  (39, false, .iastore, 1, 0, (18, 0, 0, 0), 0, []),
  (40, false, .iload_n 2, 1, 0, (0, 0, 0, 0), 0, []),
  (41, false, .iconst 1, 1, 0, (0, 0, 0, 0), 0, []),
  (42, false, .iadd, 1, 0, (0, 0, 0, 0), 0, []),
  (43, false, .ireturn, 1, 0, (0, 0, 0, 0), 0, [])]
theorem zc_x_link : zk_x_link.all (zz_ck zz_inf zM_x_link) = true ∧ zz_ch zk_x_link = true := ⟨by decide +kernel, by decide +kernel⟩
noncomputable def x_link_10 : Nat → Int → Int → Int → zz_S → zz_R
  | 0, _, _, _, _ => none
  | n + 1, v1, v2, v3, σ => (if v3 < v2 then (if zz_b σ 18 1 v3 then (if (zz_h σ 18 1 v3) = v1 then (some (v2, σ)) else (x_link_10 n v1 v2 (zz_r (v3 + 1)) σ)) else none) else (if zz_b σ 18 1 v2 then (let s1 := zz_w σ 18 1 v2 v1; (some ((zz_r (v2 + 1)), s1))) else none))
set_option maxRecDepth 100000 in
set_option maxHeartbeats 4000000 in
theorem ze_x_link_10 (n : Nat) (v1 v2 v3 : Int) (σ : zz_S) : x_link_10 (n + 1) v1 v2 v3 σ = zz_ev (zz_CE []) (zz_KE [(10, [(0, 5, true), (1, 0, false), (2, 0, false), (3, 0, false)], zz_f3 (x_link_10 n))]) zk_x_link 0 false 0 0 400 true (zz_sk zk_x_link 10) [(0, 5, 1), (1, 0, v1), (2, 0, v2), (3, 0, v3)] [] σ := rfl
theorem zo_x_link_10 : ∀ n : Nat, zz_okb zM_x_link 10 [(0, 5, true), (1, 0, false), (2, 0, false), (3, 0, false)] (zz_f3 (x_link_10 n))
  | 0 => fun vs σ r τ h => by
    obtain ⟨v1, v2, v3, rfl, h⟩ := zz_f3_ok h
    exact nomatch (show (none : zz_R) = some (r, τ) from h)
  | n + 1 => by
    have ih := zo_x_link_10 n
    exact fun vs σ r τ h => by
        obtain ⟨v1, v2, v3, rfl, h⟩ := zz_f3_ok h
        exact zz_from zc_x_link zz_oc0 (zz_olc ih zz_ol0) ((ze_x_link_10 n v1 v2 v3 σ).symm.trans h)
noncomputable def x_link (v1 v2 : Int) (σ : zz_S) : zz_R := (if v2 < 60 then (x_link_10 zz_fu v1 v2 0 σ) else (some (v2, σ)))
set_option maxRecDepth 100000 in
set_option maxHeartbeats 4000000 in
theorem ze_x_link (v1 v2 : Int) (σ : zz_S) : x_link v1 v2 σ = zz_ev (zz_CE []) (zz_KE [(10, [(0, 5, true), (1, 0, false), (2, 0, false), (3, 0, false)], zz_f3 (x_link_10 zz_fu))]) zk_x_link 0 false 0 0 400 true (zz_sk zk_x_link 0) [(0, 5, 1), (1, 0, v1), (2, 0, v2)] [] σ := rfl
theorem zo_x_link : zz_okb zM_x_link 0 [(0, 5, true), (1, 0, false), (2, 0, false)] (zz_f2 x_link) :=
  fun vs σ r τ h => by
    obtain ⟨v1, v2, rfl, h⟩ := zz_f2_ok h
    exact zz_from zc_x_link zz_oc0 (zz_olc (zo_x_link_10 zz_fu) zz_ol0) ((ze_x_link v1 v2 σ).symm.trans h)
noncomputable def zw_x_link : List Int → zz_S → zz_R := zz_f3 fun a0 a1 a2 σ => if a0 = 1 then x_link a1 a2 σ else none
theorem zo_m_x_link : zz_okm zz_inf 21 zw_x_link := fun vs σ r τ h => by
  obtain ⟨a0, a1, a2, rfl, h⟩ := zz_f3_ok h
  obtain ⟨e, h⟩ := zz_it h
  subst e
  exact zz_meth zi_x_link zy_x_link (zo_x_link [a1, a2] σ r τ h)
def zk_x_comesAfter : List zz_E := [(0, false, .aload_n 0, 1, 0, (0, 0, 0, 0), 0, []),
  (1, false, .iload_n 1, 1, 0, (0, 0, 0, 0), 0, []),
  (2, false, .iconst 0, 1, 0, (0, 0, 0, 0), 0, []),
  (3, false, .invokevirtual 158, 3, 425, (21, 3, 0, 0), 0, [0, 0, 5]),
  (6, false, .istore_n 3, 1, 0, (0, 0, 0, 0), 0, []),
  (7, false, .iconst 0, 1, 0, (0, 0, 0, 0), 0, []),
  (8, false, .istore 4, 2, 0, (0, 0, 0, 0), 0, []),
  (10, true, .iload 4, 2, 0, (0, 0, 0, 0), 0, []),
  (12, false, .iload_n 3, 1, 0, (0, 0, 0, 0), 0, []),
  (13, false, .if_icmp .ge 80, 3, 0, (93, 0, 0, 0), 0, []),
  (16, false, .aload_n 0, 1, 0, (0, 0, 0, 0), 0, []),
  (17, false, .aload_n 0, 1, 0, (0, 0, 0, 0), 0, []),
  (18, false, .getfield 59, 3, 173, (3, 10, 20, 1), 0, []),
  (21, false, .iload 4, 2, 0, (0, 0, 0, 0), 0, []),
  (23, false, .iaload, 1, 0, (18, 0, 0, 0), 0, []),
  (24, false, .invokevirtual 100, 3, 385, (73, 2, 9, 0), 0, [0, 5]),
  (27, false, .astore 5, 2, 0, (0, 0, 0, 0), 0, []),
  (29, false, .aload 5, 2, 0, (0, 0, 0, 0), 0, []),
  (31, false, .ifnonnull 6, 3, 0, (37, 0, 0, 0), 0, []),
  (34, false, .goto 53, 3, 0, (87, 0, 0, 0), 0, []),
  (37, false, .aload 5, 2, 0, (0, 0, 0, 0), 0, []),
  (39, false, .getfield 162, 3, 299, (7, 0, 0, 0), 0, []),
  (42, false, .iload_n 2, 1, 0, (0, 0, 0, 0), 0, []),
  (43, false, .if_icmp .ne 5, 3, 0, (48, 0, 0, 0), 0, []),
  (46, false, .iconst 1, 1, 0, (0, 0, 0, 0), 0, []),
  (47, false, .ireturn, 1, 0, (0, 0, 0, 0), 0, []),
  (48, false, .iconst 0, 1, 0, (0, 0, 0, 0), 0, []),
  (49, false, .istore 6, 2, 0, (0, 0, 0, 0), 0, []),
  (51, true, .iload 6, 2, 0, (0, 0, 0, 0), 0, []),
  (53, false, .aload 5, 2, 0, (0, 0, 0, 0), 0, []),
  (55, false, .getfield 146, 3, 313, (7, 6, 11, 1), 0, []),
  (58, false, .getfield 150, 3, 289, (9, 2, 0, 0), 0, []),
  (61, false, .if_icmp .ge 26, 3, 0, (87, 0, 0, 0), 0, []),
  (64, false, .aload_n 0, 1, 0, (0, 0, 0, 0), 0, []),
  (65, false, .aload 5, 2, 0, (0, 0, 0, 0), 0, []),
  (67, false, .getfield 146, 3, 313, (7, 6, 11, 1), 0, []),
  (70, false, .getfield 165, 3, 286, (9, 0, 31, 1), 0, []),
  (73, false, .iload 6, 2, 0, (0, 0, 0, 0), 0, []),
  (75, false, .iaload, 1, 0, (29, 0, 0, 0), 0, []),
  (76, false, .iload_n 3, 1, 0, (0, 0, 0, 0), 0, []),
  (77, false, .invokevirtual 158, 3, 425, (21, 3, 0, 0), 0, [0, 0, 5]),
  (80, false, .istore_n 3, 1, 0, (0, 0, 0, 0), 0, []),
  (81, false, .iinc 6 1, 3, 0, (0, 0, 0, 0), 0, []),
  (84, false, .goto (-33), 3, 0, (51, 0, 0, 0), 0, []),
  (87, false, .iinc 4 1, 3, 0, (0, 0, 0, 0), 0, []),
  (90, false, .goto (-80), 3, 0, (10, 0, 0, 0), 0, []),
  (93, false, .iconst 0, 1, 0, (0, 0, 0, 0), 0, []),
  (94, false, .ireturn, 1, 0, (0, 0, 0, 0), 0, [])]
theorem zc_x_comesAfter : zk_x_comesAfter.all (zz_ck zz_inf zM_x_comesAfter) = true ∧ zz_ch zk_x_comesAfter = true := ⟨by decide +kernel, by decide +kernel⟩
noncomputable def x_comesAfter_51 (k10 : Int → Int → Int → zz_S → zz_R) : Nat → Int → Int → Int → Int → Int → zz_S → zz_R
  | 0, _, _, _, _, _, _ => none
  | n + 1, v2, v3, v4, v5, v6, σ => (if v5 = 0 then none else (if v5 = 0 then none else (if v6 < (zz_h σ 9 v5 2) then (if v5 = 0 then none else (if v5 = 0 then none else (if v5 = 0 then none else (if zz_b σ 29 v5 v6 then ((x_link (zz_h σ 29 v5 v6) v3 σ).bind fun q1 => (x_comesAfter_51 k10 n v2 q1.1 v4 v5 (zz_r (v6 + 1)) q1.2)) else none)))) else (k10 v2 v3 (zz_r (v4 + 1)) σ))))
set_option maxRecDepth 100000 in
set_option maxHeartbeats 4000000 in
theorem ze_x_comesAfter_51 (k10 : Int → Int → Int → zz_S → zz_R) (n : Nat) (v2 v3 v4 v5 v6 : Int) (σ : zz_S) : x_comesAfter_51 k10 (n + 1) v2 v3 v4 v5 v6 σ = zz_ev (zz_CE [(21, zw_x_link)]) (zz_KE [(10, [(0, 5, true), (2, 0, false), (3, 0, false), (4, 0, false)], zz_f3 k10), (51, [(0, 5, true), (2, 0, false), (3, 0, false), (4, 0, false), (5, 9, false), (6, 0, false)], zz_f5 (x_comesAfter_51 k10 n))]) zk_x_comesAfter 0 true 0 0 400 true (zz_sk zk_x_comesAfter 51) [(0, 5, 1), (2, 0, v2), (3, 0, v3), (4, 0, v4), (5, 9, v5), (6, 0, v6)] [] σ := rfl
theorem zo_x_comesAfter_51 (k10 : Int → Int → Int → zz_S → zz_R) (hk10 : zz_okb zM_x_comesAfter 10 [(0, 5, true), (2, 0, false), (3, 0, false), (4, 0, false)] (zz_f3 k10)) : ∀ n : Nat, zz_okb zM_x_comesAfter 51 [(0, 5, true), (2, 0, false), (3, 0, false), (4, 0, false), (5, 9, false), (6, 0, false)] (zz_f5 (x_comesAfter_51 k10 n))
  | 0 => fun vs σ r τ h => by
    obtain ⟨v2, v3, v4, v5, v6, rfl, h⟩ := zz_f5_ok h
    exact nomatch (show (none : zz_R) = some (r, τ) from h)
  | n + 1 => by
    have ih := zo_x_comesAfter_51 k10 hk10 n
    exact fun vs σ r τ h => by
        obtain ⟨v2, v3, v4, v5, v6, rfl, h⟩ := zz_f5_ok h
        exact zz_from zc_x_comesAfter (zz_occ zo_m_x_link zz_oc0) (zz_olc hk10 (zz_olc ih zz_ol0)) ((ze_x_comesAfter_51 k10 n v2 v3 v4 v5 v6 σ).symm.trans h)
noncomputable def x_comesAfter_10 : Nat → Int → Int → Int → zz_S → zz_R
  | 0, _, _, _, _ => none
  | n + 1, v2, v3, v4, σ => (if v4 < v3 then (if zz_b σ 18 1 v4 then ((x_taskAt (zz_h σ 18 1 v4) σ).bind fun q1 => (if q1.1 = 0 then (x_comesAfter_10 n v2 v3 (zz_r (v4 + 1)) q1.2) else (if q1.1 = 0 then none else (if (zz_h q1.2 7 q1.1 0) = v2 then (some (1, q1.2)) else (x_comesAfter_51 (x_comesAfter_10 n) zz_fu v2 v3 v4 q1.1 0 q1.2))))) else none) else (some (0, σ)))
set_option maxRecDepth 100000 in
set_option maxHeartbeats 4000000 in
theorem ze_x_comesAfter_10 (n : Nat) (v2 v3 v4 : Int) (σ : zz_S) : x_comesAfter_10 (n + 1) v2 v3 v4 σ = zz_ev (zz_CE [(73, zw_x_taskAt)]) (zz_KE [(10, [(0, 5, true), (2, 0, false), (3, 0, false), (4, 0, false)], zz_f3 (x_comesAfter_10 n)), (51, [(0, 5, true), (2, 0, false), (3, 0, false), (4, 0, false), (5, 9, false), (6, 0, false)], zz_f5 (x_comesAfter_51 (x_comesAfter_10 n) zz_fu))]) zk_x_comesAfter 0 true 0 0 400 true (zz_sk zk_x_comesAfter 10) [(0, 5, 1), (2, 0, v2), (3, 0, v3), (4, 0, v4)] [] σ := rfl
theorem zo_x_comesAfter_10 : ∀ n : Nat, zz_okb zM_x_comesAfter 10 [(0, 5, true), (2, 0, false), (3, 0, false), (4, 0, false)] (zz_f3 (x_comesAfter_10 n))
  | 0 => fun vs σ r τ h => by
    obtain ⟨v2, v3, v4, rfl, h⟩ := zz_f3_ok h
    exact nomatch (show (none : zz_R) = some (r, τ) from h)
  | n + 1 => by
    have ih := zo_x_comesAfter_10 n
    exact fun vs σ r τ h => by
        obtain ⟨v2, v3, v4, rfl, h⟩ := zz_f3_ok h
        exact zz_from zc_x_comesAfter (zz_occ zo_m_x_taskAt zz_oc0) (zz_olc ih (zz_olc (zo_x_comesAfter_51 (x_comesAfter_10 n) ih zz_fu) zz_ol0)) ((ze_x_comesAfter_10 n v2 v3 v4 σ).symm.trans h)
noncomputable def x_comesAfter (v1 v2 : Int) (σ : zz_S) : zz_R := ((x_link v1 0 σ).bind fun q1 => (x_comesAfter_10 zz_fu v2 q1.1 0 q1.2))
set_option maxRecDepth 100000 in
set_option maxHeartbeats 4000000 in
theorem ze_x_comesAfter (v1 v2 : Int) (σ : zz_S) : x_comesAfter v1 v2 σ = zz_ev (zz_CE [(21, zw_x_link)]) (zz_KE [(10, [(0, 5, true), (2, 0, false), (3, 0, false), (4, 0, false)], zz_f3 (x_comesAfter_10 zz_fu))]) zk_x_comesAfter 0 true 0 0 400 true (zz_sk zk_x_comesAfter 0) [(0, 5, 1), (1, 0, v1), (2, 0, v2)] [] σ := rfl
theorem zo_x_comesAfter : zz_okb zM_x_comesAfter 0 [(0, 5, true), (1, 0, false), (2, 0, false)] (zz_f2 x_comesAfter) :=
  fun vs σ r τ h => by
    obtain ⟨v1, v2, rfl, h⟩ := zz_f2_ok h
    exact zz_from zc_x_comesAfter (zz_occ zo_m_x_link zz_oc0) (zz_olc (zo_x_comesAfter_10 zz_fu) zz_ol0) ((ze_x_comesAfter v1 v2 σ).symm.trans h)
noncomputable def zw_x_comesAfter : List Int → zz_S → zz_R := zz_f3 fun a0 a1 a2 σ => if a0 = 1 then x_comesAfter a1 a2 σ else none
theorem zo_m_x_comesAfter : zz_okm zz_inf 20 zw_x_comesAfter := fun vs σ r τ h => by
  obtain ⟨a0, a1, a2, rfl, h⟩ := zz_f3_ok h
  obtain ⟨e, h⟩ := zz_it h
  subst e
  exact zz_meth zi_x_comesAfter zy_x_comesAfter (zo_x_comesAfter [a1, a2] σ r τ h)
def zk_xN_add : List zz_E := [(0, false, .aload_n 0, 1, 0, (0, 0, 0, 0), 0, []),
  (1, false, .getfield 18, 3, 288, (9, 2, 0, 0), 0, []),
  (4, false, .iconst 4, 1, 0, (0, 0, 0, 0), 0, []),
  (5, false, .if_icmp .lt 4, 3, 0, (9, 0, 0, 0), 0, []),
  (8, false, .return_, 1, 0, (0, 0, 0, 0), 0, []),
  (9, false, .aload_n 0, 1, 0, (0, 0, 0, 0), 0, []),
  (10, false, .getfield 9, 3, 285, (9, 0, 31, 1), 0, []),
  (13, false, .aload_n 0, 1, 0, (0, 0, 0, 0), 0, []),
  (14, false, .getfield 18, 3, 288, (9, 2, 0, 0), 0, []),
  (17, false, .iload_n 1, 1, 0, (0, 0, 0, 0), 0, []),
  (18, false, .iastore, 1, 0, (29, 0, 0, 0), 0, []),
  (19, false, .aload_n 0, 1, 0, (0, 0, 0, 0), 0, []),
  (20, false, .getfield 15, 3, 287, (9, 1, 32, 1), 0, []),
  (23, false, .aload_n 0, 1, 0, (0, 0, 0, 0), 0, []),
  (24, false, .getfield 18, 3, 288, (9, 2, 0, 0), 0, []),
  (27, false, .iload_n 2, 1, 0, (0, 0, 0, 0), 0, []),
  (28, false, .iastore, 1, 0, (30, 0, 0, 0), 0, []),
  (29, false, .aload_n 0, 1, 0, (0, 0, 0, 0), 0, []),
  (30, false, .dup, 1, 0, (0, 0, 0, 0), 0, []),
  (31, false, .getfield 18, 3, 288, (9, 2, 0, 0), 0, []),
  (34, false, .iconst 1, 1, 0, (0, 0, 0, 0), 0, []),
  (35, false, .iadd, 1, 0, (0, 0, 0, 0), 0, []),
  (36, false, .putfield 18, 3, 288, (9, 2, 0, 0), 0, []),
  (39, false, .return_, 1, 0, (0, 0, 0, 0), 0, [])]
theorem zc_xN_add : zk_xN_add.all (zz_ck zz_inf zM_xN_add) = true ∧ zz_ch zk_xN_add = true := ⟨by decide +kernel, by decide +kernel⟩
noncomputable def xN_add (v0 v1 v2 : Int) (σ : zz_S) : zz_R := (if v0 = 0 then none else (if (zz_h σ 9 v0 2) < 4 then (if v0 = 0 then none else (if v0 = 0 then none else (if v0 = 0 then none else (if zz_b σ 29 v0 (zz_h σ 9 v0 2) then (let s1 := zz_w σ 29 v0 (zz_h σ 9 v0 2) v1; (if v0 = 0 then none else (if v0 = 0 then none else (if v0 = 0 then none else (if zz_b s1 30 v0 (zz_h s1 9 v0 2) then (let s2 := zz_w s1 30 v0 (zz_h s1 9 v0 2) v2; (if v0 = 0 then none else (if v0 = 0 then none else (let s3 := zz_w s2 9 v0 2 (zz_r ((zz_h s2 9 v0 2) + 1)); (some (0, s3)))))) else none))))) else none)))) else (some (0, σ))))
set_option maxRecDepth 100000 in
set_option maxHeartbeats 4000000 in
theorem ze_xN_add (v0 v1 v2 : Int) (σ : zz_S) : xN_add v0 v1 v2 σ = zz_ev (zz_CE []) (zz_KE []) zk_xN_add 999 false 0 0 400 true (zz_sk zk_xN_add 0) [(0, 11, v0), (1, 0, v1), (2, 0, v2)] [] σ := rfl
theorem zo_xN_add : zz_okb zM_xN_add 0 [(0, 11, false), (1, 0, false), (2, 0, false)] (zz_f3 xN_add) :=
  fun vs σ r τ h => by
    obtain ⟨v0, v1, v2, rfl, h⟩ := zz_f3_ok h
    exact zz_from zc_xN_add zz_oc0 zz_ol0 ((ze_xN_add v0 v1 v2 σ).symm.trans h)
noncomputable def zw_xN_add : List Int → zz_S → zz_R := zz_f3 fun a0 a1 a2 σ => xN_add a0 a1 a2 σ
theorem zo_m_xN_add : zz_okm zz_inf 104 zw_xN_add := fun vs σ r τ h => by
  obtain ⟨a0, a1, a2, rfl, h⟩ := zz_f3_ok h
  exact zz_meth zi_xN_add zy_xN_add (zo_xN_add [a0, a1, a2] σ r τ h)
def zk_x_after : List zz_E := [(0, false, .aload_n 0, 1, 0, (0, 0, 0, 0), 0, []),
  (1, false, .iload_n 1, 1, 0, (0, 0, 0, 0), 0, []),
  (2, false, .invokevirtual 100, 3, 385, (73, 2, 9, 0), 0, [0, 5]),
  (5, false, .astore 4, 2, 0, (0, 0, 0, 0), 0, []),
  (7, false, .aload 4, 2, 0, (0, 0, 0, 0), 0, []),
  (9, false, .ifnull 20, 3, 0, (29, 0, 0, 0), 0, []),
  (12, false, .aload 4, 2, 0, (0, 0, 0, 0), 0, []),
  (14, false, .getfield 114, 3, 301, (7, 1, 0, 0), 0, []),
  (17, false, .iconst 4, 1, 0, (0, 0, 0, 0), 0, []),
  (18, false, .if_icmp .ne 11, 3, 0, (29, 0, 0, 0), 0, []),
  (21, false, .aload_n 0, 1, 0, (0, 0, 0, 0), 0, []),
  (22, false, .iload_n 2, 1, 0, (0, 0, 0, 0), 0, []),
  (23, false, .invokevirtual 100, 3, 385, (73, 2, 9, 0), 0, [0, 5]),
  (26, false, .ifnonnull 6, 3, 0, (32, 0, 0, 0), 0, []),
  (29, false, .bipush (-2), 2, 0, (0, 0, 0, 0), 0, []),
  (31, false, .ireturn, 1, 0, (0, 0, 0, 0), 0, []),
  (32, false, .iload_n 1, 1, 0, (0, 0, 0, 0), 0, []),
  (33, false, .iload_n 2, 1, 0, (0, 0, 0, 0), 0, []),
  (34, false, .if_icmp .eq 12, 3, 0, (46, 0, 0, 0), 0, []),
  (37, false, .iload_n 3, 1, 0, (0, 0, 0, 0), 0, []),
  (38, false, .iconst 0, 1, 0, (0, 0, 0, 0), 0, []),
  (39, false, .iconst 2, 1, 0, (0, 0, 0, 0), 0, []),
  (40, false, .invokestatic 91, 3, 228, (72, 3, 0, 0), 0, [0, 0, 0]),
  (43, false, .ifCond .ne 6, 3, 0, (49, 0, 0, 0), 0, []),
  (46, false, .bipush (-2), 2, 0, (0, 0, 0, 0), 0, []),
  (48, false, .ireturn, 1, 0, (0, 0, 0, 0), 0, []),
  (49, false, .aload_n 0, 1, 0, (0, 0, 0, 0), 0, []),
  (50, false, .iload_n 2, 1, 0, (0, 0, 0, 0), 0, []),
  (51, false, .iload_n 1, 1, 0, (0, 0, 0, 0), 0, []),
  (52, false, .invokevirtual 142, 3, 421, (20, 3, 0, 0), 0, [0, 0, 5]),
  (55, false, .ifCond .eq 6, 3, 0, (61, 0, 0, 0), 0, []),
  (58, false, .bipush (-3), 2, 0, (0, 0, 0, 0), 0, []),
  (60, false, .ireturn, 1, 0, (0, 0, 0, 0), 0, []),
  (61, false, .aload 4, 2, 0, (0, 0, 0, 0), 0, []),
  (63, false, .getfield 146, 3, 313, (7, 6, 11, 1), 0, []),
  (66, false, .getfield 150, 3, 289, (9, 2, 0, 0), 0, []),
  (69, false, .iconst 4, 1, 0, (0, 0, 0, 0), 0, []),
  (70, false, .if_icmp .lt 6, 3, 0, (76, 0, 0, 0), 0, []),
  (73, false, .bipush (-4), 2, 0, (0, 0, 0, 0), 0, []),
  (75, false, .ireturn, 1, 0, (0, 0, 0, 0), 0, []),
  (76, false, .aload 4, 2, 0, (0, 0, 0, 0), 0, []),
  (78, false, .getfield 146, 3, 313, (7, 6, 11, 1), 0, []),
  (81, false, .iload_n 2, 1, 0, (0, 0, 0, 0), 0, []),
  (82, false, .iload_n 3, 1, 0, (0, 0, 0, 0), 0, []),
  (83, false, .invokevirtual 155, 3, 429, (104, 3, 999, 0), 0, [0, 0, 11]),
  (86, false, .aload 4, 2, 0, (0, 0, 0, 0), 0, []),
  (88, false, .getfield 146, 3, 313, (7, 6, 11, 1), 0, []),
  (91, false, .getfield 150, 3, 289, (9, 2, 0, 0), 0, []),
  (94, false, .ireturn, 1, 0, (0, 0, 0, 0), 0, [])]
theorem zc_x_after : zk_x_after.all (zz_ck zz_inf zM_x_after) = true ∧ zz_ch zk_x_after = true := ⟨by decide +kernel, by decide +kernel⟩
noncomputable def x_after (v1 v2 v3 : Int) (σ : zz_S) : zz_R := ((x_taskAt v1 σ).bind fun q1 => (if q1.1 = 0 then (some ((-2), q1.2)) else (if q1.1 = 0 then none else (if (zz_h q1.2 7 q1.1 1) = 4 then ((x_taskAt v2 q1.2).bind fun q2 => (if q2.1 = 0 then (some ((-2), q2.2)) else (if v1 = v2 then (some ((-2), q2.2)) else ((x_isWithin v3 0 2 q2.2).bind fun q3 => (if q3.1 = 0 then (some ((-2), q3.2)) else ((x_comesAfter v2 v1 q3.2).bind fun q4 => (if q4.1 = 0 then (if q1.1 = 0 then none else (if q1.1 = 0 then none else (if (zz_h q4.2 9 q1.1 2) < 4 then (if q1.1 = 0 then none else (if q1.1 = 0 then none else ((xN_add q1.1 v2 v3 q4.2).bind fun q5 => (if q1.1 = 0 then none else (if q1.1 = 0 then none else (some ((zz_h q5.2 9 q1.1 2), q5.2))))))) else (some ((-4), q4.2))))) else (some ((-3), q4.2))))))))) else (some ((-2), q1.2))))))
set_option maxRecDepth 100000 in
set_option maxHeartbeats 4000000 in
theorem ze_x_after (v1 v2 v3 : Int) (σ : zz_S) : x_after v1 v2 v3 σ = zz_ev (zz_CE [(20, zw_x_comesAfter), (72, zw_x_isWithin), (73, zw_x_taskAt), (104, zw_xN_add)]) (zz_KE []) zk_x_after 0 false 0 0 400 true (zz_sk zk_x_after 0) [(0, 5, 1), (1, 0, v1), (2, 0, v2), (3, 0, v3)] [] σ := rfl
theorem zo_x_after : zz_okb zM_x_after 0 [(0, 5, true), (1, 0, false), (2, 0, false), (3, 0, false)] (zz_f3 x_after) :=
  fun vs σ r τ h => by
    obtain ⟨v1, v2, v3, rfl, h⟩ := zz_f3_ok h
    exact zz_from zc_x_after (zz_occ zo_m_x_comesAfter (zz_occ zo_m_x_isWithin (zz_occ zo_m_x_taskAt (zz_occ zo_m_xN_add zz_oc0)))) zz_ol0 ((ze_x_after v1 v2 v3 σ).symm.trans h)
noncomputable def zw_x_after : List Int → zz_S → zz_R := zz_f4 fun a0 a1 a2 a3 σ => if a0 = 1 then x_after a1 a2 a3 σ else none
theorem zo_m_x_after : zz_okm zz_inf 19 zw_x_after := fun vs σ r τ h => by
  obtain ⟨a0, a1, a2, a3, rfl, h⟩ := zz_f4_ok h
  obtain ⟨e, h⟩ := zz_it h
  subst e
  exact zz_meth zi_x_after zy_x_after (zo_x_after [a1, a2, a3] σ r τ h)
