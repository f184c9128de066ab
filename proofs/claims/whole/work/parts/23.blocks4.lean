def zk_x_jump : List zz_E := [(0, false, .iload_n 1, 1, 0, (0, 0, 0, 0), 0, []),
  (1, false, .ifCond .eq 16, 3, 0, (17, 0, 0, 0), 0, []),
  (4, false, .iload_n 1, 1, 0, (0, 0, 0, 0), 0, []),
  (5, false, .sipush (-720), 3, 0, (0, 0, 0, 0), 0, []),
  (8, false, .sipush 720, 3, 0, (0, 0, 0, 0), 0, []),
  (11, false, .invokestatic 91, 3, 228, (72, 3, 0, 0), 0, [0, 0, 0]),
  (14, false, .ifCond .ne 6, 3, 0, (20, 0, 0, 0), 0, []),
  (17, false, .bipush (-2), 2, 0, (0, 0, 0, 0), 0, []),
  (19, false, .ireturn, 1, 0, (0, 0, 0, 0), 0, []),
  (20, false, .aload_n 0, 1, 0, (0, 0, 0, 0), 0, []),
  (21, false, .getfield 81, 3, 180, (3, 17, 0, 0), 0, []),
  (24, false, .iload_n 1, 1, 0, (0, 0, 0, 0), 0, []),
  (25, false, .iadd, 1, 0, (0, 0, 0, 0), 0, []),
  (26, false, .sipush (-1440), 3, 0, (0, 0, 0, 0), 0, []),
  (29, false, .sipush 1440, 3, 0, (0, 0, 0, 0), 0, []),
  (32, false, .invokestatic 91, 3, 228, (72, 3, 0, 0), 0, [0, 0, 0]),
  (35, false, .ifCond .eq 17, 3, 0, (52, 0, 0, 0), 0, []),
  (38, false, .aload_n 0, 1, 0, (0, 0, 0, 0), 0, []),
  (39, false, .getfield 78, 3, 179, (3, 16, 0, 0), 0, []),
  (42, false, .aload_n 0, 1, 0, (0, 0, 0, 0), 0, []),
  (43, false, .getfield 81, 3, 180, (3, 17, 0, 0), 0, []),
  (46, false, .iadd, 1, 0, (0, 0, 0, 0), 0, []),
  (47, false, .iload_n 1, 1, 0, (0, 0, 0, 0), 0, []),
  (48, false, .iadd, 1, 0, (0, 0, 0, 0), 0, []),
  (49, false, .ifCond .ge 6, 3, 0, (55, 0, 0, 0), 0, []),
  (52, false, .bipush (-2), 2, 0, (0, 0, 0, 0), 0, []),
  (54, false, .ireturn, 1, 0, (0, 0, 0, 0), 0, []),
  (55, false, .iload_n 1, 1, 0, (0, 0, 0, 0), 0, []),
  (56, false, .ifCond .le 29, 3, 0, (85, 0, 0, 0), 0, []),
  (59, false, .aload_n 0, 1, 0, (0, 0, 0, 0), 0, []),
  (60, false, .aload_n 0, 1, 0, (0, 0, 0, 0), 0, []),
  (61, false, .getfield 78, 3, 179, (3, 16, 0, 0), 0, []),
  (64, false, .aload_n 0, 1, 0, (0, 0, 0, 0), 0, []),
  (65, false, .getfield 81, 3, 180, (3, 17, 0, 0), 0, []),
  (68, false, .iadd, 1, 0, (0, 0, 0, 0), 0, []),
  (69, false, .aload_n 0, 1, 0, (0, 0, 0, 0), 0, []),
  (70, false, .getfield 78, 3, 179, (3, 16, 0, 0), 0, []),
  (73, false, .aload_n 0, 1, 0, (0, 0, 0, 0), 0, []),
  (74, false, .getfield 81, 3, 180, (3, 17, 0, 0), 0, []),
  (77, false, .iadd, 1, 0, (0, 0, 0, 0), 0, []),
  (78, false, .iload_n 1, 1, 0, (0, 0, 0, 0), 0, []),
  (79, false, .iadd, 1, 0, (0, 0, 0, 0), 0, []),
  (80, false, .iconst 1, 1, 0, (0, 0, 0, 0), 0, []),
  (81, false, .isub, 1, 0, (0, 0, 0, 0), 0, []),
  (82, false, .invokevirtual 370, 3, 682, (49, 3, 999, 0), 0, [0, 0, 5]),
  (85, true, .aload_n 0, 1, 0, (0, 0, 0, 0), 0, []),
  (86, false, .dup, 1, 0, (0, 0, 0, 0), 0, []),
  (87, false, .getfield 81, 3, 180, (3, 17, 0, 0), 0, []),
  (90, false, .iload_n 1, 1, 0, (0, 0, 0, 0), 0, []),
  (91, false, .iadd, 1, 0, (0, 0, 0, 0), 0, []),
  (92, false, .putfield 81, 3, 180, (3, 17, 0, 0), 0, []),
  (95, false, .aload_n 0, 1, 0, (0, 0, 0, 0), 0, []),
  (96, false, .getfield 81, 3, 180, (3, 17, 0, 0), 0, []),
  (99, false, .ireturn, 1, 0, (0, 0, 0, 0), 0, [])]
theorem zc_x_jump : zk_x_jump.all (zz_ck zz_inf zM_x_jump) = true ∧ zz_ch zk_x_jump = true := ⟨by decide +kernel, by decide +kernel⟩
noncomputable def x_jump_85 (v1 : Int) (σ : zz_S) : zz_R := (let s1 := zz_w σ 3 1 17 (zz_r ((zz_h σ 3 1 17) + v1)); (some ((zz_h s1 3 1 17), s1)))
set_option maxRecDepth 100000 in
set_option maxHeartbeats 4000000 in
theorem ze_x_jump_85 (v1 : Int) (σ : zz_S) : x_jump_85 v1 σ = zz_ev (zz_CE []) (zz_KE []) zk_x_jump 0 false 0 0 400 true (zz_sk zk_x_jump 85) [(0, 5, 1), (1, 0, v1)] [] σ := rfl
theorem zo_x_jump_85 : zz_okb zM_x_jump 85 [(0, 5, true), (1, 0, false)] (zz_f1 x_jump_85) :=
  fun vs σ r τ h => by
    obtain ⟨v1, rfl, h⟩ := zz_f1_ok h
    exact zz_from zc_x_jump zz_oc0 zz_ol0 ((ze_x_jump_85 v1 σ).symm.trans h)
noncomputable def x_jump (v1 : Int) (σ : zz_S) : zz_R := (if v1 = 0 then (some ((-2), σ)) else ((x_isWithin v1 (-720) 720 σ).bind fun q1 => (if q1.1 = 0 then (some ((-2), q1.2)) else ((x_isWithin (zz_r ((zz_h q1.2 3 1 17) + v1)) (-1440) 1440 q1.2).bind fun q2 => (if q2.1 = 0 then (some ((-2), q2.2)) else (if (zz_r ((zz_r ((zz_h q2.2 3 1 16) + (zz_h q2.2 3 1 17))) + v1)) < 0 then (some ((-2), q2.2)) else (if v1 ≤ 0 then (x_jump_85 v1 q2.2) else ((x_jumpOver (zz_r ((zz_h q2.2 3 1 16) + (zz_h q2.2 3 1 17))) (zz_r ((zz_r ((zz_r ((zz_h q2.2 3 1 16) + (zz_h q2.2 3 1 17))) + v1)) - 1)) q2.2).bind fun q3 => (x_jump_85 v1 q3.2)))))))))
set_option maxRecDepth 100000 in
set_option maxHeartbeats 4000000 in
theorem ze_x_jump (v1 : Int) (σ : zz_S) : x_jump v1 σ = zz_ev (zz_CE [(49, zw_x_jumpOver), (72, zw_x_isWithin)]) (zz_KE [(85, [(0, 5, true), (1, 0, false)], zz_f1 (x_jump_85))]) zk_x_jump 0 false 0 0 400 true (zz_sk zk_x_jump 0) [(0, 5, 1), (1, 0, v1)] [] σ := rfl
theorem zo_x_jump : zz_okb zM_x_jump 0 [(0, 5, true), (1, 0, false)] (zz_f1 x_jump) :=
  fun vs σ r τ h => by
    obtain ⟨v1, rfl, h⟩ := zz_f1_ok h
    exact zz_from zc_x_jump (zz_occ zo_m_x_jumpOver (zz_occ zo_m_x_isWithin zz_oc0)) (zz_olc (zo_x_jump_85) zz_ol0) ((ze_x_jump v1 σ).symm.trans h)
noncomputable def zw_x_jump : List Int → zz_S → zz_R := zz_f2 fun a0 a1 σ => if a0 = 1 then x_jump a1 σ else none
theorem zo_m_x_jump : zz_okm zz_inf 48 zw_x_jump := fun vs σ r τ h => by
  obtain ⟨a0, a1, rfl, h⟩ := zz_f2_ok h
  obtain ⟨e, h⟩ := zz_it h
  subst e
  exact zz_meth zi_x_jump zy_x_jump (zo_x_jump [a1] σ r τ h)
def zk_x_firstAtWork : List zz_E := [(0, false, .iconst 0, 1, 0, (0, 0, 0, 0), 0, []),
  (1, false, .istore_n 2, 1, 0, (0, 0, 0, 0), 0, []),
  (2, true, .iload_n 2, 1, 0, (0, 0, 0, 0), 0, []),
  (3, false, .aload_n 0, 1, 0, (0, 0, 0, 0), 0, []),
  (4, false, .getfield 69, 3, 176, (3, 13, 0, 0), 0, []),
  (7, false, .if_icmp .ge 34, 3, 0, (41, 0, 0, 0), 0, []),
  (10, false, .aload_n 0, 1, 0, (0, 0, 0, 0), 0, []),
  (11, false, .getfield 21, 3, 165, (3, 2, 15, 1), 0, []),
  (14, false, .iload_n 2, 1, 0, (0, 0, 0, 0), 0, []),
  (15, false, .aaload, 1, 0, (13, 0, 12, 0), 0, []),
  (16, false, .astore_n 3, 1, 0, (0, 0, 0, 0), 0, []),
  (17, false, .aload_n 3, 1, 0, (0, 0, 0, 0), 0, []),
  (18, false, .ifnull 17, 3, 0, (35, 0, 0, 0), 0, []),
  (21, false, .aload_n 1, 1, 0, (0, 0, 0, 0), 0, []),
  (22, false, .ifnull 11, 3, 0, (33, 0, 0, 0), 0, []),
  (25, false, .aload_n 3, 1, 0, (0, 0, 0, 0), 0, []),
  (26, false, .getfield 203, 3, 636, (10, 1, 9, 0), 0, []),
  (29, false, .aload_n 1, 1, 0, (0, 0, 0, 0), 0, []),
  (30, false, .if_acmp .ne 5, 3, 0, (35, 0, 0, 0), 0, []),
  (33, false, .aload_n 3, 1, 0, (0, 0, 0, 0), 0, []),
  (34, false, .areturn, 1, 0, (0, 0, 0, 0), 0, []),
  (35, false, .iinc 2 1, 3, 0, (0, 0, 0, 0), 0, []),
  (38, false, .goto (-36), 3, 0, (2, 0, 0, 0), 0, []),
  (41, false, .aconst_null, 1, 0, (0, 0, 0, 0), 0, []),
  (42, false, .areturn, 1, 0, (0, 0, 0, 0), 0, [])]
theorem zc_x_firstAtWork : zk_x_firstAtWork.all (zz_ck zz_inf zM_x_firstAtWork) = true ∧ zz_ch zk_x_firstAtWork = true := ⟨by decide +kernel, by decide +kernel⟩
noncomputable def x_firstAtWork_2 : Nat → Int → Int → zz_S → zz_R
  | 0, _, _, _ => none
  | n + 1, v1, v2, σ => (if v2 < (zz_h σ 3 1 13) then (if zz_b σ 13 1 v2 then (if (zz_h σ 13 1 v2) = 0 then (x_firstAtWork_2 n v1 (zz_r (v2 + 1)) σ) else (if v1 = 0 then (some ((zz_h σ 13 1 v2), σ)) else (if (zz_h σ 13 1 v2) = 0 then none else (if (zz_h σ 10 (zz_h σ 13 1 v2) 1) = v1 then (some ((zz_h σ 13 1 v2), σ)) else (x_firstAtWork_2 n v1 (zz_r (v2 + 1)) σ))))) else none) else (some (0, σ)))
set_option maxRecDepth 100000 in
set_option maxHeartbeats 4000000 in
theorem ze_x_firstAtWork_2 (n : Nat) (v1 v2 : Int) (σ : zz_S) : x_firstAtWork_2 (n + 1) v1 v2 σ = zz_ev (zz_CE []) (zz_KE [(2, [(0, 5, true), (1, 9, false), (2, 0, false)], zz_f2 (x_firstAtWork_2 n))]) zk_x_firstAtWork 12 false 0 0 400 true (zz_sk zk_x_firstAtWork 2) [(0, 5, 1), (1, 9, v1), (2, 0, v2)] [] σ := rfl
theorem zo_x_firstAtWork_2 : ∀ n : Nat, zz_okb zM_x_firstAtWork 2 [(0, 5, true), (1, 9, false), (2, 0, false)] (zz_f2 (x_firstAtWork_2 n))
  | 0 => fun vs σ r τ h => by
    obtain ⟨v1, v2, rfl, h⟩ := zz_f2_ok h
    exact nomatch (show (none : zz_R) = some (r, τ) from h)
  | n + 1 => by
    have ih := zo_x_firstAtWork_2 n
    exact fun vs σ r τ h => by
        obtain ⟨v1, v2, rfl, h⟩ := zz_f2_ok h
        exact zz_from zc_x_firstAtWork zz_oc0 (zz_olc ih zz_ol0) ((ze_x_firstAtWork_2 n v1 v2 σ).symm.trans h)
noncomputable def x_firstAtWork (v1 : Int) (σ : zz_S) : zz_R := (x_firstAtWork_2 zz_fu v1 0 σ)
set_option maxRecDepth 100000 in
set_option maxHeartbeats 4000000 in
theorem ze_x_firstAtWork (v1 : Int) (σ : zz_S) : x_firstAtWork v1 σ = zz_ev (zz_CE []) (zz_KE [(2, [(0, 5, true), (1, 9, false), (2, 0, false)], zz_f2 (x_firstAtWork_2 zz_fu))]) zk_x_firstAtWork 12 false 0 0 400 true (zz_sk zk_x_firstAtWork 0) [(0, 5, 1), (1, 9, v1)] [] σ := rfl
theorem zo_x_firstAtWork : zz_okb zM_x_firstAtWork 0 [(0, 5, true), (1, 9, false)] (zz_f1 x_firstAtWork) :=
  fun vs σ r τ h => by
    obtain ⟨v1, rfl, h⟩ := zz_f1_ok h
    exact zz_from zc_x_firstAtWork zz_oc0 (zz_olc (zo_x_firstAtWork_2 zz_fu) zz_ol0) ((ze_x_firstAtWork v1 σ).symm.trans h)
noncomputable def zw_x_firstAtWork : List Int → zz_S → zz_R := zz_f2 fun a0 a1 σ => if a0 = 1 then x_firstAtWork a1 σ else none
theorem zo_m_x_firstAtWork : zz_okm zz_inf 54 zw_x_firstAtWork := fun vs σ r τ h => by
  obtain ⟨a0, a1, rfl, h⟩ := zz_f2_ok h
  obtain ⟨e, h⟩ := zz_it h
  subst e
  exact zz_meth zi_x_firstAtWork zy_x_firstAtWork (zo_x_firstAtWork [a1] σ r τ h)
def zk_x_interruptRuns : List zz_E := [(0, false, .iconst 0, 1, 0, (0, 0, 0, 0), 0, []),
  (1, false, .istore_n 2, 1, 0, (0, 0, 0, 0), 0, []),
  (2, true, .iload_n 2, 1, 0, (0, 0, 0, 0), 0, []),
  (3, false, .bipush 8, 2, 0, (0, 0, 0, 0), 0, []),
  (5, false, .if_icmp .ge 47, 3, 0, (52, 0, 0, 0), 0, []),
  (8, false, .aload_n 0, 1, 0, (0, 0, 0, 0), 0, []),
  (9, false, .aload_n 1, 1, 0, (0, 0, 0, 0), 0, []),
  (10, false, .invokevirtual 386, 3, 704, (54, 2, 12, 0), 0, [9, 5]),
  (13, false, .astore_n 3, 1, 0, (0, 0, 0, 0), 0, []),
  (14, false, .aload_n 3, 1, 0, (0, 0, 0, 0), 0, []),
  (15, false, .ifnonnull 4, 3, 0, (19, 0, 0, 0), 0, []),
  (18, false, .return_, 1, 0, (0, 0, 0, 0), 0, []),
  (19, false, .aload_n 0, 1, 0, (0, 0, 0, 0), 0, []),
  (20, false, .aload_n 3, 1, 0, (0, 0, 0, 0), 0, []),
  (21, false, .iconst 3, 1, 0, (0, 0, 0, 0), 0, []),
  (22, false, .invokevirtual 216, 3, 499, (32, 3, 999, 0), 0, [0, 12, 5]),
  (25, false, .aload_n 1, 1, 0, (0, 0, 0, 0), 0, []),
  (26, false, .ifnonnull 11, 3, 0, (37, 0, 0, 0), 0, []),
  (29, false, .aload_n 0, 1, 0, (0, 0, 0, 0), 0, []),
  (30, false, .aload_n 3, 1, 0, (0, 0, 0, 0), 0, []),
  (31, false, .getfield 203, 3, 636, (10, 1, 9, 0), 0, []),
  (34, false, .invokevirtual 315, 3, 538, (38, 2, 999, 0), 0, [9, 5]),
  (37, false, .aload_n 0, 1, 0, (0, 0, 0, 0), 0, []),
  (38, false, .aload_n 3, 1, 0, (0, 0, 0, 0), 0, []),
  (39, false, .getfield 203, 3, 636, (10, 1, 9, 0), 0, []),
  (42, false, .iconst 0, 1, 0, (0, 0, 0, 0), 0, []),
  (43, false, .invokevirtual 234, 3, 511, (33, 3, 999, 0), 0, [0, 9, 5]),
  (46, false, .iinc 2 1, 3, 0, (0, 0, 0, 0), 0, []),
  (49, false, .goto (-47), 3, 0, (2, 0, 0, 0), 0, []),
  (52, false, .return_, 1, 0, (0, 0, 0, 0), 0, [])]
theorem zc_x_interruptRuns : zk_x_interruptRuns.all (zz_ck zz_inf zM_x_interruptRuns) = true ∧ zz_ch zk_x_interruptRuns = true := ⟨by decide +kernel, by decide +kernel⟩
noncomputable def x_interruptRuns_2 : Nat → Int → Int → zz_S → zz_R
  | 0, _, _, _ => none
  | n + 1, v1, v2, σ => (if v2 < 8 then ((x_firstAtWork v1 σ).bind fun q1 => (if q1.1 = 0 then (some (0, q1.2)) else ((x_layDown q1.1 3 q1.2).bind fun q2 => (if v1 = 0 then (if q1.1 = 0 then none else ((x_pauseAgain (zz_h q2.2 10 q1.1 1) q2.2).bind fun q3 => (if q1.1 = 0 then none else ((x_tellAfters (zz_h q3.2 10 q1.1 1) 0 q3.2).bind fun q4 => (x_interruptRuns_2 n v1 (zz_r (v2 + 1)) q4.2))))) else (if q1.1 = 0 then none else ((x_tellAfters (zz_h q2.2 10 q1.1 1) 0 q2.2).bind fun q5 => (x_interruptRuns_2 n v1 (zz_r (v2 + 1)) q5.2))))))) else (some (0, σ)))
set_option maxRecDepth 100000 in
set_option maxHeartbeats 4000000 in
theorem ze_x_interruptRuns_2 (n : Nat) (v1 v2 : Int) (σ : zz_S) : x_interruptRuns_2 (n + 1) v1 v2 σ = zz_ev (zz_CE [(32, zw_x_layDown), (33, zw_x_tellAfters), (38, zw_x_pauseAgain), (54, zw_x_firstAtWork)]) (zz_KE [(2, [(0, 5, true), (1, 9, false), (2, 0, false)], zz_f2 (x_interruptRuns_2 n))]) zk_x_interruptRuns 999 false 0 0 400 true (zz_sk zk_x_interruptRuns 2) [(0, 5, 1), (1, 9, v1), (2, 0, v2)] [] σ := rfl
theorem zo_x_interruptRuns_2 : ∀ n : Nat, zz_okb zM_x_interruptRuns 2 [(0, 5, true), (1, 9, false), (2, 0, false)] (zz_f2 (x_interruptRuns_2 n))
  | 0 => fun vs σ r τ h => by
    obtain ⟨v1, v2, rfl, h⟩ := zz_f2_ok h
    exact nomatch (show (none : zz_R) = some (r, τ) from h)
  | n + 1 => by
    have ih := zo_x_interruptRuns_2 n
    exact fun vs σ r τ h => by
        obtain ⟨v1, v2, rfl, h⟩ := zz_f2_ok h
        exact zz_from zc_x_interruptRuns (zz_occ zo_m_x_layDown (zz_occ zo_m_x_tellAfters (zz_occ zo_m_x_pauseAgain (zz_occ zo_m_x_firstAtWork zz_oc0)))) (zz_olc ih zz_ol0) ((ze_x_interruptRuns_2 n v1 v2 σ).symm.trans h)
noncomputable def x_interruptRuns (v1 : Int) (σ : zz_S) : zz_R := (x_interruptRuns_2 zz_fu v1 0 σ)
set_option maxRecDepth 100000 in
set_option maxHeartbeats 4000000 in
theorem ze_x_interruptRuns (v1 : Int) (σ : zz_S) : x_interruptRuns v1 σ = zz_ev (zz_CE []) (zz_KE [(2, [(0, 5, true), (1, 9, false), (2, 0, false)], zz_f2 (x_interruptRuns_2 zz_fu))]) zk_x_interruptRuns 999 false 0 0 400 true (zz_sk zk_x_interruptRuns 0) [(0, 5, 1), (1, 9, v1)] [] σ := rfl
theorem zo_x_interruptRuns : zz_okb zM_x_interruptRuns 0 [(0, 5, true), (1, 9, false)] (zz_f1 x_interruptRuns) :=
  fun vs σ r τ h => by
    obtain ⟨v1, rfl, h⟩ := zz_f1_ok h
    exact zz_from zc_x_interruptRuns zz_oc0 (zz_olc (zo_x_interruptRuns_2 zz_fu) zz_ol0) ((ze_x_interruptRuns v1 σ).symm.trans h)
noncomputable def zw_x_interruptRuns : List Int → zz_S → zz_R := zz_f2 fun a0 a1 σ => if a0 = 1 then x_interruptRuns a1 σ else none
theorem zo_m_x_interruptRuns : zz_okm zz_inf 53 zw_x_interruptRuns := fun vs σ r τ h => by
  obtain ⟨a0, a1, rfl, h⟩ := zz_f2_ok h
  obtain ⟨e, h⟩ := zz_it h
  subst e
  exact zz_meth zi_x_interruptRuns zy_x_interruptRuns (zo_x_interruptRuns [a1] σ r τ h)
def zk_x_cancel : List zz_E := [(0, false, .aload_n 0, 1, 0, (0, 0, 0, 0), 0, []),
  (1, false, .iload_n 1, 1, 0, (0, 0, 0, 0), 0, []),
  (2, false, .invokevirtual 100, 3, 385, (73, 2, 9, 0), 0, [0, 5]),
  (5, false, .astore_n 3, 1, 0, (0, 0, 0, 0), 0, []),
  (6, false, .aload_n 3, 1, 0, (0, 0, 0, 0), 0, []),
  (7, false, .ifnull 12, 3, 0, (19, 0, 0, 0), 0, []),
  (10, false, .iload_n 2, 1, 0, (0, 0, 0, 0), 0, []),
  (11, false, .iconst 0, 1, 0, (0, 0, 0, 0), 0, []),
  (12, false, .iconst 1, 1, 0, (0, 0, 0, 0), 0, []),
  (13, false, .invokestatic 91, 3, 228, (72, 3, 0, 0), 0, [0, 0, 0]),
  (16, false, .ifCond .ne 6, 3, 0, (22, 0, 0, 0), 0, []),
  (19, false, .bipush (-2), 2, 0, (0, 0, 0, 0), 0, []),
  (21, false, .ireturn, 1, 0, (0, 0, 0, 0), 0, []),
  (22, false, .aload_n 3, 1, 0, (0, 0, 0, 0), 0, []),
  (23, false, .invokevirtual 226, 3, 483, (88, 1, 0, 0), 0, [9]),
  (26, false, .ifCond .ne 6, 3, 0, (32, 0, 0, 0), 0, []),
  (29, false, .bipush (-3), 2, 0, (0, 0, 0, 0), 0, []),
  (31, false, .ireturn, 1, 0, (0, 0, 0, 0), 0, []),
  (32, false, .aload_n 0, 1, 0, (0, 0, 0, 0), 0, []),
  (33, false, .aload_n 3, 1, 0, (0, 0, 0, 0), 0, []),
  (34, false, .iconst 3, 1, 0, (0, 0, 0, 0), 0, []),
  (35, false, .invokevirtual 238, 3, 487, (52, 3, 999, 0), 0, [0, 9, 5]),
  (38, false, .iload_n 2, 1, 0, (0, 0, 0, 0), 0, []),
  (39, false, .iconst 1, 1, 0, (0, 0, 0, 0), 0, []),
  (40, false, .if_icmp .ne 8, 3, 0, (48, 0, 0, 0), 0, []),
  (43, false, .aload_n 0, 1, 0, (0, 0, 0, 0), 0, []),
  (44, false, .aload_n 3, 1, 0, (0, 0, 0, 0), 0, []),
  (45, false, .invokevirtual 380, 3, 700, (53, 2, 999, 0), 0, [9, 5]),
  (48, false, .iconst 1, 1, 0, (0, 0, 0, 0), 0, []),
  (49, false, .ireturn, 1, 0, (0, 0, 0, 0), 0, [])]
theorem zc_x_cancel : zk_x_cancel.all (zz_ck zz_inf zM_x_cancel) = true ∧ zz_ch zk_x_cancel = true := ⟨by decide +kernel, by decide +kernel⟩
noncomputable def x_cancel (v1 v2 : Int) (σ : zz_S) : zz_R := ((x_taskAt v1 σ).bind fun q1 => (if q1.1 = 0 then (some ((-2), q1.2)) else ((x_isWithin v2 0 1 q1.2).bind fun q2 => (if q2.1 = 0 then (some ((-2), q2.2)) else (if q1.1 = 0 then none else ((xT_isActive q1.1 q2.2).bind fun q3 => (if q3.1 = 0 then (some ((-3), q3.2)) else ((x_leave q1.1 3 q3.2).bind fun q4 => (if v2 = 1 then ((x_interruptRuns q1.1 q4.2).bind fun q5 => (some (1, q5.2))) else (some (1, q4.2)))))))))))
set_option maxRecDepth 100000 in
set_option maxHeartbeats 4000000 in
theorem ze_x_cancel (v1 v2 : Int) (σ : zz_S) : x_cancel v1 v2 σ = zz_ev (zz_CE [(52, zw_x_leave), (53, zw_x_interruptRuns), (72, zw_x_isWithin), (73, zw_x_taskAt), (88, zw_xT_isActive)]) (zz_KE []) zk_x_cancel 0 false 0 0 400 true (zz_sk zk_x_cancel 0) [(0, 5, 1), (1, 0, v1), (2, 0, v2)] [] σ := rfl
theorem zo_x_cancel : zz_okb zM_x_cancel 0 [(0, 5, true), (1, 0, false), (2, 0, false)] (zz_f2 x_cancel) :=
  fun vs σ r τ h => by
    obtain ⟨v1, v2, rfl, h⟩ := zz_f2_ok h
    exact zz_from zc_x_cancel (zz_occ zo_m_x_leave (zz_occ zo_m_x_interruptRuns (zz_occ zo_m_x_isWithin (zz_occ zo_m_x_taskAt (zz_occ zo_m_xT_isActive zz_oc0))))) zz_ol0 ((ze_x_cancel v1 v2 σ).symm.trans h)
noncomputable def zw_x_cancel : List Int → zz_S → zz_R := zz_f3 fun a0 a1 a2 σ => if a0 = 1 then x_cancel a1 a2 σ else none
theorem zo_m_x_cancel : zz_okm zz_inf 51 zw_x_cancel := fun vs σ r τ h => by
  obtain ⟨a0, a1, a2, rfl, h⟩ := zz_f3_ok h
  obtain ⟨e, h⟩ := zz_it h
  subst e
  exact zz_meth zi_x_cancel zy_x_cancel (zo_x_cancel [a1, a2] σ r τ h)
def zk_xD_clear : List zz_E := [(0, false, .iconst 0, 1, 0, (0, 0, 0, 0), 0, []),
  (1, false, .istore_n 1, 1, 0, (0, 0, 0, 0), 0, []),
  (2, true, .iload_n 1, 1, 0, (0, 0, 0, 0), 0, []),
  (3, false, .aload_n 0, 1, 0, (0, 0, 0, 0), 0, []),
  (4, false, .getfield 25, 3, 107, (4, 3, 0, 0), 0, []),
  (7, false, .if_icmp .ge 25, 3, 0, (32, 0, 0, 0), 0, []),
  (10, false, .aload_n 0, 1, 0, (0, 0, 0, 0), 0, []),
  (11, false, .getfield 11, 3, 101, (4, 0, 21, 1), 0, []),
  (14, false, .iload_n 1, 1, 0, (0, 0, 0, 0), 0, []),
  (15, false, .aaload, 1, 0, (19, 0, 9, 0), 0, []),
  (16, false, .astore_n 2, 1, 0, (0, 0, 0, 0), 0, []),
  (17, false, .aload_n 2, 1, 0, (0, 0, 0, 0), 0, []),
  (18, false, .ifnull 8, 3, 0, (26, 0, 0, 0), 0, []),
  (21, false, .aload_n 2, 1, 0, (0, 0, 0, 0), 0, []),
  (22, false, .iconst 0, 1, 0, (0, 0, 0, 0), 0, []),
  (23, false, .putfield 29, 3, 334, (7, 16, 0, 0), 0, []),
  (26, false, .iinc 1 1, 3, 0, (0, 0, 0, 0), 0, []),
  (29, false, .goto (-27), 3, 0, (2, 0, 0, 0), 0, []),
  (32, false, .aload_n 0, 1, 0, (0, 0, 0, 0), 0, []),
  (33, false, .iconst 0, 1, 0, (0, 0, 0, 0), 0, []),
  (34, false, .putfield 25, 3, 107, (4, 3, 0, 0), 0, []),
  (37, false, .return_, 1, 0, (0, 0, 0, 0), 0, [])]
theorem zc_xD_clear : zk_xD_clear.all (zz_ck zz_inf zM_xD_clear) = true ∧ zz_ch zk_xD_clear = true := ⟨by decide +kernel, by decide +kernel⟩
noncomputable def xD_clear_2 : Nat → Int → zz_S → zz_R
  | 0, _, _ => none
  | n + 1, v1, σ => (if v1 < (zz_h σ 4 1 3) then (if zz_b σ 19 1 v1 then (if (zz_h σ 19 1 v1) = 0 then (xD_clear_2 n (zz_r (v1 + 1)) σ) else (if (zz_h σ 19 1 v1) = 0 then none else (let s1 := zz_w σ 7 (zz_h σ 19 1 v1) 16 0; (xD_clear_2 n (zz_r (v1 + 1)) s1)))) else none) else (let s2 := zz_w σ 4 1 3 0; (some (0, s2))))
set_option maxRecDepth 100000 in
set_option maxHeartbeats 4000000 in
theorem ze_xD_clear_2 (n : Nat) (v1 : Int) (σ : zz_S) : xD_clear_2 (n + 1) v1 σ = zz_ev (zz_CE []) (zz_KE [(2, [(0, 6, true), (1, 0, false)], zz_f1 (xD_clear_2 n))]) zk_xD_clear 999 false 0 0 400 true (zz_sk zk_xD_clear 2) [(0, 6, 1), (1, 0, v1)] [] σ := rfl
theorem zo_xD_clear_2 : ∀ n : Nat, zz_okb zM_xD_clear 2 [(0, 6, true), (1, 0, false)] (zz_f1 (xD_clear_2 n))
  | 0 => fun vs σ r τ h => by
    obtain ⟨v1, rfl, h⟩ := zz_f1_ok h
    exact nomatch (show (none : zz_R) = some (r, τ) from h)
  | n + 1 => by
    have ih := zo_xD_clear_2 n
    exact fun vs σ r τ h => by
        obtain ⟨v1, rfl, h⟩ := zz_f1_ok h
        exact zz_from zc_xD_clear zz_oc0 (zz_olc ih zz_ol0) ((ze_xD_clear_2 n v1 σ).symm.trans h)
noncomputable def xD_clear (σ : zz_S) : zz_R := (xD_clear_2 zz_fu 0 σ)
set_option maxRecDepth 100000 in
set_option maxHeartbeats 4000000 in
theorem ze_xD_clear (σ : zz_S) : xD_clear σ = zz_ev (zz_CE []) (zz_KE [(2, [(0, 6, true), (1, 0, false)], zz_f1 (xD_clear_2 zz_fu))]) zk_xD_clear 999 false 0 0 400 true (zz_sk zk_xD_clear 0) [(0, 6, 1)] [] σ := rfl
theorem zo_xD_clear : zz_okb zM_xD_clear 0 [(0, 6, true)] (zz_f0 xD_clear) :=
  fun vs σ r τ h => by
    obtain ⟨rfl, h⟩ := zz_f0_ok h
    exact zz_from zc_xD_clear zz_oc0 (zz_olc (zo_xD_clear_2 zz_fu) zz_ol0) ((ze_xD_clear σ).symm.trans h)
noncomputable def zw_xD_clear : List Int → zz_S → zz_R := zz_f1 fun a0 σ => if a0 = 1 then xD_clear σ else none
theorem zo_m_xD_clear : zz_okm zz_inf 79 zw_xD_clear := fun vs σ r τ h => by
  obtain ⟨a0, rfl, h⟩ := zz_f1_ok h
  obtain ⟨e, h⟩ := zz_it h
  subst e
  exact zz_meth zi_xD_clear zy_xD_clear (zo_xD_clear [] σ r τ h)
def zk_x_dropDues : List zz_E := [(0, false, .iconst 0, 1, 0, (0, 0, 0, 0), 0, []),
  (1, false, .istore_n 1, 1, 0, (0, 0, 0, 0), 0, []),
  (2, true, .iload_n 1, 1, 0, (0, 0, 0, 0), 0, []),
  (3, false, .aload_n 0, 1, 0, (0, 0, 0, 0), 0, []),
  (4, false, .getfield 27, 3, 166, (3, 3, 6, 1), 0, []),
  (7, false, .getfield 318, 3, 108, (4, 3, 0, 0), 0, []),
  (10, false, .if_icmp .ge 52, 3, 0, (62, 0, 0, 0), 0, []),
  (13, false, .aload_n 0, 1, 0, (0, 0, 0, 0), 0, []),
  (14, false, .getfield 27, 3, 166, (3, 3, 6, 1), 0, []),
  (17, false, .getfield 322, 3, 102, (4, 0, 21, 1), 0, []),
  (20, false, .iload_n 1, 1, 0, (0, 0, 0, 0), 0, []),
  (21, false, .aaload, 1, 0, (19, 0, 9, 0), 0, []),
  (22, false, .astore_n 2, 1, 0, (0, 0, 0, 0), 0, []),
  (23, false, .aload_n 2, 1, 0, (0, 0, 0, 0), 0, []),
  (24, false, .ifnonnull 6, 3, 0, (30, 0, 0, 0), 0, []),
  (27, false, .goto 29, 3, 0, (56, 0, 0, 0), 0, []),
  (30, false, .aload_n 0, 1, 0, (0, 0, 0, 0), 0, []),
  (31, false, .getfield 34, 3, 167, (3, 4, 7, 1), 0, []),
  (34, false, .aload_n 2, 1, 0, (0, 0, 0, 0), 0, []),
  (35, false, .getfield 162, 3, 299, (7, 0, 0, 0), 0, []),
  (38, false, .aload_n 0, 1, 0, (0, 0, 0, 0), 0, []),
  (39, false, .getfield 27, 3, 166, (3, 3, 6, 1), 0, []),
  (42, false, .getfield 334, 3, 104, (4, 1, 22, 1), 0, []),
  (45, false, .iload_n 1, 1, 0, (0, 0, 0, 0), 0, []),
  (46, false, .iaload, 1, 0, (20, 0, 0, 0), 0, []),
  (47, false, .iconst 4, 1, 0, (0, 0, 0, 0), 0, []),
  (48, false, .invokevirtual 314, 3, 534, (82, 4, 999, 0), 0, [0, 0, 0, 7]),
  (51, false, .aload_n 0, 1, 0, (0, 0, 0, 0), 0, []),
  (52, false, .aload_n 2, 1, 0, (0, 0, 0, 0), 0, []),
  (53, false, .invokevirtual 315, 3, 538, (38, 2, 999, 0), 0, [9, 5]),
  (56, false, .iinc 1 1, 3, 0, (0, 0, 0, 0), 0, []),
  (59, false, .goto (-57), 3, 0, (2, 0, 0, 0), 0, []),
  (62, false, .aload_n 0, 1, 0, (0, 0, 0, 0), 0, []),
  (63, false, .getfield 27, 3, 166, (3, 3, 6, 1), 0, []),
  (66, false, .invokevirtual 393, 3, 716, (79, 1, 999, 0), 0, [6]),
  (69, false, .return_, 1, 0, (0, 0, 0, 0), 0, [])]
theorem zc_x_dropDues : zk_x_dropDues.all (zz_ck zz_inf zM_x_dropDues) = true ∧ zz_ch zk_x_dropDues = true := ⟨by decide +kernel, by decide +kernel⟩
noncomputable def x_dropDues_2 : Nat → Int → zz_S → zz_R
  | 0, _, _ => none
  | n + 1, v1, σ => (if v1 < (zz_h σ 4 1 3) then (if zz_b σ 19 1 v1 then (if (zz_h σ 19 1 v1) = 0 then (x_dropDues_2 n (zz_r (v1 + 1)) σ) else (if (zz_h σ 19 1 v1) = 0 then none else (if zz_b σ 20 1 v1 then ((xB_add (zz_h σ 7 (zz_h σ 19 1 v1) 0) (zz_h σ 20 1 v1) 4 σ).bind fun q1 => ((x_pauseAgain (zz_h σ 19 1 v1) q1.2).bind fun q2 => (x_dropDues_2 n (zz_r (v1 + 1)) q2.2))) else none))) else none) else ((xD_clear σ).bind fun q3 => (some (0, q3.2))))
set_option maxRecDepth 100000 in
set_option maxHeartbeats 4000000 in
theorem ze_x_dropDues_2 (n : Nat) (v1 : Int) (σ : zz_S) : x_dropDues_2 (n + 1) v1 σ = zz_ev (zz_CE [(38, zw_x_pauseAgain), (79, zw_xD_clear), (82, zw_xB_add)]) (zz_KE [(2, [(0, 5, true), (1, 0, false)], zz_f1 (x_dropDues_2 n))]) zk_x_dropDues 999 false 0 0 400 true (zz_sk zk_x_dropDues 2) [(0, 5, 1), (1, 0, v1)] [] σ := rfl
theorem zo_x_dropDues_2 : ∀ n : Nat, zz_okb zM_x_dropDues 2 [(0, 5, true), (1, 0, false)] (zz_f1 (x_dropDues_2 n))
  | 0 => fun vs σ r τ h => by
    obtain ⟨v1, rfl, h⟩ := zz_f1_ok h
    exact nomatch (show (none : zz_R) = some (r, τ) from h)
  | n + 1 => by
    have ih := zo_x_dropDues_2 n
    exact fun vs σ r τ h => by
        obtain ⟨v1, rfl, h⟩ := zz_f1_ok h
        exact zz_from zc_x_dropDues (zz_occ zo_m_x_pauseAgain (zz_occ zo_m_xD_clear (zz_occ zo_m_xB_add zz_oc0))) (zz_olc ih zz_ol0) ((ze_x_dropDues_2 n v1 σ).symm.trans h)
noncomputable def x_dropDues (σ : zz_S) : zz_R := (x_dropDues_2 zz_fu 0 σ)
set_option maxRecDepth 100000 in
set_option maxHeartbeats 4000000 in
theorem ze_x_dropDues (σ : zz_S) : x_dropDues σ = zz_ev (zz_CE []) (zz_KE [(2, [(0, 5, true), (1, 0, false)], zz_f1 (x_dropDues_2 zz_fu))]) zk_x_dropDues 999 false 0 0 400 true (zz_sk zk_x_dropDues 0) [(0, 5, 1)] [] σ := rfl
theorem zo_x_dropDues : zz_okb zM_x_dropDues 0 [(0, 5, true)] (zz_f0 x_dropDues) :=
  fun vs σ r τ h => by
    obtain ⟨rfl, h⟩ := zz_f0_ok h
    exact zz_from zc_x_dropDues zz_oc0 (zz_olc (zo_x_dropDues_2 zz_fu) zz_ol0) ((ze_x_dropDues σ).symm.trans h)
noncomputable def zw_x_dropDues : List Int → zz_S → zz_R := zz_f1 fun a0 σ => if a0 = 1 then x_dropDues σ else none
theorem zo_m_x_dropDues : zz_okm zz_inf 56 zw_x_dropDues := fun vs σ r τ h => by
  obtain ⟨a0, rfl, h⟩ := zz_f1_ok h
  obtain ⟨e, h⟩ := zz_it h
  subst e
  exact zz_meth zi_x_dropDues zy_x_dropDues (zo_x_dropDues [] σ r τ h)
def zk_x_stop : List zz_E := [(0, false, .iload_n 1, 1, 0, (0, 0, 0, 0), 0, []),
  (1, false, .iconst 0, 1, 0, (0, 0, 0, 0), 0, []),
  (2, false, .iconst 1, 1, 0, (0, 0, 0, 0), 0, []),
  (3, false, .invokestatic 91, 3, 228, (72, 3, 0, 0), 0, [0, 0, 0]),
  (6, false, .ifCond .ne 6, 3, 0, (12, 0, 0, 0), 0, []),
  (9, false, .bipush (-2), 2, 0, (0, 0, 0, 0), 0, []),
  (11, false, .ireturn, 1, 0, (0, 0, 0, 0), 0, []),
  (12, false, .aload_n 0, 1, 0, (0, 0, 0, 0), 0, []),
  (13, false, .getfield 87, 3, 182, (3, 19, 0, 0), 1, []),
  (16, false, .ifCond .eq 6, 3, 0, (22, 0, 0, 0), 0, []),
  (19, false, .bipush (-3), 2, 0, (0, 0, 0, 0), 0, []),
  (21, false, .ireturn, 1, 0, (0, 0, 0, 0), 0, []),
  (22, false, .aload_n 0, 1, 0, (0, 0, 0, 0), 0, []),
  (23, false, .iconst 1, 1, 0, (0, 0, 0, 0), 0, []),
  (24, false, .putfield 87, 3, 182, (3, 19, 0, 0), 1, []),
  (27, false, .iload_n 1, 1, 0, (0, 0, 0, 0), 0, []),
  (28, false, .iconst 1, 1, 0, (0, 0, 0, 0), 0, []),
  (29, false, .if_icmp .ne 12, 3, 0, (41, 0, 0, 0), 0, []),
  (32, false, .aload_n 0, 1, 0, (0, 0, 0, 0), 0, []),
  (33, false, .invokevirtual 390, 3, 712, (56, 1, 999, 0), 0, [5]),
  (36, false, .aload_n 0, 1, 0, (0, 0, 0, 0), 0, []),
  (37, false, .aconst_null, 1, 0, (0, 0, 0, 0), 0, []),
  (38, false, .invokevirtual 380, 3, 700, (53, 2, 999, 0), 0, [9, 5]),
  (41, false, .iconst 1, 1, 0, (0, 0, 0, 0), 0, []),
  (42, false, .ireturn, 1, 0, (0, 0, 0, 0), 0, [])]
theorem zc_x_stop : zk_x_stop.all (zz_ck zz_inf zM_x_stop) = true ∧ zz_ch zk_x_stop = true := ⟨by decide +kernel, by decide +kernel⟩
noncomputable def x_stop (v1 : Int) (σ : zz_S) : zz_R := ((x_isWithin v1 0 1 σ).bind fun q1 => (if q1.1 = 0 then (some ((-2), q1.2)) else (if (zz_h q1.2 3 1 19) = 0 then (let s2 := zz_w q1.2 3 1 19 1; (if v1 = 1 then ((x_dropDues s2).bind fun q3 => ((x_interruptRuns 0 q3.2).bind fun q4 => (some (1, q4.2)))) else (some (1, s2)))) else (some ((-3), q1.2)))))
set_option maxRecDepth 100000 in
set_option maxHeartbeats 4000000 in
theorem ze_x_stop (v1 : Int) (σ : zz_S) : x_stop v1 σ = zz_ev (zz_CE [(53, zw_x_interruptRuns), (56, zw_x_dropDues), (72, zw_x_isWithin)]) (zz_KE []) zk_x_stop 0 false 0 0 400 true (zz_sk zk_x_stop 0) [(0, 5, 1), (1, 0, v1)] [] σ := rfl
theorem zo_x_stop : zz_okb zM_x_stop 0 [(0, 5, true), (1, 0, false)] (zz_f1 x_stop) :=
  fun vs σ r τ h => by
    obtain ⟨v1, rfl, h⟩ := zz_f1_ok h
    exact zz_from zc_x_stop (zz_occ zo_m_x_interruptRuns (zz_occ zo_m_x_dropDues (zz_occ zo_m_x_isWithin zz_oc0))) zz_ol0 ((ze_x_stop v1 σ).symm.trans h)
noncomputable def zw_x_stop : List Int → zz_S → zz_R := zz_f2 fun a0 a1 σ => if a0 = 1 then x_stop a1 σ else none
theorem zo_m_x_stop : zz_okm zz_inf 55 zw_x_stop := fun vs σ r τ h => by
  obtain ⟨a0, a1, rfl, h⟩ := zz_f2_ok h
  obtain ⟨e, h⟩ := zz_it h
  subst e
  exact zz_meth zi_x_stop zy_x_stop (zo_x_stop [a1] σ r τ h)
def zk_x_go : List zz_E := [(0, false, .aload_n 0, 1, 0, (0, 0, 0, 0), 0, []),
  (1, false, .getfield 87, 3, 182, (3, 19, 0, 0), 1, []),
  (4, false, .ifCond .ne 6, 3, 0, (10, 0, 0, 0), 0, []),
  (7, false, .bipush (-3), 2, 0, (0, 0, 0, 0), 0, []),
  (9, false, .ireturn, 1, 0, (0, 0, 0, 0), 0, []),
  (10, false, .aload_n 0, 1, 0, (0, 0, 0, 0), 0, []),
  (11, false, .iconst 0, 1, 0, (0, 0, 0, 0), 0, []),
  (12, false, .putfield 87, 3, 182, (3, 19, 0, 0), 1, []),
  (15, false, .iconst 1, 1, 0, (0, 0, 0, 0), 0, []),
  (16, false, .ireturn, 1, 0, (0, 0, 0, 0), 0, [])]
theorem zc_x_go : zk_x_go.all (zz_ck zz_inf zM_x_go) = true ∧ zz_ch zk_x_go = true := ⟨by decide +kernel, by decide +kernel⟩
noncomputable def x_go (σ : zz_S) : zz_R := (if (zz_h σ 3 1 19) = 0 then (some ((-3), σ)) else (let s1 := zz_w σ 3 1 19 0; (some (1, s1))))
set_option maxRecDepth 100000 in
set_option maxHeartbeats 4000000 in
theorem ze_x_go (σ : zz_S) : x_go σ = zz_ev (zz_CE []) (zz_KE []) zk_x_go 0 false 0 0 400 true (zz_sk zk_x_go 0) [(0, 5, 1)] [] σ := rfl
theorem zo_x_go : zz_okb zM_x_go 0 [(0, 5, true)] (zz_f0 x_go) :=
  fun vs σ r τ h => by
    obtain ⟨rfl, h⟩ := zz_f0_ok h
    exact zz_from zc_x_go zz_oc0 zz_ol0 ((ze_x_go σ).symm.trans h)
noncomputable def zw_x_go : List Int → zz_S → zz_R := zz_f1 fun a0 σ => if a0 = 1 then x_go σ else none
theorem zo_m_x_go : zz_okm zz_inf 57 zw_x_go := fun vs σ r τ h => by
  obtain ⟨a0, rfl, h⟩ := zz_f1_ok h
  obtain ⟨e, h⟩ := zz_it h
  subst e
  exact zz_meth zi_x_go zy_x_go (zo_x_go [] σ r τ h)
def zk_x_run : List zz_E := [(0, false, .iload_n 1, 1, 0, (0, 0, 0, 0), 0, []),
  (1, false, .iconst 0, 1, 0, (0, 0, 0, 0), 0, []),
  (2, false, .aload_n 0, 1, 0, (0, 0, 0, 0), 0, []),
  (3, false, .getfield 66, 3, 175, (3, 12, 0, 0), 0, []),
  (6, false, .iconst 1, 1, 0, (0, 0, 0, 0), 0, []),
  (7, false, .isub, 1, 0, (0, 0, 0, 0), 0, []),
  (8, false, .invokestatic 91, 3, 228, (72, 3, 0, 0), 0, [0, 0, 0]),
  (11, false, .ifCond .eq 12, 3, 0, (23, 0, 0, 0), 0, []),
  (14, false, .aload_n 0, 1, 0, (0, 0, 0, 0), 0, []),
  (15, false, .getfield 17, 3, 164, (3, 1, 14, 1), 0, []),
  (18, false, .iload_n 1, 1, 0, (0, 0, 0, 0), 0, []),
  (19, false, .aaload, 1, 0, (12, 0, 12, 0), 0, []),
  (20, false, .goto 4, 3, 0, (24, 0, 0, 0), 0, []),
  (23, false, .aconst_null, 1, 0, (0, 0, 0, 0), 0, []),
  (24, false, .astore_n 3, 1, 0, (0, 0, 0, 0), 0, []),
  (25, false, .aload_n 3, 1, 0, (0, 0, 0, 0), 0, []),
  (26, false, .ifnonnull 6, 3, 0, (32, 0, 0, 0), 0, []),
  (29, false, .bipush (-2), 2, 0, (0, 0, 0, 0), 0, []),
  (31, false, .ireturn, 1, 0, (0, 0, 0, 0), 0, []),
  (32, false, .iload_n 2, 1, 0, (0, 0, 0, 0), 0, []),
  (33, false, .tableswitch 90 0 7 #[47, 55, 60, 65, 70, 75, 80, 85], 47, 0, (123, 0, 0, 0), 0, [80, 88, 93, 98, 103, 108, 113, 118]),
  (80, false, .aload_n 3, 1, 0, (0, 0, 0, 0), 0, []),
  (81, false, .getfield 203, 3, 636, (10, 1, 9, 0), 0, []),
  (84, false, .getfield 162, 3, 299, (7, 0, 0, 0), 0, []),
  (87, false, .ireturn, 1, 0, (0, 0, 0, 0), 0, []),
  (88, false, .aload_n 3, 1, 0, (0, 0, 0, 0), 0, []),
  (89, false, .getfield 396, 3, 640, (10, 3, 0, 0), 0, []),
  (92, false, .ireturn, 1, 0, (0, 0, 0, 0), 0, []),
  (93, false, .aload_n 3, 1, 0, (0, 0, 0, 0), 0, []),
  (94, false, .getfield 399, 3, 642, (10, 4, 0, 0), 0, []),
  (97, false, .ireturn, 1, 0, (0, 0, 0, 0), 0, []),
  (98, false, .aload_n 3, 1, 0, (0, 0, 0, 0), 0, []),
  (99, false, .getfield 267, 3, 650, (10, 8, 0, 0), 0, []),
  (102, false, .ireturn, 1, 0, (0, 0, 0, 0), 0, []),
  (103, false, .aload_n 3, 1, 0, (0, 0, 0, 0), 0, []),
  (104, false, .getfield 270, 3, 652, (10, 9, 0, 0), 0, []),
  (107, false, .ireturn, 1, 0, (0, 0, 0, 0), 0, []),
  (108, false, .aload_n 3, 1, 0, (0, 0, 0, 0), 0, []),
  (109, false, .getfield 220, 3, 654, (10, 10, 0, 0), 0, []),
  (112, false, .ireturn, 1, 0, (0, 0, 0, 0), 0, []),
  (113, false, .aload_n 3, 1, 0, (0, 0, 0, 0), 0, []),
  (114, false, .getfield 261, 3, 646, (10, 6, 0, 0), 0, []),
  (117, false, .ireturn, 1, 0, (0, 0, 0, 0), 0, []),
  (118, false, .aload_n 3, 1, 0, (0, 0, 0, 0), 0, []),
  (119, false, .getfield 361, 3, 648, (10, 7, 0, 0), 0, []),
  (122, false, .ireturn, 1, 0, (0, 0, 0, 0), 0, []),
  (123, false, .bipush (-2), 2, 0, (0, 0, 0, 0), 0, []),
  (125, false, .ireturn, 1, 0, (0, 0, 0, 0), 0, [])]
theorem zc_x_run : zk_x_run.all (zz_ck zz_inf zM_x_run) = true ∧ zz_ch zk_x_run = true := ⟨by decide +kernel, by decide +kernel⟩
noncomputable def x_run (v1 v2 : Int) (σ : zz_S) : zz_R := ((x_isWithin v1 0 (zz_r ((zz_h σ 3 1 12) - 1)) σ).bind fun q1 => (if q1.1 = 0 then (some ((-2), q1.2)) else (if zz_b q1.2 12 1 v1 then (if (zz_h q1.2 12 1 v1) = 0 then (some ((-2), q1.2)) else (if v2 = 0 then (if (zz_h q1.2 12 1 v1) = 0 then none else (if (zz_h q1.2 10 (zz_h q1.2 12 1 v1) 1) = 0 then none else (some ((zz_h q1.2 7 (zz_h q1.2 10 (zz_h q1.2 12 1 v1) 1) 0), q1.2)))) else (if v2 = 1 then (if (zz_h q1.2 12 1 v1) = 0 then none else (some ((zz_h q1.2 10 (zz_h q1.2 12 1 v1) 3), q1.2))) else (if v2 = 2 then (if (zz_h q1.2 12 1 v1) = 0 then none else (some ((zz_h q1.2 10 (zz_h q1.2 12 1 v1) 4), q1.2))) else (if v2 = 3 then (if (zz_h q1.2 12 1 v1) = 0 then none else (some ((zz_h q1.2 10 (zz_h q1.2 12 1 v1) 8), q1.2))) else (if v2 = 4 then (if (zz_h q1.2 12 1 v1) = 0 then none else (some ((zz_h q1.2 10 (zz_h q1.2 12 1 v1) 9), q1.2))) else (if v2 = 5 then (if (zz_h q1.2 12 1 v1) = 0 then none else (some ((zz_h q1.2 10 (zz_h q1.2 12 1 v1) 10), q1.2))) else (if v2 = 6 then (if (zz_h q1.2 12 1 v1) = 0 then none else (some ((zz_h q1.2 10 (zz_h q1.2 12 1 v1) 6), q1.2))) else (if v2 = 7 then (if (zz_h q1.2 12 1 v1) = 0 then none else (some ((zz_h q1.2 10 (zz_h q1.2 12 1 v1) 7), q1.2))) else (some ((-2), q1.2))))))))))) else none)))
set_option maxRecDepth 100000 in
set_option maxHeartbeats 4000000 in
theorem ze_x_run (v1 v2 : Int) (σ : zz_S) : x_run v1 v2 σ = zz_ev (zz_CE [(72, zw_x_isWithin)]) (zz_KE []) zk_x_run 0 false 0 0 400 true (zz_sk zk_x_run 0) [(0, 5, 1), (1, 0, v1), (2, 0, v2)] [] σ := rfl
theorem zo_x_run : zz_okb zM_x_run 0 [(0, 5, true), (1, 0, false), (2, 0, false)] (zz_f2 x_run) :=
  fun vs σ r τ h => by
    obtain ⟨v1, v2, rfl, h⟩ := zz_f2_ok h
    exact zz_from zc_x_run (zz_occ zo_m_x_isWithin zz_oc0) zz_ol0 ((ze_x_run v1 v2 σ).symm.trans h)
noncomputable def zw_x_run : List Int → zz_S → zz_R := zz_f3 fun a0 a1 a2 σ => if a0 = 1 then x_run a1 a2 σ else none
theorem zo_m_x_run : zz_okm zz_inf 58 zw_x_run := fun vs σ r τ h => by
  obtain ⟨a0, a1, a2, rfl, h⟩ := zz_f3_ok h
  obtain ⟨e, h⟩ := zz_it h
  subst e
  exact zz_meth zi_x_run zy_x_run (zo_x_run [a1, a2] σ r τ h)
def zk_x_stateOf : List zz_E := [(0, false, .aload_n 1, 1, 0, (0, 0, 0, 0), 0, []),
  (1, false, .invokevirtual 226, 3, 483, (88, 1, 0, 0), 0, [9]),
  (4, false, .ifCond .ne 8, 3, 0, (12, 0, 0, 0), 0, []),
  (7, false, .aload_n 1, 1, 0, (0, 0, 0, 0), 0, []),
  (8, false, .getfield 319, 3, 321, (7, 10, 0, 0), 0, []),
  (11, false, .ireturn, 1, 0, (0, 0, 0, 0), 0, []),
  (12, false, .aload_n 1, 1, 0, (0, 0, 0, 0), 0, []),
  (13, false, .getfield 264, 3, 332, (7, 15, 0, 0), 0, []),
  (16, false, .ifCond .le 5, 3, 0, (21, 0, 0, 0), 0, []),
  (19, false, .iconst 1, 1, 0, (0, 0, 0, 0), 0, []),
  (20, false, .ireturn, 1, 0, (0, 0, 0, 0), 0, []),
  (21, false, .aload_n 1, 1, 0, (0, 0, 0, 0), 0, []),
  (22, false, .getfield 114, 3, 301, (7, 1, 0, 0), 0, []),
  (25, false, .ifCond .ne 25, 3, 0, (50, 0, 0, 0), 0, []),
  (28, false, .aload_n 1, 1, 0, (0, 0, 0, 0), 0, []),
  (29, false, .getfield 292, 3, 303, (7, 2, 0, 0), 0, []),
  (32, false, .aload_n 0, 1, 0, (0, 0, 0, 0), 0, []),
  (33, false, .getfield 78, 3, 179, (3, 16, 0, 0), 0, []),
  (36, false, .if_icmp .ge 14, 3, 0, (50, 0, 0, 0), 0, []),
  (39, false, .aload_n 1, 1, 0, (0, 0, 0, 0), 0, []),
  (40, false, .getfield 337, 3, 335, (7, 16, 0, 0), 0, []),
  (43, false, .ifCond .ne 7, 3, 0, (50, 0, 0, 0), 0, []),
  (46, false, .iconst 1, 1, 0, (0, 0, 0, 0), 0, []),
  (47, false, .goto 4, 3, 0, (51, 0, 0, 0), 0, []),
  (50, true, .iconst 0, 1, 0, (0, 0, 0, 0), 0, []),
  (51, false, .istore_n 2, 1, 0, (0, 0, 0, 0), 0, []),
  (52, false, .iload_n 2, 1, 0, (0, 0, 0, 0), 0, []),
  (53, false, .ifCond .eq 7, 3, 0, (60, 0, 0, 0), 0, []),
  (56, false, .iconst 2, 1, 0, (0, 0, 0, 0), 0, []),
  (57, false, .goto 4, 3, 0, (61, 0, 0, 0), 0, []),
  (60, false, .iconst 0, 1, 0, (0, 0, 0, 0), 0, []),
  (61, false, .ireturn, 1, 0, (0, 0, 0, 0), 0, [])]
theorem zc_x_stateOf : zk_x_stateOf.all (zz_ck zz_inf zM_x_stateOf) = true ∧ zz_ch zk_x_stateOf = true := ⟨by decide +kernel, by decide +kernel⟩
noncomputable def x_stateOf_50 (σ : zz_S) : zz_R := (some (0, σ))
set_option maxRecDepth 100000 in
set_option maxHeartbeats 4000000 in
theorem ze_x_stateOf_50 (σ : zz_S) : x_stateOf_50 σ = zz_ev (zz_CE []) (zz_KE []) zk_x_stateOf 0 false 0 0 400 true (zz_sk zk_x_stateOf 50) [] [] σ := rfl
theorem zo_x_stateOf_50 : zz_okb zM_x_stateOf 50 [] (zz_f0 x_stateOf_50) :=
  fun vs σ r τ h => by
    obtain ⟨rfl, h⟩ := zz_f0_ok h
    exact zz_from zc_x_stateOf zz_oc0 zz_ol0 ((ze_x_stateOf_50 σ).symm.trans h)
noncomputable def x_stateOf (v1 : Int) (σ : zz_S) : zz_R := (if v1 = 0 then none else ((xT_isActive v1 σ).bind fun q1 => (if q1.1 = 0 then (if v1 = 0 then none else (some ((zz_h q1.2 7 v1 10), q1.2))) else (if v1 = 0 then none else (if (zz_h q1.2 7 v1 15) ≤ 0 then (if v1 = 0 then none else (if (zz_h q1.2 7 v1 1) = 0 then (if v1 = 0 then none else (if (zz_h q1.2 7 v1 2) < (zz_h q1.2 3 1 16) then (if v1 = 0 then none else (if (zz_h q1.2 7 v1 16) = 0 then (some (2, q1.2)) else (x_stateOf_50 q1.2))) else (x_stateOf_50 q1.2))) else (x_stateOf_50 q1.2))) else (some (1, q1.2)))))))
set_option maxRecDepth 100000 in
set_option maxHeartbeats 4000000 in
theorem ze_x_stateOf (v1 : Int) (σ : zz_S) : x_stateOf v1 σ = zz_ev (zz_CE [(88, zw_xT_isActive)]) (zz_KE [(50, [], zz_f0 (x_stateOf_50))]) zk_x_stateOf 0 false 0 0 400 true (zz_sk zk_x_stateOf 0) [(0, 5, 1), (1, 9, v1)] [] σ := rfl
theorem zo_x_stateOf : zz_okb zM_x_stateOf 0 [(0, 5, true), (1, 9, false)] (zz_f1 x_stateOf) :=
  fun vs σ r τ h => by
    obtain ⟨v1, rfl, h⟩ := zz_f1_ok h
    exact zz_from zc_x_stateOf (zz_occ zo_m_xT_isActive zz_oc0) (zz_olc (zo_x_stateOf_50) zz_ol0) ((ze_x_stateOf v1 σ).symm.trans h)
noncomputable def zw_x_stateOf : List Int → zz_S → zz_R := zz_f2 fun a0 a1 σ => if a0 = 1 then x_stateOf a1 σ else none
theorem zo_m_x_stateOf : zz_okm zz_inf 60 zw_x_stateOf := fun vs σ r τ h => by
  obtain ⟨a0, a1, rfl, h⟩ := zz_f2_ok h
  obtain ⟨e, h⟩ := zz_it h
  subst e
  exact zz_meth zi_x_stateOf zy_x_stateOf (zo_x_stateOf [a1] σ r τ h)
def zk_x_of : List zz_E := [(0, false, .aload_n 0, 1, 0, (0, 0, 0, 0), 0, []),
  (1, false, .iload_n 1, 1, 0, (0, 0, 0, 0), 0, []),
  (2, false, .invokevirtual 100, 3, 385, (73, 2, 9, 0), 0, [0, 5]),
  (5, false, .astore_n 3, 1, 0, (0, 0, 0, 0), 0, []),
  (6, false, .aload_n 3, 1, 0, (0, 0, 0, 0), 0, []),
  (7, false, .ifnonnull 6, 3, 0, (13, 0, 0, 0), 0, []),
  (10, false, .bipush (-2), 2, 0, (0, 0, 0, 0), 0, []),
  (12, false, .ireturn, 1, 0, (0, 0, 0, 0), 0, []),
  (13, false, .iload_n 2, 1, 0, (0, 0, 0, 0), 0, []),
  (14, false, .tableswitch 102 0 7 #[46, 52, 57, 62, 67, 72, 77, 97], 46, 0, (116, 0, 0, 0), 0, [60, 66, 71, 76, 81, 86, 91, 111]),
  (60, false, .aload_n 0, 1, 0, (0, 0, 0, 0), 0, []),
  (61, false, .aload_n 3, 1, 0, (0, 0, 0, 0), 0, []),
  (62, false, .invokevirtual 400, 3, 732, (60, 2, 0, 0), 0, [9, 5]),
  (65, false, .ireturn, 1, 0, (0, 0, 0, 0), 0, []),
  (66, false, .aload_n 3, 1, 0, (0, 0, 0, 0), 0, []),
  (67, false, .getfield 114, 3, 301, (7, 1, 0, 0), 0, []),
  (70, false, .ireturn, 1, 0, (0, 0, 0, 0), 0, []),
  (71, false, .aload_n 3, 1, 0, (0, 0, 0, 0), 0, []),
  (72, false, .getfield 364, 3, 330, (7, 14, 0, 0), 0, []),
  (75, false, .ireturn, 1, 0, (0, 0, 0, 0), 0, []),
  (76, false, .aload_n 3, 1, 0, (0, 0, 0, 0), 0, []),
  (77, false, .getfield 311, 3, 337, (7, 17, 0, 0), 0, []),
  (80, false, .ireturn, 1, 0, (0, 0, 0, 0), 0, []),
  (81, false, .aload_n 3, 1, 0, (0, 0, 0, 0), 0, []),
  (82, false, .getfield 337, 3, 335, (7, 16, 0, 0), 0, []),
  (85, false, .ireturn, 1, 0, (0, 0, 0, 0), 0, []),
  (86, false, .aload_n 3, 1, 0, (0, 0, 0, 0), 0, []),
  (87, false, .getfield 223, 3, 327, (7, 13, 0, 0), 0, []),
  (90, false, .ireturn, 1, 0, (0, 0, 0, 0), 0, []),
  (91, false, .aload_n 3, 1, 0, (0, 0, 0, 0), 0, []),
  (92, false, .getfield 255, 3, 325, (7, 12, 0, 0), 0, []),
  (95, false, .aload_n 0, 1, 0, (0, 0, 0, 0), 0, []),
  (96, false, .getfield 78, 3, 179, (3, 16, 0, 0), 0, []),
  (99, false, .if_icmp .le 10, 3, 0, (109, 0, 0, 0), 0, []),
  (102, false, .aload_n 3, 1, 0, (0, 0, 0, 0), 0, []),
  (103, false, .getfield 255, 3, 325, (7, 12, 0, 0), 0, []),
  (106, false, .goto 4, 3, 0, (110, 0, 0, 0), 0, []),
  (109, false, .iconst (-1), 1, 0, (0, 0, 0, 0), 0, []),
  (110, false, .ireturn, 1, 0, (0, 0, 0, 0), 0, []),
  (111, false, .aload_n 3, 1, 0, (0, 0, 0, 0), 0, []),
  (112, false, .getfield 133, 3, 315, (7, 7, 0, 0), 0, []),
  (115, false, .ireturn, 1, 0, (0, 0, 0, 0), 0, []),
  (116, false, .bipush (-2), 2, 0, (0, 0, 0, 0), 0, []),
  (118, false, .ireturn, 1, 0, (0, 0, 0, 0), 0, [])]
theorem zc_x_of : zk_x_of.all (zz_ck zz_inf zM_x_of) = true ∧ zz_ch zk_x_of = true := ⟨by decide +kernel, by decide +kernel⟩
noncomputable def x_of (v1 v2 : Int) (σ : zz_S) : zz_R := ((x_taskAt v1 σ).bind fun q1 => (if q1.1 = 0 then (some ((-2), q1.2)) else (if v2 = 0 then ((x_stateOf q1.1 q1.2).bind fun q2 => (some (q2.1, q2.2))) else (if v2 = 1 then (if q1.1 = 0 then none else (some ((zz_h q1.2 7 q1.1 1), q1.2))) else (if v2 = 2 then (if q1.1 = 0 then none else (some ((zz_h q1.2 7 q1.1 14), q1.2))) else (if v2 = 3 then (if q1.1 = 0 then none else (some ((zz_h q1.2 7 q1.1 17), q1.2))) else (if v2 = 4 then (if q1.1 = 0 then none else (some ((zz_h q1.2 7 q1.1 16), q1.2))) else (if v2 = 5 then (if q1.1 = 0 then none else (some ((zz_h q1.2 7 q1.1 13), q1.2))) else (if v2 = 6 then (if q1.1 = 0 then none else (if (zz_h q1.2 7 q1.1 12) ≤ (zz_h q1.2 3 1 16) then (some ((-1), q1.2)) else (if q1.1 = 0 then none else (some ((zz_h q1.2 7 q1.1 12), q1.2))))) else (if v2 = 7 then (if q1.1 = 0 then none else (some ((zz_h q1.2 7 q1.1 7), q1.2))) else (some ((-2), q1.2))))))))))))
set_option maxRecDepth 100000 in
set_option maxHeartbeats 4000000 in
theorem ze_x_of (v1 v2 : Int) (σ : zz_S) : x_of v1 v2 σ = zz_ev (zz_CE [(60, zw_x_stateOf), (73, zw_x_taskAt)]) (zz_KE []) zk_x_of 0 false 0 0 400 true (zz_sk zk_x_of 0) [(0, 5, 1), (1, 0, v1), (2, 0, v2)] [] σ := rfl
theorem zo_x_of : zz_okb zM_x_of 0 [(0, 5, true), (1, 0, false), (2, 0, false)] (zz_f2 x_of) :=
  fun vs σ r τ h => by
    obtain ⟨v1, v2, rfl, h⟩ := zz_f2_ok h
    exact zz_from zc_x_of (zz_occ zo_m_x_stateOf (zz_occ zo_m_x_taskAt zz_oc0)) zz_ol0 ((ze_x_of v1 v2 σ).symm.trans h)
noncomputable def zw_x_of : List Int → zz_S → zz_R := zz_f3 fun a0 a1 a2 σ => if a0 = 1 then x_of a1 a2 σ else none
theorem zo_m_x_of : zz_okm zz_inf 59 zw_x_of := fun vs σ r τ h => by
  obtain ⟨a0, a1, a2, rfl, h⟩ := zz_f3_ok h
  obtain ⟨e, h⟩ := zz_it h
  subst e
  exact zz_meth zi_x_of zy_x_of (zo_x_of [a1, a2] σ r τ h)
def zk_xT_firstOfRate : List zz_E := [(0, false, .aload_n 0, 1, 0, (0, 0, 0, 0), 0, []),
  (1, false, .getfield 72, 3, 302, (7, 2, 0, 0), 0, []),
  (4, false, .iload_n 1, 1, 0, (0, 0, 0, 0), 0, []),
  (5, false, .if_icmp .lt 8, 3, 0, (13, 0, 0, 0), 0, []),
  (8, false, .aload_n 0, 1, 0, (0, 0, 0, 0), 0, []),
  (9, false, .getfield 72, 3, 302, (7, 2, 0, 0), 0, []),
  (12, false, .ireturn, 1, 0, (0, 0, 0, 0), 0, []),
  (13, false, .iload_n 1, 1, 0, (0, 0, 0, 0), 0, []),
  (14, false, .aload_n 0, 1, 0, (0, 0, 0, 0), 0, []),
  (15, false, .getfield 72, 3, 302, (7, 2, 0, 0), 0, []),
  (18, false, .isub, 1, 0, (0, 0, 0, 0), 0, []),
  (19, false, .aload_n 0, 1, 0, (0, 0, 0, 0), 0, []),
  (20, false, .invokevirtual 87, 3, 748, (91, 1, 0, 0), 0, [9]),
  (23, false, .iadd, 1, 0, (0, 0, 0, 0), 0, []),
  (24, false, .iconst 1, 1, 0, (0, 0, 0, 0), 0, []),
  (25, false, .isub, 1, 0, (0, 0, 0, 0), 0, []),
  (26, false, .aload_n 0, 1, 0, (0, 0, 0, 0), 0, []),
  (27, false, .invokevirtual 87, 3, 748, (91, 1, 0, 0), 0, [9]),
  (30, false, .idiv, 1, 0, (0, 0, 0, 0), 0, []),
  (31, false, .istore_n 2, 1, 0, (0, 0, 0, 0), 0, []),
  (32, false, .aload_n 0, 1, 0, (0, 0, 0, 0), 0, []),
  (33, false, .getfield 72, 3, 302, (7, 2, 0, 0), 0, []),
  (36, false, .iload_n 2, 1, 0, (0, 0, 0, 0), 0, []),
  (37, false, .aload_n 0, 1, 0, (0, 0, 0, 0), 0, []),
  (38, false, .invokevirtual 87, 3, 748, (91, 1, 0, 0), 0, [9]),
  (41, false, .imul, 1, 0, (0, 0, 0, 0), 0, []),
  (42, false, .iadd, 1, 0, (0, 0, 0, 0), 0, []),
  (43, false, .ireturn, 1, 0, (0, 0, 0, 0), 0, [])]
theorem zc_xT_firstOfRate : zk_xT_firstOfRate.all (zz_ck zz_inf zM_xT_firstOfRate) = true ∧ zz_ch zk_xT_firstOfRate = true := ⟨by decide +kernel, by decide +kernel⟩
noncomputable def xT_firstOfRate (v0 v1 : Int) (σ : zz_S) : zz_R := (if v0 = 0 then none else (if (zz_h σ 7 v0 2) < v1 then (if v0 = 0 then none else (if v0 = 0 then none else ((xT_step v0 σ).bind fun q1 => (if v0 = 0 then none else ((xT_step v0 q1.2).bind fun q2 => (if q2.1 = 0 then none else (if v0 = 0 then none else (if v0 = 0 then none else ((xT_step v0 q2.2).bind fun q3 => (some ((zz_r ((zz_h q2.2 7 v0 2) + (zz_r ((zz_div (zz_r ((zz_r ((zz_r (v1 - (zz_h σ 7 v0 2))) + q1.1)) - 1)) q2.1) * q3.1)))), q3.2))))))))))) else (if v0 = 0 then none else (some ((zz_h σ 7 v0 2), σ)))))
set_option maxRecDepth 100000 in
set_option maxHeartbeats 4000000 in
theorem ze_xT_firstOfRate (v0 v1 : Int) (σ : zz_S) : xT_firstOfRate v0 v1 σ = zz_ev (zz_CE [(91, zw_xT_step)]) (zz_KE []) zk_xT_firstOfRate 0 false 0 0 400 true (zz_sk zk_xT_firstOfRate 0) [(0, 9, v0), (1, 0, v1)] [] σ := rfl
theorem zo_xT_firstOfRate : zz_okb zM_xT_firstOfRate 0 [(0, 9, false), (1, 0, false)] (zz_f2 xT_firstOfRate) :=
  fun vs σ r τ h => by
    obtain ⟨v0, v1, rfl, h⟩ := zz_f2_ok h
    exact zz_from zc_xT_firstOfRate (zz_occ zo_m_xT_step zz_oc0) zz_ol0 ((ze_xT_firstOfRate v0 v1 σ).symm.trans h)
noncomputable def zw_xT_firstOfRate : List Int → zz_S → zz_R := zz_f2 fun a0 a1 σ => xT_firstOfRate a0 a1 σ
theorem zo_m_xT_firstOfRate : zz_okm zz_inf 92 zw_xT_firstOfRate := fun vs σ r τ h => by
  obtain ⟨a0, a1, rfl, h⟩ := zz_f2_ok h
  exact zz_meth zi_xT_firstOfRate zy_xT_firstOfRate (zo_xT_firstOfRate [a0, a1] σ r τ h)
def zk_x_calendarMinute : List zz_E := [(0, false, .ldc 95, 2, 239, (0, 0, 0, 0), 400000, []),
  (2, false, .aload_n 0, 1, 0, (0, 0, 0, 0), 0, []),
  (3, false, .getfield 81, 3, 180, (3, 17, 0, 0), 0, []),
  (6, false, .iadd, 1, 0, (0, 0, 0, 0), 0, []),
  (7, false, .istore_n 3, 1, 0, (0, 0, 0, 0), 0, []),
  (8, false, .aload_n 1, 1, 0, (0, 0, 0, 0), 0, []),
  (9, false, .aload_n 0, 1, 0, (0, 0, 0, 0), 0, []),
  (10, false, .getfield 78, 3, 179, (3, 16, 0, 0), 0, []),
  (13, false, .aload_n 0, 1, 0, (0, 0, 0, 0), 0, []),
  (14, false, .getfield 81, 3, 180, (3, 17, 0, 0), 0, []),
  (17, false, .iadd, 1, 0, (0, 0, 0, 0), 0, []),
  (18, false, .aload_n 0, 1, 0, (0, 0, 0, 0), 0, []),
  (19, false, .getfield 84, 3, 181, (3, 18, 0, 0), 0, []),
  (22, false, .iconst 1, 1, 0, (0, 0, 0, 0), 0, []),
  (23, false, .iadd, 1, 0, (0, 0, 0, 0), 0, []),
  (24, false, .invokestatic 258, 3, 510, (168, 2, 0, 0), 0, [0, 0]),
  (27, false, .iload_n 3, 1, 0, (0, 0, 0, 0), 0, []),
  (28, false, .invokevirtual 377, 3, 690, (101, 3, 0, 0), 0, [0, 0, 10]),
  (31, false, .istore 4, 2, 0, (0, 0, 0, 0), 0, []),
  (33, false, .iconst 0, 1, 0, (0, 0, 0, 0), 0, []),
  (34, false, .istore 5, 2, 0, (0, 0, 0, 0), 0, []),
  (36, true, .iload 5, 2, 0, (0, 0, 0, 0), 0, []),
  (38, false, .iload_n 2, 1, 0, (0, 0, 0, 0), 0, []),
  (39, false, .if_icmp .ge 26, 3, 0, (65, 0, 0, 0), 0, []),
  (42, false, .iload 4, 2, 0, (0, 0, 0, 0), 0, []),
  (44, false, .iconst (-1), 1, 0, (0, 0, 0, 0), 0, []),
  (45, false, .if_icmp .eq 20, 3, 0, (65, 0, 0, 0), 0, []),
  (48, false, .aload_n 1, 1, 0, (0, 0, 0, 0), 0, []),
  (49, false, .iload 4, 2, 0, (0, 0, 0, 0), 0, []),
  (51, false, .iconst 1, 1, 0, (0, 0, 0, 0), 0, []),
  (52, false, .iadd, 1, 0, (0, 0, 0, 0), 0, []),
  (53, false, .iload_n 3, 1, 0, (0, 0, 0, 0), 0, []),
  (54, false, .invokevirtual 377, 3, 690, (101, 3, 0, 0), 0, [0, 0, 10]),
  (57, false, .istore 4, 2, 0, (0, 0, 0, 0), 0, []),
  (59, false, .iinc 5 1, 3, 0, (0, 0, 0, 0), 0, []),
  (62, false, .goto (-26), 3, 0, (36, 0, 0, 0), 0, []),
  (65, true, .iload 4, 2, 0, (0, 0, 0, 0), 0, []),
  (67, false, .iconst (-1), 1, 0, (0, 0, 0, 0), 0, []),
  (68, false, .if_icmp .ne 7, 3, 0, (75, 0, 0, 0), 0, []),
  (71, false, .iconst (-1), 1, 0, (0, 0, 0, 0), 0, []),
  (72, false, .goto 10, 3, 0, (82, 0, 0, 0), 0, []),
  (75, false, .iload 4, 2, 0, (0, 0, 0, 0), 0, []),
  (77, false, .aload_n 0, 1, 0, (0, 0, 0, 0), 0, []),
  (78, false, .getfield 81, 3, 180, (3, 17, 0, 0), 0, []),
  (81, false, .isub, 1, 0, (0, 0, 0, 0), 0, []),
  (82, false, .ireturn, 1, 0, (0, 0, 0, 0), 0, [])]
theorem zc_x_calendarMinute : zk_x_calendarMinute.all (zz_ck zz_inf zM_x_calendarMinute) = true ∧ zz_ch zk_x_calendarMinute = true := ⟨by decide +kernel, by decide +kernel⟩
noncomputable def x_calendarMinute_65 (v4 : Int) (σ : zz_S) : zz_R := (if v4 = (-1) then (some ((-1), σ)) else (some ((zz_r (v4 - (zz_h σ 3 1 17))), σ)))
set_option maxRecDepth 100000 in
set_option maxHeartbeats 4000000 in
theorem ze_x_calendarMinute_65 (v4 : Int) (σ : zz_S) : x_calendarMinute_65 v4 σ = zz_ev (zz_CE []) (zz_KE []) zk_x_calendarMinute 0 false 0 0 400 true (zz_sk zk_x_calendarMinute 65) [(0, 5, 1), (4, 0, v4)] [] σ := rfl
theorem zo_x_calendarMinute_65 : zz_okb zM_x_calendarMinute 65 [(0, 5, true), (4, 0, false)] (zz_f1 x_calendarMinute_65) :=
  fun vs σ r τ h => by
    obtain ⟨v4, rfl, h⟩ := zz_f1_ok h
    exact zz_from zc_x_calendarMinute zz_oc0 zz_ol0 ((ze_x_calendarMinute_65 v4 σ).symm.trans h)
noncomputable def x_calendarMinute_36 : Nat → Int → Int → Int → Int → Int → zz_S → zz_R
  | 0, _, _, _, _, _, _ => none
  | n + 1, v1, v2, v3, v4, v5, σ => (if v5 < v2 then (if v4 = (-1) then (x_calendarMinute_65 v4 σ) else (if v1 = 0 then none else ((xC_firstFit v1 (zz_r (v4 + 1)) v3 σ).bind fun q1 => (x_calendarMinute_36 n v1 v2 v3 q1.1 (zz_r (v5 + 1)) q1.2)))) else (x_calendarMinute_65 v4 σ))
set_option maxRecDepth 100000 in
set_option maxHeartbeats 4000000 in
theorem ze_x_calendarMinute_36 (n : Nat) (v1 v2 v3 v4 v5 : Int) (σ : zz_S) : x_calendarMinute_36 (n + 1) v1 v2 v3 v4 v5 σ = zz_ev (zz_CE [(101, zw_xC_firstFit)]) (zz_KE [(36, [(0, 5, true), (1, 10, false), (2, 0, false), (3, 0, false), (4, 0, false), (5, 0, false)], zz_f5 (x_calendarMinute_36 n)), (65, [(0, 5, true), (4, 0, false)], zz_f1 (x_calendarMinute_65))]) zk_x_calendarMinute 0 false 0 0 400 true (zz_sk zk_x_calendarMinute 36) [(0, 5, 1), (1, 10, v1), (2, 0, v2), (3, 0, v3), (4, 0, v4), (5, 0, v5)] [] σ := rfl
theorem zo_x_calendarMinute_36 : ∀ n : Nat, zz_okb zM_x_calendarMinute 36 [(0, 5, true), (1, 10, false), (2, 0, false), (3, 0, false), (4, 0, false), (5, 0, false)] (zz_f5 (x_calendarMinute_36 n))
  | 0 => fun vs σ r τ h => by
    obtain ⟨v1, v2, v3, v4, v5, rfl, h⟩ := zz_f5_ok h
    exact nomatch (show (none : zz_R) = some (r, τ) from h)
  | n + 1 => by
    have ih := zo_x_calendarMinute_36 n
    exact fun vs σ r τ h => by
        obtain ⟨v1, v2, v3, v4, v5, rfl, h⟩ := zz_f5_ok h
        exact zz_from zc_x_calendarMinute (zz_occ zo_m_xC_firstFit zz_oc0) (zz_olc ih (zz_olc (zo_x_calendarMinute_65) zz_ol0)) ((ze_x_calendarMinute_36 n v1 v2 v3 v4 v5 σ).symm.trans h)
noncomputable def x_calendarMinute (v1 v2 : Int) (σ : zz_S) : zz_R := ((j_max (zz_r ((zz_h σ 3 1 16) + (zz_h σ 3 1 17))) (zz_r ((zz_h σ 3 1 18) + 1)) σ).bind fun q1 => (if v1 = 0 then none else ((xC_firstFit v1 q1.1 (zz_r (400000 + (zz_h σ 3 1 17))) q1.2).bind fun q2 => (x_calendarMinute_36 zz_fu v1 v2 (zz_r (400000 + (zz_h σ 3 1 17))) q2.1 0 q2.2))))
set_option maxRecDepth 100000 in
set_option maxHeartbeats 4000000 in
theorem ze_x_calendarMinute (v1 v2 : Int) (σ : zz_S) : x_calendarMinute v1 v2 σ = zz_ev (zz_CE [(101, zw_xC_firstFit), (168, zw_j_max)]) (zz_KE [(36, [(0, 5, true), (1, 10, false), (2, 0, false), (3, 0, false), (4, 0, false), (5, 0, false)], zz_f5 (x_calendarMinute_36 zz_fu))]) zk_x_calendarMinute 0 false 0 0 400 true (zz_sk zk_x_calendarMinute 0) [(0, 5, 1), (1, 10, v1), (2, 0, v2)] [] σ := rfl
theorem zo_x_calendarMinute : zz_okb zM_x_calendarMinute 0 [(0, 5, true), (1, 10, false), (2, 0, false)] (zz_f2 x_calendarMinute) :=
  fun vs σ r τ h => by
    obtain ⟨v1, v2, rfl, h⟩ := zz_f2_ok h
    exact zz_from zc_x_calendarMinute (zz_occ zo_m_xC_firstFit (zz_occ zo_m_j_max zz_oc0)) (zz_olc (zo_x_calendarMinute_36 zz_fu) zz_ol0) ((ze_x_calendarMinute v1 v2 σ).symm.trans h)
noncomputable def zw_x_calendarMinute : List Int → zz_S → zz_R := zz_f3 fun a0 a1 a2 σ => if a0 = 1 then x_calendarMinute a1 a2 σ else none
theorem zo_m_x_calendarMinute : zz_okm zz_inf 63 zw_x_calendarMinute := fun vs σ r τ h => by
  obtain ⟨a0, a1, a2, rfl, h⟩ := zz_f3_ok h
  obtain ⟨e, h⟩ := zz_it h
  subst e
  exact zz_meth zi_x_calendarMinute zy_x_calendarMinute (zo_x_calendarMinute [a1, a2] σ r τ h)
def zk_x_dueMinute : List zz_E := [(0, false, .iconst (-1), 1, 0, (0, 0, 0, 0), 0, []),
  (1, false, .istore_n 3, 1, 0, (0, 0, 0, 0), 0, []),
  (2, false, .aload_n 1, 1, 0, (0, 0, 0, 0), 0, []),
  (3, false, .getfield 114, 3, 301, (7, 1, 0, 0), 0, []),
  (6, false, .tableswitch 91 0 3 #[30, 46, 65, 81], 30, 0, (97, 0, 0, 0), 0, [36, 52, 71, 87]),
  (36, false, .iload_n 2, 1, 0, (0, 0, 0, 0), 0, []),
  (37, false, .ifCond .ne 10, 3, 0, (47, 0, 0, 0), 0, []),
  (40, false, .aload_n 1, 1, 0, (0, 0, 0, 0), 0, []),
  (41, false, .getfield 292, 3, 303, (7, 2, 0, 0), 0, []),
  (44, false, .goto 4, 3, 0, (48, 0, 0, 0), 0, []),
  (47, false, .iconst (-1), 1, 0, (0, 0, 0, 0), 0, []),
  (48, false, .istore_n 3, 1, 0, (0, 0, 0, 0), 0, []),
  (49, false, .goto 48, 3, 0, (97, 0, 0, 0), 0, []),
  (52, false, .aload_n 1, 1, 0, (0, 0, 0, 0), 0, []),
  (53, false, .aload_n 0, 1, 0, (0, 0, 0, 0), 0, []),
  (54, false, .getfield 78, 3, 179, (3, 16, 0, 0), 0, []),
  (57, false, .invokevirtual 405, 3, 744, (92, 2, 0, 0), 0, [0, 9]),
  (60, false, .iload_n 2, 1, 0, (0, 0, 0, 0), 0, []),
  (61, false, .aload_n 1, 1, 0, (0, 0, 0, 0), 0, []),
  (62, false, .getfield 246, 3, 305, (7, 3, 0, 0), 0, []),
  (65, false, .imul, 1, 0, (0, 0, 0, 0), 0, []),
  (66, false, .iadd, 1, 0, (0, 0, 0, 0), 0, []),
  (67, false, .istore_n 3, 1, 0, (0, 0, 0, 0), 0, []),
  (68, false, .goto 29, 3, 0, (97, 0, 0, 0), 0, []),
  (71, false, .iload_n 2, 1, 0, (0, 0, 0, 0), 0, []),
  (72, false, .ifCond .ne 10, 3, 0, (82, 0, 0, 0), 0, []),
  (75, false, .aload_n 1, 1, 0, (0, 0, 0, 0), 0, []),
  (76, false, .getfield 249, 3, 323, (7, 11, 0, 0), 0, []),
  (79, false, .goto 4, 3, 0, (83, 0, 0, 0), 0, []),
  (82, false, .iconst (-1), 1, 0, (0, 0, 0, 0), 0, []),
  (83, false, .istore_n 3, 1, 0, (0, 0, 0, 0), 0, []),
  (84, false, .goto 13, 3, 0, (97, 0, 0, 0), 0, []),
  (87, false, .aload_n 0, 1, 0, (0, 0, 0, 0), 0, []),
  (88, false, .aload_n 1, 1, 0, (0, 0, 0, 0), 0, []),
  (89, false, .getfield 122, 3, 311, (7, 5, 10, 1), 0, []),
  (92, false, .iload_n 2, 1, 0, (0, 0, 0, 0), 0, []),
  (93, false, .invokevirtual 408, 3, 749, (63, 3, 0, 0), 0, [0, 10, 5]),
  (96, false, .ireturn, 1, 0, (0, 0, 0, 0), 0, []),
  (97, true, .iload_n 3, 1, 0, (0, 0, 0, 0), 0, []),
  (98, false, .aload_n 0, 1, 0, (0, 0, 0, 0), 0, []),
  (99, false, .getfield 78, 3, 179, (3, 16, 0, 0), 0, []),
  (102, false, .ldc 95, 2, 239, (0, 0, 0, 0), 400000, []),
  (104, false, .invokestatic 91, 3, 228, (72, 3, 0, 0), 0, [0, 0, 0]),
  (107, false, .ifCond .eq 7, 3, 0, (114, 0, 0, 0), 0, []),
  (110, false, .iload_n 3, 1, 0, (0, 0, 0, 0), 0, []),
  (111, false, .goto 4, 3, 0, (115, 0, 0, 0), 0, []),
  (114, false, .iconst (-1), 1, 0, (0, 0, 0, 0), 0, []),
  (115, false, .ireturn, 1, 0, (0, 0, 0, 0), 0, [])]
theorem zc_x_dueMinute : zk_x_dueMinute.all (zz_ck zz_inf zM_x_dueMinute) = true ∧ zz_ch zk_x_dueMinute = true := ⟨by decide +kernel, by decide +kernel⟩
noncomputable def x_dueMinute_97 (v3 : Int) (σ : zz_S) : zz_R := ((x_isWithin v3 (zz_h σ 3 1 16) 400000 σ).bind fun q1 => (if q1.1 = 0 then (some ((-1), q1.2)) else (some (v3, q1.2))))
set_option maxRecDepth 100000 in
set_option maxHeartbeats 4000000 in
theorem ze_x_dueMinute_97 (v3 : Int) (σ : zz_S) : x_dueMinute_97 v3 σ = zz_ev (zz_CE [(72, zw_x_isWithin)]) (zz_KE []) zk_x_dueMinute 0 false 0 0 400 true (zz_sk zk_x_dueMinute 97) [(0, 5, 1), (3, 0, v3)] [] σ := rfl
theorem zo_x_dueMinute_97 : zz_okb zM_x_dueMinute 97 [(0, 5, true), (3, 0, false)] (zz_f1 x_dueMinute_97) :=
  fun vs σ r τ h => by
    obtain ⟨v3, rfl, h⟩ := zz_f1_ok h
    exact zz_from zc_x_dueMinute (zz_occ zo_m_x_isWithin zz_oc0) zz_ol0 ((ze_x_dueMinute_97 v3 σ).symm.trans h)
noncomputable def x_dueMinute (v1 v2 : Int) (σ : zz_S) : zz_R := (if v1 = 0 then none else (if (zz_h σ 7 v1 1) = 0 then (if v2 = 0 then (if v1 = 0 then none else (x_dueMinute_97 (zz_h σ 7 v1 2) σ)) else (x_dueMinute_97 (-1) σ)) else (if (zz_h σ 7 v1 1) = 1 then (if v1 = 0 then none else ((xT_firstOfRate v1 (zz_h σ 3 1 16) σ).bind fun q2 => (if v1 = 0 then none else (x_dueMinute_97 (zz_r (q2.1 + (zz_r (v2 * (zz_h q2.2 7 v1 3))))) q2.2)))) else (if (zz_h σ 7 v1 1) = 2 then (if v2 = 0 then (if v1 = 0 then none else (x_dueMinute_97 (zz_h σ 7 v1 11) σ)) else (x_dueMinute_97 (-1) σ)) else (if (zz_h σ 7 v1 1) = 3 then (if v1 = 0 then none else ((x_calendarMinute v1 v2 σ).bind fun q1 => (some (q1.1, q1.2)))) else (x_dueMinute_97 (-1) σ))))))
set_option maxRecDepth 100000 in
set_option maxHeartbeats 4000000 in
theorem ze_x_dueMinute (v1 v2 : Int) (σ : zz_S) : x_dueMinute v1 v2 σ = zz_ev (zz_CE [(63, zw_x_calendarMinute), (92, zw_xT_firstOfRate)]) (zz_KE [(97, [(0, 5, true), (3, 0, false)], zz_f1 (x_dueMinute_97))]) zk_x_dueMinute 0 false 0 0 400 true (zz_sk zk_x_dueMinute 0) [(0, 5, 1), (1, 9, v1), (2, 0, v2)] [] σ := rfl
theorem zo_x_dueMinute : zz_okb zM_x_dueMinute 0 [(0, 5, true), (1, 9, false), (2, 0, false)] (zz_f2 x_dueMinute) :=
  fun vs σ r τ h => by
    obtain ⟨v1, v2, rfl, h⟩ := zz_f2_ok h
    exact zz_from zc_x_dueMinute (zz_occ zo_m_x_calendarMinute (zz_occ zo_m_xT_firstOfRate zz_oc0)) (zz_olc (zo_x_dueMinute_97) zz_ol0) ((ze_x_dueMinute v1 v2 σ).symm.trans h)
noncomputable def zw_x_dueMinute : List Int → zz_S → zz_R := zz_f3 fun a0 a1 a2 σ => if a0 = 1 then x_dueMinute a1 a2 σ else none
theorem zo_m_x_dueMinute : zz_okm zz_inf 62 zw_x_dueMinute := fun vs σ r τ h => by
  obtain ⟨a0, a1, a2, rfl, h⟩ := zz_f3_ok h
  obtain ⟨e, h⟩ := zz_it h
  subst e
  exact zz_meth zi_x_dueMinute zy_x_dueMinute (zo_x_dueMinute [a1, a2] σ r τ h)
def zk_x_next : List zz_E := [(0, false, .aload_n 0, 1, 0, (0, 0, 0, 0), 0, []),
  (1, false, .iload_n 1, 1, 0, (0, 0, 0, 0), 0, []),
  (2, false, .invokevirtual 100, 3, 385, (73, 2, 9, 0), 0, [0, 5]),
  (5, false, .astore_n 3, 1, 0, (0, 0, 0, 0), 0, []),
  (6, false, .aload_n 3, 1, 0, (0, 0, 0, 0), 0, []),
  (7, false, .ifnull 13, 3, 0, (20, 0, 0, 0), 0, []),
  (10, false, .iload_n 2, 1, 0, (0, 0, 0, 0), 0, []),
  (11, false, .iconst 0, 1, 0, (0, 0, 0, 0), 0, []),
  (12, false, .bipush 9, 2, 0, (0, 0, 0, 0), 0, []),
  (14, false, .invokestatic 91, 3, 228, (72, 3, 0, 0), 0, [0, 0, 0]),
  (17, false, .ifCond .ne 6, 3, 0, (23, 0, 0, 0), 0, []),
  (20, false, .bipush (-2), 2, 0, (0, 0, 0, 0), 0, []),
  (22, false, .ireturn, 1, 0, (0, 0, 0, 0), 0, []),
  (23, false, .aload_n 0, 1, 0, (0, 0, 0, 0), 0, []),
  (24, false, .aload_n 3, 1, 0, (0, 0, 0, 0), 0, []),
  (25, false, .iload_n 2, 1, 0, (0, 0, 0, 0), 0, []),
  (26, false, .invokevirtual 403, 3, 740, (62, 3, 0, 0), 0, [0, 9, 5]),
  (29, false, .ireturn, 1, 0, (0, 0, 0, 0), 0, [])]
theorem zc_x_next : zk_x_next.all (zz_ck zz_inf zM_x_next) = true ∧ zz_ch zk_x_next = true := ⟨by decide +kernel, by decide +kernel⟩
noncomputable def x_next (v1 v2 : Int) (σ : zz_S) : zz_R := ((x_taskAt v1 σ).bind fun q1 => (if q1.1 = 0 then (some ((-2), q1.2)) else ((x_isWithin v2 0 9 q1.2).bind fun q2 => (if q2.1 = 0 then (some ((-2), q2.2)) else ((x_dueMinute q1.1 v2 q2.2).bind fun q3 => (some (q3.1, q3.2)))))))
set_option maxRecDepth 100000 in
set_option maxHeartbeats 4000000 in
theorem ze_x_next (v1 v2 : Int) (σ : zz_S) : x_next v1 v2 σ = zz_ev (zz_CE [(62, zw_x_dueMinute), (72, zw_x_isWithin), (73, zw_x_taskAt)]) (zz_KE []) zk_x_next 0 false 0 0 400 true (zz_sk zk_x_next 0) [(0, 5, 1), (1, 0, v1), (2, 0, v2)] [] σ := rfl
theorem zo_x_next : zz_okb zM_x_next 0 [(0, 5, true), (1, 0, false), (2, 0, false)] (zz_f2 x_next) :=
  fun vs σ r τ h => by
    obtain ⟨v1, v2, rfl, h⟩ := zz_f2_ok h
    exact zz_from zc_x_next (zz_occ zo_m_x_dueMinute (zz_occ zo_m_x_isWithin (zz_occ zo_m_x_taskAt zz_oc0))) zz_ol0 ((ze_x_next v1 v2 σ).symm.trans h)
noncomputable def zw_x_next : List Int → zz_S → zz_R := zz_f3 fun a0 a1 a2 σ => if a0 = 1 then x_next a1 a2 σ else none
theorem zo_m_x_next : zz_okm zz_inf 61 zw_x_next := fun vs σ r τ h => by
  obtain ⟨a0, a1, a2, rfl, h⟩ := zz_f3_ok h
  obtain ⟨e, h⟩ := zz_it h
  subst e
  exact zz_meth zi_x_next zy_x_next (zo_x_next [a1, a2] σ r τ h)
def zk_x_waiting : List zz_E := [(0, false, .iload_n 2, 1, 0, (0, 0, 0, 0), 0, []),
  (1, false, .iconst 0, 1, 0, (0, 0, 0, 0), 0, []),
  (2, false, .iconst 2, 1, 0, (0, 0, 0, 0), 0, []),
  (3, false, .invokestatic 91, 3, 228, (72, 3, 0, 0), 0, [0, 0, 0]),
  (6, false, .ifCond .ne 6, 3, 0, (12, 0, 0, 0), 0, []),
  (9, false, .bipush (-2), 2, 0, (0, 0, 0, 0), 0, []),
  (11, false, .ireturn, 1, 0, (0, 0, 0, 0), 0, []),
  (12, false, .iload_n 1, 1, 0, (0, 0, 0, 0), 0, []),
  (13, false, .iconst 0, 1, 0, (0, 0, 0, 0), 0, []),
  (14, false, .aload_n 0, 1, 0, (0, 0, 0, 0), 0, []),
  (15, false, .getfield 27, 3, 166, (3, 3, 6, 1), 0, []),
  (18, false, .getfield 318, 3, 108, (4, 3, 0, 0), 0, []),
  (21, false, .iconst 1, 1, 0, (0, 0, 0, 0), 0, []),
  (22, false, .isub, 1, 0, (0, 0, 0, 0), 0, []),
  (23, false, .invokestatic 91, 3, 228, (72, 3, 0, 0), 0, [0, 0, 0]),
  (26, false, .ifCond .ne 5, 3, 0, (31, 0, 0, 0), 0, []),
  (29, false, .iconst (-1), 1, 0, (0, 0, 0, 0), 0, []),
  (30, false, .ireturn, 1, 0, (0, 0, 0, 0), 0, []),
  (31, false, .iload_n 2, 1, 0, (0, 0, 0, 0), 0, []),
  (32, false, .iconst 1, 1, 0, (0, 0, 0, 0), 0, []),
  (33, false, .if_icmp .ne 13, 3, 0, (46, 0, 0, 0), 0, []),
  (36, false, .aload_n 0, 1, 0, (0, 0, 0, 0), 0, []),
  (37, false, .getfield 27, 3, 166, (3, 3, 6, 1), 0, []),
  (40, false, .getfield 334, 3, 104, (4, 1, 22, 1), 0, []),
  (43, false, .iload_n 1, 1, 0, (0, 0, 0, 0), 0, []),
  (44, false, .iaload, 1, 0, (20, 0, 0, 0), 0, []),
  (45, false, .ireturn, 1, 0, (0, 0, 0, 0), 0, []),
  (46, false, .iload_n 2, 1, 0, (0, 0, 0, 0), 0, []),
  (47, false, .iconst 2, 1, 0, (0, 0, 0, 0), 0, []),
  (48, false, .if_icmp .ne 21, 3, 0, (69, 0, 0, 0), 0, []),
  (51, false, .aload_n 0, 1, 0, (0, 0, 0, 0), 0, []),
  (52, false, .getfield 27, 3, 166, (3, 3, 6, 1), 0, []),
  (55, false, .getfield 331, 3, 106, (4, 2, 23, 1), 0, []),
  (58, false, .iload_n 1, 1, 0, (0, 0, 0, 0), 0, []),
  (59, false, .baload, 1, 0, (21, 0, 0, 0), 0, []),
  (60, false, .ifCond .eq 7, 3, 0, (67, 0, 0, 0), 0, []),
  (63, false, .iconst 1, 1, 0, (0, 0, 0, 0), 0, []),
  (64, false, .goto 4, 3, 0, (68, 0, 0, 0), 0, []),
  (67, false, .iconst 0, 1, 0, (0, 0, 0, 0), 0, []),
  (68, false, .ireturn, 1, 0, (0, 0, 0, 0), 0, []),
  (69, false, .aload_n 0, 1, 0, (0, 0, 0, 0), 0, []),
  (70, false, .getfield 27, 3, 166, (3, 3, 6, 1), 0, []),
  (73, false, .getfield 322, 3, 102, (4, 0, 21, 1), 0, []),
  (76, false, .iload_n 1, 1, 0, (0, 0, 0, 0), 0, []),
  (77, false, .aaload, 1, 0, (19, 0, 9, 0), 0, []),
  (78, false, .astore_n 3, 1, 0, (0, 0, 0, 0), 0, []),
  (79, false, .aload_n 3, 1, 0, (0, 0, 0, 0), 0, []),
  (80, false, .ifnonnull 7, 3, 0, (87, 0, 0, 0), 0, []),
  (83, false, .iconst (-1), 1, 0, (0, 0, 0, 0), 0, []),
  (84, false, .goto 7, 3, 0, (91, 0, 0, 0), 0, []),
  (87, false, .aload_n 3, 1, 0, (0, 0, 0, 0), 0, []),
  (88, false, .getfield 162, 3, 299, (7, 0, 0, 0), 0, []),
  (91, false, .ireturn, 1, 0, (0, 0, 0, 0), 0, [])]
theorem zc_x_waiting : zk_x_waiting.all (zz_ck zz_inf zM_x_waiting) = true ∧ zz_ch zk_x_waiting = true := ⟨by decide +kernel, by decide +kernel⟩
noncomputable def x_waiting (v1 v2 : Int) (σ : zz_S) : zz_R := ((x_isWithin v2 0 2 σ).bind fun q1 => (if q1.1 = 0 then (some ((-2), q1.2)) else ((x_isWithin v1 0 (zz_r ((zz_h q1.2 4 1 3) - 1)) q1.2).bind fun q2 => (if q2.1 = 0 then (some ((-1), q2.2)) else (if v2 = 1 then (if zz_b q2.2 20 1 v1 then (some ((zz_h q2.2 20 1 v1), q2.2)) else none) else (if v2 = 2 then (if zz_b q2.2 21 1 v1 then (if (zz_h q2.2 21 1 v1) = 0 then (some (0, q2.2)) else (some (1, q2.2))) else none) else (if zz_b q2.2 19 1 v1 then (if (zz_h q2.2 19 1 v1) = 0 then (some ((-1), q2.2)) else (if (zz_h q2.2 19 1 v1) = 0 then none else (some ((zz_h q2.2 7 (zz_h q2.2 19 1 v1) 0), q2.2)))) else none)))))))
set_option maxRecDepth 100000 in
set_option maxHeartbeats 4000000 in
theorem ze_x_waiting (v1 v2 : Int) (σ : zz_S) : x_waiting v1 v2 σ = zz_ev (zz_CE [(72, zw_x_isWithin)]) (zz_KE []) zk_x_waiting 0 false 0 0 400 true (zz_sk zk_x_waiting 0) [(0, 5, 1), (1, 0, v1), (2, 0, v2)] [] σ := rfl
theorem zo_x_waiting : zz_okb zM_x_waiting 0 [(0, 5, true), (1, 0, false), (2, 0, false)] (zz_f2 x_waiting) :=
  fun vs σ r τ h => by
    obtain ⟨v1, v2, rfl, h⟩ := zz_f2_ok h
    exact zz_from zc_x_waiting (zz_occ zo_m_x_isWithin zz_oc0) zz_ol0 ((ze_x_waiting v1 v2 σ).symm.trans h)
noncomputable def zw_x_waiting : List Int → zz_S → zz_R := zz_f3 fun a0 a1 a2 σ => if a0 = 1 then x_waiting a1 a2 σ else none
theorem zo_m_x_waiting : zz_okm zz_inf 64 zw_x_waiting := fun vs σ r τ h => by
  obtain ⟨a0, a1, a2, rfl, h⟩ := zz_f3_ok h
  obtain ⟨e, h⟩ := zz_it h
  subst e
  exact zz_meth zi_x_waiting zy_x_waiting (zo_x_waiting [a1, a2] σ r τ h)
def zk_x_book : List zz_E := [(0, false, .iload_n 2, 1, 0, (0, 0, 0, 0), 0, []),
  (1, false, .iconst 0, 1, 0, (0, 0, 0, 0), 0, []),
  (2, false, .iconst 2, 1, 0, (0, 0, 0, 0), 0, []),
  (3, false, .invokestatic 91, 3, 228, (72, 3, 0, 0), 0, [0, 0, 0]),
  (6, false, .ifCond .ne 6, 3, 0, (12, 0, 0, 0), 0, []),
  (9, false, .bipush (-2), 2, 0, (0, 0, 0, 0), 0, []),
  (11, false, .ireturn, 1, 0, (0, 0, 0, 0), 0, []),
  (12, false, .iload_n 1, 1, 0, (0, 0, 0, 0), 0, []),
  (13, false, .iconst 0, 1, 0, (0, 0, 0, 0), 0, []),
  (14, false, .aload_n 0, 1, 0, (0, 0, 0, 0), 0, []),
  (15, false, .getfield 34, 3, 167, (3, 4, 7, 1), 0, []),
  (18, false, .getfield 412, 3, 133, (5, 3, 0, 0), 0, []),
  (21, false, .sipush 300, 3, 0, (0, 0, 0, 0), 0, []),
  (24, false, .invokestatic 172, 3, 456, (169, 2, 0, 0), 0, [0, 0]),
  (27, false, .iconst 1, 1, 0, (0, 0, 0, 0), 0, []),
  (28, false, .isub, 1, 0, (0, 0, 0, 0), 0, []),
  (29, false, .invokestatic 91, 3, 228, (72, 3, 0, 0), 0, [0, 0, 0]),
  (32, false, .ifCond .ne 5, 3, 0, (37, 0, 0, 0), 0, []),
  (35, false, .iconst (-1), 1, 0, (0, 0, 0, 0), 0, []),
  (36, false, .ireturn, 1, 0, (0, 0, 0, 0), 0, []),
  (37, false, .iload_n 2, 1, 0, (0, 0, 0, 0), 0, []),
  (38, false, .ifCond .ne 13, 3, 0, (51, 0, 0, 0), 0, []),
  (41, false, .aload_n 0, 1, 0, (0, 0, 0, 0), 0, []),
  (42, false, .getfield 34, 3, 167, (3, 4, 7, 1), 0, []),
  (45, false, .getfield 415, 3, 127, (5, 0, 24, 1), 0, []),
  (48, false, .iload_n 1, 1, 0, (0, 0, 0, 0), 0, []),
  (49, false, .iaload, 1, 0, (22, 0, 0, 0), 0, []),
  (50, false, .ireturn, 1, 0, (0, 0, 0, 0), 0, []),
  (51, false, .iload_n 2, 1, 0, (0, 0, 0, 0), 0, []),
  (52, false, .iconst 1, 1, 0, (0, 0, 0, 0), 0, []),
  (53, false, .if_icmp .ne 15, 3, 0, (68, 0, 0, 0), 0, []),
  (56, false, .aload_n 0, 1, 0, (0, 0, 0, 0), 0, []),
  (57, false, .getfield 34, 3, 167, (3, 4, 7, 1), 0, []),
  (60, false, .getfield 417, 3, 129, (5, 1, 25, 1), 0, []),
  (63, false, .iload_n 1, 1, 0, (0, 0, 0, 0), 0, []),
  (64, false, .iaload, 1, 0, (23, 0, 0, 0), 0, []),
  (65, false, .goto 12, 3, 0, (77, 0, 0, 0), 0, []),
  (68, false, .aload_n 0, 1, 0, (0, 0, 0, 0), 0, []),
  (69, false, .getfield 34, 3, 167, (3, 4, 7, 1), 0, []),
  (72, false, .getfield 418, 3, 131, (5, 2, 26, 1), 0, []),
  (75, false, .iload_n 1, 1, 0, (0, 0, 0, 0), 0, []),
  (76, false, .iaload, 1, 0, (24, 0, 0, 0), 0, []),
  (77, false, .ireturn, 1, 0, (0, 0, 0, 0), 0, [])]
theorem zc_x_book : zk_x_book.all (zz_ck zz_inf zM_x_book) = true ∧ zz_ch zk_x_book = true := ⟨by decide +kernel, by decide +kernel⟩
noncomputable def x_book (v1 v2 : Int) (σ : zz_S) : zz_R := ((x_isWithin v2 0 2 σ).bind fun q1 => (if q1.1 = 0 then (some ((-2), q1.2)) else ((j_min (zz_h q1.2 5 1 3) 300 q1.2).bind fun q2 => ((x_isWithin v1 0 (zz_r (q2.1 - 1)) q2.2).bind fun q3 => (if q3.1 = 0 then (some ((-1), q3.2)) else (if v2 = 0 then (if zz_b q3.2 22 1 v1 then (some ((zz_h q3.2 22 1 v1), q3.2)) else none) else (if v2 = 1 then (if zz_b q3.2 23 1 v1 then (some ((zz_h q3.2 23 1 v1), q3.2)) else none) else (if zz_b q3.2 24 1 v1 then (some ((zz_h q3.2 24 1 v1), q3.2)) else none))))))))
set_option maxRecDepth 100000 in
set_option maxHeartbeats 4000000 in
theorem ze_x_book (v1 v2 : Int) (σ : zz_S) : x_book v1 v2 σ = zz_ev (zz_CE [(72, zw_x_isWithin), (169, zw_j_min)]) (zz_KE []) zk_x_book 0 false 0 0 400 true (zz_sk zk_x_book 0) [(0, 5, 1), (1, 0, v1), (2, 0, v2)] [] σ := rfl
theorem zo_x_book : zz_okb zM_x_book 0 [(0, 5, true), (1, 0, false), (2, 0, false)] (zz_f2 x_book) :=
  fun vs σ r τ h => by
    obtain ⟨v1, v2, rfl, h⟩ := zz_f2_ok h
    exact zz_from zc_x_book (zz_occ zo_m_x_isWithin (zz_occ zo_m_j_min zz_oc0)) zz_ol0 ((ze_x_book v1 v2 σ).symm.trans h)
noncomputable def zw_x_book : List Int → zz_S → zz_R := zz_f3 fun a0 a1 a2 σ => if a0 = 1 then x_book a1 a2 σ else none
theorem zo_m_x_book : zz_okm zz_inf 65 zw_x_book := fun vs σ r τ h => by
  obtain ⟨a0, a1, a2, rfl, h⟩ := zz_f3_ok h
  obtain ⟨e, h⟩ := zz_it h
  subst e
  exact zz_meth zi_x_book zy_x_book (zo_x_book [a1, a2] σ r τ h)
def zk_x_count : List zz_E := [(0, false, .iload_n 1, 1, 0, (0, 0, 0, 0), 0, []),
  (1, false, .tableswitch 128 0 10 #[59, 64, 69, 77, 82, 87, 92, 100, 105, 110, 115], 59, 0, (129, 0, 0, 0), 0, [60, 65, 70, 78, 83, 88, 93, 101, 106, 111, 116]),
  (60, false, .aload_n 0, 1, 0, (0, 0, 0, 0), 0, []),
  (61, false, .getfield 62, 3, 174, (3, 11, 0, 0), 0, []),
  (64, false, .ireturn, 1, 0, (0, 0, 0, 0), 0, []),
  (65, false, .aload_n 0, 1, 0, (0, 0, 0, 0), 0, []),
  (66, false, .getfield 66, 3, 175, (3, 12, 0, 0), 0, []),
  (69, false, .ireturn, 1, 0, (0, 0, 0, 0), 0, []),
  (70, false, .aload_n 0, 1, 0, (0, 0, 0, 0), 0, []),
  (71, false, .getfield 27, 3, 166, (3, 3, 6, 1), 0, []),
  (74, false, .getfield 318, 3, 108, (4, 3, 0, 0), 0, []),
  (77, false, .ireturn, 1, 0, (0, 0, 0, 0), 0, []),
  (78, false, .aload_n 0, 1, 0, (0, 0, 0, 0), 0, []),
  (79, false, .getfield 69, 3, 176, (3, 13, 0, 0), 0, []),
  (82, false, .ireturn, 1, 0, (0, 0, 0, 0), 0, []),
  (83, false, .aload_n 0, 1, 0, (0, 0, 0, 0), 0, []),
  (84, false, .getfield 78, 3, 179, (3, 16, 0, 0), 0, []),
  (87, false, .ireturn, 1, 0, (0, 0, 0, 0), 0, []),
  (88, false, .aload_n 0, 1, 0, (0, 0, 0, 0), 0, []),
  (89, false, .getfield 81, 3, 180, (3, 17, 0, 0), 0, []),
  (92, false, .ireturn, 1, 0, (0, 0, 0, 0), 0, []),
  (93, false, .aload_n 0, 1, 0, (0, 0, 0, 0), 0, []),
  (94, false, .getfield 34, 3, 167, (3, 4, 7, 1), 0, []),
  (97, false, .getfield 412, 3, 133, (5, 3, 0, 0), 0, []),
  (100, false, .ireturn, 1, 0, (0, 0, 0, 0), 0, []),
  (101, false, .aload_n 0, 1, 0, (0, 0, 0, 0), 0, []),
  (102, false, .getfield 72, 3, 177, (3, 14, 0, 0), 0, []),
  (105, false, .ireturn, 1, 0, (0, 0, 0, 0), 0, []),
  (106, false, .aload_n 0, 1, 0, (0, 0, 0, 0), 0, []),
  (107, false, .getfield 75, 3, 178, (3, 15, 0, 0), 0, []),
  (110, false, .ireturn, 1, 0, (0, 0, 0, 0), 0, []),
  (111, false, .aload_n 0, 1, 0, (0, 0, 0, 0), 0, []),
  (112, false, .getfield 84, 3, 181, (3, 18, 0, 0), 0, []),
  (115, false, .ireturn, 1, 0, (0, 0, 0, 0), 0, []),
  (116, false, .aload_n 0, 1, 0, (0, 0, 0, 0), 0, []),
  (117, false, .getfield 87, 3, 182, (3, 19, 0, 0), 1, []),
  (120, false, .ifCond .eq 7, 3, 0, (127, 0, 0, 0), 0, []),
  (123, false, .iconst 1, 1, 0, (0, 0, 0, 0), 0, []),
  (124, false, .goto 4, 3, 0, (128, 0, 0, 0), 0, []),
  (127, false, .iconst 0, 1, 0, (0, 0, 0, 0), 0, []),
  (128, false, .ireturn, 1, 0, (0, 0, 0, 0), 0, []),
  (129, false, .bipush (-2), 2, 0, (0, 0, 0, 0), 0, []),
  (131, false, .ireturn, 1, 0, (0, 0, 0, 0), 0, [])]
theorem zc_x_count : zk_x_count.all (zz_ck zz_inf zM_x_count) = true ∧ zz_ch zk_x_count = true := ⟨by decide +kernel, by decide +kernel⟩
noncomputable def x_count (v1 : Int) (σ : zz_S) : zz_R := (if v1 = 0 then (some ((zz_h σ 3 1 11), σ)) else (if v1 = 1 then (some ((zz_h σ 3 1 12), σ)) else (if v1 = 2 then (some ((zz_h σ 4 1 3), σ)) else (if v1 = 3 then (some ((zz_h σ 3 1 13), σ)) else (if v1 = 4 then (some ((zz_h σ 3 1 16), σ)) else (if v1 = 5 then (some ((zz_h σ 3 1 17), σ)) else (if v1 = 6 then (some ((zz_h σ 5 1 3), σ)) else (if v1 = 7 then (some ((zz_h σ 3 1 14), σ)) else (if v1 = 8 then (some ((zz_h σ 3 1 15), σ)) else (if v1 = 9 then (some ((zz_h σ 3 1 18), σ)) else (if v1 = 10 then (if (zz_h σ 3 1 19) = 0 then (some (0, σ)) else (some (1, σ))) else (some ((-2), σ)))))))))))))
set_option maxRecDepth 100000 in
set_option maxHeartbeats 4000000 in
theorem ze_x_count (v1 : Int) (σ : zz_S) : x_count v1 σ = zz_ev (zz_CE []) (zz_KE []) zk_x_count 0 false 0 0 400 true (zz_sk zk_x_count 0) [(0, 5, 1), (1, 0, v1)] [] σ := rfl
theorem zo_x_count : zz_okb zM_x_count 0 [(0, 5, true), (1, 0, false)] (zz_f1 x_count) :=
  fun vs σ r τ h => by
    obtain ⟨v1, rfl, h⟩ := zz_f1_ok h
    exact zz_from zc_x_count zz_oc0 zz_ol0 ((ze_x_count v1 σ).symm.trans h)
noncomputable def zw_x_count : List Int → zz_S → zz_R := zz_f2 fun a0 a1 σ => if a0 = 1 then x_count a1 σ else none
theorem zo_m_x_count : zz_okm zz_inf 66 zw_x_count := fun vs σ r τ h => by
  obtain ⟨a0, a1, rfl, h⟩ := zz_f2_ok h
  obtain ⟨e, h⟩ := zz_it h
  subst e
  exact zz_meth zi_x_count zy_x_count (zo_x_count [a1] σ r τ h)
def zk_x_cell : List zz_E := [(0, false, .iload_n 1, 1, 0, (0, 0, 0, 0), 0, []),
  (1, false, .iconst 0, 1, 0, (0, 0, 0, 0), 0, []),
  (2, false, .bipush 7, 2, 0, (0, 0, 0, 0), 0, []),
  (4, false, .invokestatic 91, 3, 228, (72, 3, 0, 0), 0, [0, 0, 0]),
  (7, false, .ifCond .eq 12, 3, 0, (19, 0, 0, 0), 0, []),
  (10, false, .aload_n 0, 1, 0, (0, 0, 0, 0), 0, []),
  (11, false, .getfield 56, 3, 172, (3, 9, 19, 1), 0, []),
  (14, false, .iload_n 1, 1, 0, (0, 0, 0, 0), 0, []),
  (15, false, .iaload, 1, 0, (17, 0, 0, 0), 0, []),
  (16, false, .goto 4, 3, 0, (20, 0, 0, 0), 0, []),
  (19, false, .iconst 0, 1, 0, (0, 0, 0, 0), 0, []),
  (20, false, .ireturn, 1, 0, (0, 0, 0, 0), 0, [])]
theorem zc_x_cell : zk_x_cell.all (zz_ck zz_inf zM_x_cell) = true ∧ zz_ch zk_x_cell = true := ⟨by decide +kernel, by decide +kernel⟩
noncomputable def x_cell (v1 : Int) (σ : zz_S) : zz_R := ((x_isWithin v1 0 7 σ).bind fun q1 => (if q1.1 = 0 then (some (0, q1.2)) else (if zz_b q1.2 17 1 v1 then (some ((zz_h q1.2 17 1 v1), q1.2)) else none)))
set_option maxRecDepth 100000 in
set_option maxHeartbeats 4000000 in
theorem ze_x_cell (v1 : Int) (σ : zz_S) : x_cell v1 σ = zz_ev (zz_CE [(72, zw_x_isWithin)]) (zz_KE []) zk_x_cell 0 false 0 0 400 true (zz_sk zk_x_cell 0) [(0, 5, 1), (1, 0, v1)] [] σ := rfl
theorem zo_x_cell : zz_okb zM_x_cell 0 [(0, 5, true), (1, 0, false)] (zz_f1 x_cell) :=
  fun vs σ r τ h => by
    obtain ⟨v1, rfl, h⟩ := zz_f1_ok h
    exact zz_from zc_x_cell (zz_occ zo_m_x_isWithin zz_oc0) zz_ol0 ((ze_x_cell v1 σ).symm.trans h)
noncomputable def zw_x_cell : List Int → zz_S → zz_R := zz_f2 fun a0 a1 σ => if a0 = 1 then x_cell a1 σ else none
theorem zo_m_x_cell : zz_okm zz_inf 67 zw_x_cell := fun vs σ r τ h => by
  obtain ⟨a0, a1, rfl, h⟩ := zz_f2_ok h
  obtain ⟨e, h⟩ := zz_it h
  subst e
  exact zz_meth zi_x_cell zy_x_cell (zo_x_cell [a1] σ r τ h)
def zk_x_day : List zz_E := [(0, false, .iload_n 1, 1, 0, (0, 0, 0, 0), 0, []),
  (1, false, .iconst 0, 1, 0, (0, 0, 0, 0), 0, []),
  (2, false, .ldc_w 421, 3, 773, (0, 0, 0, 0), 525599, []),
  (5, false, .invokestatic 91, 3, 228, (72, 3, 0, 0), 0, [0, 0, 0]),
  (8, false, .ifCond .ne 6, 3, 0, (14, 0, 0, 0), 0, []),
  (11, false, .bipush (-2), 2, 0, (0, 0, 0, 0), 0, []),
  (13, false, .ireturn, 1, 0, (0, 0, 0, 0), 0, []),
  (14, false, .iload_n 1, 1, 0, (0, 0, 0, 0), 0, []),
  (15, false, .sipush 1440, 3, 0, (0, 0, 0, 0), 0, []),
  (18, false, .idiv, 1, 0, (0, 0, 0, 0), 0, []),
  (19, false, .istore_n 3, 1, 0, (0, 0, 0, 0), 0, []),
  (20, false, .iload_n 3, 1, 0, (0, 0, 0, 0), 0, []),
  (21, false, .invokestatic 422, 3, 774, (102, 1, 0, 0), 0, [0]),
  (24, false, .istore 4, 2, 0, (0, 0, 0, 0), 0, []),
  (26, false, .iload_n 2, 1, 0, (0, 0, 0, 0), 0, []),
  (27, false, .tableswitch 67 0 4 #[33, 38, 49, 57, 62], 33, 0, (94, 0, 0, 0), 0, [60, 65, 76, 84, 89]),
  (60, false, .iload 4, 2, 0, (0, 0, 0, 0), 0, []),
  (62, false, .iconst 1, 1, 0, (0, 0, 0, 0), 0, []),
  (63, false, .iadd, 1, 0, (0, 0, 0, 0), 0, []),
  (64, false, .ireturn, 1, 0, (0, 0, 0, 0), 0, []),
  (65, false, .iload_n 3, 1, 0, (0, 0, 0, 0), 0, []),
  (66, false, .getstatic 425, 3, 775, (1, 0, 0, 0), 0, []),
  (69, false, .iload 4, 2, 0, (0, 0, 0, 0), 0, []),
  (71, false, .iaload, 1, 0, (1, 0, 0, 0), 0, []),
  (72, false, .isub, 1, 0, (0, 0, 0, 0), 0, []),
  (73, false, .iconst 1, 1, 0, (0, 0, 0, 0), 0, []),
  (74, false, .iadd, 1, 0, (0, 0, 0, 0), 0, []),
  (75, false, .ireturn, 1, 0, (0, 0, 0, 0), 0, []),
  (76, false, .iload_n 1, 1, 0, (0, 0, 0, 0), 0, []),
  (77, false, .bipush 60, 2, 0, (0, 0, 0, 0), 0, []),
  (79, false, .idiv, 1, 0, (0, 0, 0, 0), 0, []),
  (80, false, .bipush 24, 2, 0, (0, 0, 0, 0), 0, []),
  (82, false, .irem, 1, 0, (0, 0, 0, 0), 0, []),
  (83, false, .ireturn, 1, 0, (0, 0, 0, 0), 0, []),
  (84, false, .iload_n 1, 1, 0, (0, 0, 0, 0), 0, []),
  (85, false, .bipush 60, 2, 0, (0, 0, 0, 0), 0, []),
  (87, false, .irem, 1, 0, (0, 0, 0, 0), 0, []),
  (88, false, .ireturn, 1, 0, (0, 0, 0, 0), 0, []),
  (89, false, .iload_n 3, 1, 0, (0, 0, 0, 0), 0, []),
  (90, false, .bipush 7, 2, 0, (0, 0, 0, 0), 0, []),
  (92, false, .irem, 1, 0, (0, 0, 0, 0), 0, []),
  (93, false, .ireturn, 1, 0, (0, 0, 0, 0), 0, []),
  (94, false, .bipush (-2), 2, 0, (0, 0, 0, 0), 0, []),
  (96, false, .ireturn, 1, 0, (0, 0, 0, 0), 0, [])]
theorem zc_x_day : zk_x_day.all (zz_ck zz_inf zM_x_day) = true ∧ zz_ch zk_x_day = true := ⟨by decide +kernel, by decide +kernel⟩
noncomputable def x_day (v1 v2 : Int) (σ : zz_S) : zz_R := ((x_isWithin v1 0 525599 σ).bind fun q1 => (if q1.1 = 0 then (some ((-2), q1.2)) else ((xC_monthOf (zz_div v1 1440) q1.2).bind fun q2 => (if v2 = 0 then (some ((zz_r (q2.1 + 1)), q2.2)) else (if v2 = 1 then (if zz_b q2.2 1 1 q2.1 then (some ((zz_r ((zz_r ((zz_div v1 1440) - (zz_h q2.2 1 1 q2.1))) + 1)), q2.2)) else none) else (if v2 = 2 then (some ((zz_rem (zz_div v1 60) 24), q2.2)) else (if v2 = 3 then (some ((zz_rem v1 60), q2.2)) else (if v2 = 4 then (some ((zz_rem (zz_div v1 1440) 7), q2.2)) else (some ((-2), q2.2))))))))))
set_option maxRecDepth 100000 in
set_option maxHeartbeats 4000000 in
theorem ze_x_day (v1 v2 : Int) (σ : zz_S) : x_day v1 v2 σ = zz_ev (zz_CE [(72, zw_x_isWithin), (102, zw_xC_monthOf)]) (zz_KE []) zk_x_day 0 false 0 0 400 true (zz_sk zk_x_day 0) [(0, 5, 1), (1, 0, v1), (2, 0, v2)] [] σ := rfl
theorem zo_x_day : zz_okb zM_x_day 0 [(0, 5, true), (1, 0, false), (2, 0, false)] (zz_f2 x_day) :=
  fun vs σ r τ h => by
    obtain ⟨v1, v2, rfl, h⟩ := zz_f2_ok h
    exact zz_from zc_x_day (zz_occ zo_m_x_isWithin (zz_occ zo_m_xC_monthOf zz_oc0)) zz_ol0 ((ze_x_day v1 v2 σ).symm.trans h)
noncomputable def zw_x_day : List Int → zz_S → zz_R := zz_f3 fun a0 a1 a2 σ => if a0 = 1 then x_day a1 a2 σ else none
theorem zo_m_x_day : zz_okm zz_inf 68 zw_x_day := fun vs σ r τ h => by
  obtain ⟨a0, a1, a2, rfl, h⟩ := zz_f3_ok h
  obtain ⟨e, h⟩ := zz_it h
  subst e
  exact zz_meth zi_x_day zy_x_day (zo_x_day [a1, a2] σ r τ h)
def zk_x_idle : List zz_E := [(0, false, .iload_n 1, 1, 0, (0, 0, 0, 0), 0, []),
  (1, false, .iconst 0, 1, 0, (0, 0, 0, 0), 0, []),
  (2, false, .aload_n 0, 1, 0, (0, 0, 0, 0), 0, []),
  (3, false, .getfield 75, 3, 178, (3, 15, 0, 0), 0, []),
  (6, false, .iconst 1, 1, 0, (0, 0, 0, 0), 0, []),
  (7, false, .isub, 1, 0, (0, 0, 0, 0), 0, []),
  (8, false, .invokestatic 91, 3, 228, (72, 3, 0, 0), 0, [0, 0, 0]),
  (11, false, .ifCond .eq 12, 3, 0, (23, 0, 0, 0), 0, []),
  (14, false, .aload_n 0, 1, 0, (0, 0, 0, 0), 0, []),
  (15, false, .getfield 49, 3, 170, (3, 7, 17, 1), 0, []),
  (18, false, .iload_n 1, 1, 0, (0, 0, 0, 0), 0, []),
  (19, false, .iaload, 1, 0, (15, 0, 0, 0), 0, []),
  (20, false, .goto 5, 3, 0, (25, 0, 0, 0), 0, []),
  (23, false, .bipush (-2), 2, 0, (0, 0, 0, 0), 0, []),
  (25, false, .ireturn, 1, 0, (0, 0, 0, 0), 0, [])]
theorem zc_x_idle : zk_x_idle.all (zz_ck zz_inf zM_x_idle) = true ∧ zz_ch zk_x_idle = true := ⟨by decide +kernel, by decide +kernel⟩
noncomputable def x_idle (v1 : Int) (σ : zz_S) : zz_R := ((x_isWithin v1 0 (zz_r ((zz_h σ 3 1 15) - 1)) σ).bind fun q1 => (if q1.1 = 0 then (some ((-2), q1.2)) else (if zz_b q1.2 15 1 v1 then (some ((zz_h q1.2 15 1 v1), q1.2)) else none)))
set_option maxRecDepth 100000 in
set_option maxHeartbeats 4000000 in
theorem ze_x_idle (v1 : Int) (σ : zz_S) : x_idle v1 σ = zz_ev (zz_CE [(72, zw_x_isWithin)]) (zz_KE []) zk_x_idle 0 false 0 0 400 true (zz_sk zk_x_idle 0) [(0, 5, 1), (1, 0, v1)] [] σ := rfl
theorem zo_x_idle : zz_okb zM_x_idle 0 [(0, 5, true), (1, 0, false)] (zz_f1 x_idle) :=
  fun vs σ r τ h => by
    obtain ⟨v1, rfl, h⟩ := zz_f1_ok h
    exact zz_from zc_x_idle (zz_occ zo_m_x_isWithin zz_oc0) zz_ol0 ((ze_x_idle v1 σ).symm.trans h)
noncomputable def zw_x_idle : List Int → zz_S → zz_R := zz_f2 fun a0 a1 σ => if a0 = 1 then x_idle a1 σ else none
theorem zo_m_x_idle : zz_okm zz_inf 69 zw_x_idle := fun vs σ r τ h => by
  obtain ⟨a0, a1, rfl, h⟩ := zz_f2_ok h
  obtain ⟨e, h⟩ := zz_it h
  subst e
  exact zz_meth zi_x_idle zy_x_idle (zo_x_idle [a1] σ r τ h)
def zk_x_load : List zz_E := [(0, false, .iload_n 1, 1, 0, (0, 0, 0, 0), 0, []),
  (1, false, .iconst 0, 1, 0, (0, 0, 0, 0), 0, []),
  (2, false, .aload_n 0, 1, 0, (0, 0, 0, 0), 0, []),
  (3, false, .getfield 72, 3, 177, (3, 14, 0, 0), 0, []),
  (6, false, .iconst 1, 1, 0, (0, 0, 0, 0), 0, []),
  (7, false, .isub, 1, 0, (0, 0, 0, 0), 0, []),
  (8, false, .invokestatic 91, 3, 228, (72, 3, 0, 0), 0, [0, 0, 0]),
  (11, false, .ifCond .eq 11, 3, 0, (22, 0, 0, 0), 0, []),
  (14, false, .aload_n 0, 1, 0, (0, 0, 0, 0), 0, []),
  (15, false, .iload_n 1, 1, 0, (0, 0, 0, 0), 0, []),
  (16, false, .invokevirtual 358, 3, 616, (46, 2, 0, 0), 0, [0, 5]),
  (19, false, .goto 5, 3, 0, (24, 0, 0, 0), 0, []),
  (22, false, .bipush (-2), 2, 0, (0, 0, 0, 0), 0, []),
  (24, false, .ireturn, 1, 0, (0, 0, 0, 0), 0, [])]
theorem zc_x_load : zk_x_load.all (zz_ck zz_inf zM_x_load) = true ∧ zz_ch zk_x_load = true := ⟨by decide +kernel, by decide +kernel⟩
noncomputable def x_load (v1 : Int) (σ : zz_S) : zz_R := ((x_isWithin v1 0 (zz_r ((zz_h σ 3 1 14) - 1)) σ).bind fun q1 => (if q1.1 = 0 then (some ((-2), q1.2)) else ((x_workIn v1 q1.2).bind fun q2 => (some (q2.1, q2.2)))))
set_option maxRecDepth 100000 in
set_option maxHeartbeats 4000000 in
theorem ze_x_load (v1 : Int) (σ : zz_S) : x_load v1 σ = zz_ev (zz_CE [(46, zw_x_workIn), (72, zw_x_isWithin)]) (zz_KE []) zk_x_load 0 false 0 0 400 true (zz_sk zk_x_load 0) [(0, 5, 1), (1, 0, v1)] [] σ := rfl
theorem zo_x_load : zz_okb zM_x_load 0 [(0, 5, true), (1, 0, false)] (zz_f1 x_load) :=
  fun vs σ r τ h => by
    obtain ⟨v1, rfl, h⟩ := zz_f1_ok h
    exact zz_from zc_x_load (zz_occ zo_m_x_workIn (zz_occ zo_m_x_isWithin zz_oc0)) zz_ol0 ((ze_x_load v1 σ).symm.trans h)
noncomputable def zw_x_load : List Int → zz_S → zz_R := zz_f2 fun a0 a1 σ => if a0 = 1 then x_load a1 σ else none
theorem zo_m_x_load : zz_okm zz_inf 70 zw_x_load := fun vs σ r τ h => by
  obtain ⟨a0, a1, rfl, h⟩ := zz_f2_ok h
  obtain ⟨e, h⟩ := zz_it h
  subst e
  exact zz_meth zi_x_load zy_x_load (zo_x_load [a1] σ r τ h)
def zk_x_quiet : List zz_E := [(0, false, .aload_n 0, 1, 0, (0, 0, 0, 0), 0, []),
  (1, false, .getfield 69, 3, 176, (3, 13, 0, 0), 0, []),
  (4, false, .ifCond .gt 13, 3, 0, (17, 0, 0, 0), 0, []),
  (7, false, .aload_n 0, 1, 0, (0, 0, 0, 0), 0, []),
  (8, false, .getfield 27, 3, 166, (3, 3, 6, 1), 0, []),
  (11, false, .getfield 318, 3, 108, (4, 3, 0, 0), 0, []),
  (14, false, .ifCond .le 5, 3, 0, (19, 0, 0, 0), 0, []),
  (17, false, .iconst 0, 1, 0, (0, 0, 0, 0), 0, []),
  (18, false, .ireturn, 1, 0, (0, 0, 0, 0), 0, []),
  (19, false, .iconst 0, 1, 0, (0, 0, 0, 0), 0, []),
  (20, false, .istore_n 1, 1, 0, (0, 0, 0, 0), 0, []),
  (21, true, .iload_n 1, 1, 0, (0, 0, 0, 0), 0, []),
  (22, false, .aload_n 0, 1, 0, (0, 0, 0, 0), 0, []),
  (23, false, .getfield 62, 3, 174, (3, 11, 0, 0), 0, []),
  (26, false, .if_icmp .ge 45, 3, 0, (71, 0, 0, 0), 0, []),
  (29, false, .aload_n 0, 1, 0, (0, 0, 0, 0), 0, []),
  (30, false, .iload_n 1, 1, 0, (0, 0, 0, 0), 0, []),
  (31, false, .invokevirtual 100, 3, 385, (73, 2, 9, 0), 0, [0, 5]),
  (34, false, .astore_n 2, 1, 0, (0, 0, 0, 0), 0, []),
  (35, false, .aload_n 2, 1, 0, (0, 0, 0, 0), 0, []),
  (36, false, .invokestatic 273, 3, 515, (74, 1, 0, 0), 0, [9]),
  (39, false, .ifCond .eq 26, 3, 0, (65, 0, 0, 0), 0, []),
  (42, false, .aload_n 2, 1, 0, (0, 0, 0, 0), 0, []),
  (43, false, .aload_n 0, 1, 0, (0, 0, 0, 0), 0, []),
  (44, false, .getfield 78, 3, 179, (3, 16, 0, 0), 0, []),
  (47, false, .invokevirtual 288, 3, 579, (90, 2, 0, 0), 0, [0, 9]),
  (50, false, .ifCond .ne 13, 3, 0, (63, 0, 0, 0), 0, []),
  (53, false, .aload_n 0, 1, 0, (0, 0, 0, 0), 0, []),
  (54, false, .aload_n 2, 1, 0, (0, 0, 0, 0), 0, []),
  (55, false, .iconst 0, 1, 0, (0, 0, 0, 0), 0, []),
  (56, false, .invokevirtual 403, 3, 740, (62, 3, 0, 0), 0, [0, 9, 5]),
  (59, false, .iconst (-1), 1, 0, (0, 0, 0, 0), 0, []),
  (60, false, .if_icmp .eq 5, 3, 0, (65, 0, 0, 0), 0, []),
  (63, false, .iconst 0, 1, 0, (0, 0, 0, 0), 0, []),
  (64, false, .ireturn, 1, 0, (0, 0, 0, 0), 0, []),
  (65, false, .iinc 1 1, 3, 0, (0, 0, 0, 0), 0, []),
  (68, false, .goto (-47), 3, 0, (21, 0, 0, 0), 0, []),
  (71, false, .iconst 1, 1, 0, (0, 0, 0, 0), 0, []),
  (72, false, .ireturn, 1, 0, (0, 0, 0, 0), 0, [])]
theorem zc_x_quiet : zk_x_quiet.all (zz_ck zz_inf zM_x_quiet) = true ∧ zz_ch zk_x_quiet = true := ⟨by decide +kernel, by decide +kernel⟩
noncomputable def x_quiet_21 : Nat → Int → zz_S → zz_R
  | 0, _, _ => none
  | n + 1, v1, σ => (if v1 < (zz_h σ 3 1 11) then ((x_taskAt v1 σ).bind fun q1 => ((x_isActive q1.1 q1.2).bind fun q2 => (if q2.1 = 0 then (x_quiet_21 n (zz_r (v1 + 1)) q2.2) else (if q1.1 = 0 then none else ((xT_isFiredFor q1.1 (zz_h q2.2 3 1 16) q2.2).bind fun q3 => (if q3.1 = 0 then ((x_dueMinute q1.1 0 q3.2).bind fun q4 => (if q4.1 = (-1) then (x_quiet_21 n (zz_r (v1 + 1)) q4.2) else (some (0, q4.2)))) else (some (0, q3.2)))))))) else (some (1, σ)))
set_option maxRecDepth 100000 in
set_option maxHeartbeats 4000000 in
theorem ze_x_quiet_21 (n : Nat) (v1 : Int) (σ : zz_S) : x_quiet_21 (n + 1) v1 σ = zz_ev (zz_CE [(62, zw_x_dueMinute), (73, zw_x_taskAt), (74, zw_x_isActive), (90, zw_xT_isFiredFor)]) (zz_KE [(21, [(0, 5, true), (1, 0, false)], zz_f1 (x_quiet_21 n))]) zk_x_quiet 0 false 0 0 400 true (zz_sk zk_x_quiet 21) [(0, 5, 1), (1, 0, v1)] [] σ := rfl
theorem zo_x_quiet_21 : ∀ n : Nat, zz_okb zM_x_quiet 21 [(0, 5, true), (1, 0, false)] (zz_f1 (x_quiet_21 n))
  | 0 => fun vs σ r τ h => by
    obtain ⟨v1, rfl, h⟩ := zz_f1_ok h
    exact nomatch (show (none : zz_R) = some (r, τ) from h)
  | n + 1 => by
    have ih := zo_x_quiet_21 n
    exact fun vs σ r τ h => by
        obtain ⟨v1, rfl, h⟩ := zz_f1_ok h
        exact zz_from zc_x_quiet (zz_occ zo_m_x_dueMinute (zz_occ zo_m_x_taskAt (zz_occ zo_m_x_isActive (zz_occ zo_m_xT_isFiredFor zz_oc0)))) (zz_olc ih zz_ol0) ((ze_x_quiet_21 n v1 σ).symm.trans h)
noncomputable def x_quiet (σ : zz_S) : zz_R := (if (zz_h σ 3 1 13) ≤ 0 then (if (zz_h σ 4 1 3) ≤ 0 then (x_quiet_21 zz_fu 0 σ) else (some (0, σ))) else (some (0, σ)))
set_option maxRecDepth 100000 in
set_option maxHeartbeats 4000000 in
theorem ze_x_quiet (σ : zz_S) : x_quiet σ = zz_ev (zz_CE []) (zz_KE [(21, [(0, 5, true), (1, 0, false)], zz_f1 (x_quiet_21 zz_fu))]) zk_x_quiet 0 false 0 0 400 true (zz_sk zk_x_quiet 0) [(0, 5, 1)] [] σ := rfl
theorem zo_x_quiet : zz_okb zM_x_quiet 0 [(0, 5, true)] (zz_f0 x_quiet) :=
  fun vs σ r τ h => by
    obtain ⟨rfl, h⟩ := zz_f0_ok h
    exact zz_from zc_x_quiet zz_oc0 (zz_olc (zo_x_quiet_21 zz_fu) zz_ol0) ((ze_x_quiet σ).symm.trans h)
noncomputable def zw_x_quiet : List Int → zz_S → zz_R := zz_f1 fun a0 σ => if a0 = 1 then x_quiet σ else none
theorem zo_m_x_quiet : zz_okm zz_inf 71 zw_x_quiet := fun vs σ r τ h => by
  obtain ⟨a0, rfl, h⟩ := zz_f1_ok h
  obtain ⟨e, h⟩ := zz_it h
  subst e
  exact zz_meth zi_x_quiet zy_x_quiet (zo_x_quiet [] σ r τ h)
