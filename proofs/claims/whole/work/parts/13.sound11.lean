theorem zz_sw_ok {P : Nat → Prop} {J : Nat → zz_R} {x : Int} {d : Nat} {z : Int × zz_S} (hJ : ∀ q, J q = some z → P q) : ∀ (tg : List Nat) (k : Int), zz_sw J x d k tg = some z → (¬ (k ≤ x ∧ x < k + (tg.length : Int)) ∧ P d) ∨ ∃ (j q : Nat), tg[j]? = some q ∧ x = k + (j : Int) ∧ P q
  | [], k, h => Or.inl ⟨by simp only [List.length_nil]; omega, hJ _ h⟩
  | t :: tg, k, h => by
    unfold zz_sw at h
    by_cases hx : x = k
    · rw [if_pos hx] at h
      exact Or.inr ⟨0, t, rfl, by omega, hJ _ h⟩
    · rw [if_neg hx] at h
      rcases zz_sw_ok hJ tg (k + 1) h with ⟨h1, h2⟩ | ⟨j, q, h1, h2, h3⟩
      · exact Or.inl ⟨by simp only [List.length_cons]; omega, h2⟩
      · exact Or.inr ⟨j + 1, q, h1, by omega, h3⟩
theorem zz_st_ok {t u : Nat} {z w : Int} {K : zz_R} {y : Int × zz_S} (h : zz_st t z u w K = some y) : u = t ∧ (z = 1 → zz_o w) ∧ K = some y := by
  unfold zz_st at h
  obtain ⟨b1, h⟩ := zz_cn h
  by_cases hz : z = 1
  · rw [if_pos hz] at h
    obtain ⟨hw, h⟩ := zz_it h
    exact ⟨zz_bq b1, fun _ => hw, h⟩
  · rw [if_neg hz] at h
    exact ⟨zz_bq b1, fun z' => absurd z' hz, h⟩
theorem hac1 : Jvm.Cond.arrayClass .int ∈ zz_tb := by decide +kernel
theorem hac2 : Jvm.Cond.arrayClass .boolean ∈ zz_tb := by decide +kernel
theorem hob1 : Jvm.Cond.instanceMethod objectInit ∈ zz_tb := by decide +kernel
theorem hob2 : Jvm.Cond.code objectInit ⟨#[0xb1]⟩ 1 none ∈ zz_tb := by decide +kernel
set_option maxHeartbeats 4000000 in
set_option maxRecDepth 100000 in
/-- THE EVALUATOR IS RIGHT: what it answers, the machine does -/
theorem zz_sound {M : zz_M} {CE : Nat → List Int → zz_S → zz_R} {KE : Nat → List (Nat × zz_V) → List zz_V → zz_S → zz_R} {cs : List zz_E} {inf : Nat → Option zz_I} (hck : cs.all (zz_ck inf M) = true) (hch : zz_ch cs = true)
    (hCE : ∀ i vs σ q σ2, CE i vs σ = some (q, σ2) → ∃ I, inf i = some I ∧ zz_MOK I.1 I.2.1 I.2.2.1 vs σ q σ2)
    (hKE : ∀ pc lv sk σ r τ, KE pc lv sk σ = some (r, τ) → zz_At M pc lv sk σ r τ) :
    ∀ (n : Nat) (fst : Bool) (e : zz_E) (es : List zz_E) (lv : List (Nat × zz_V)) (sk : List zz_V) (σ : zz_S) (r : Int) (τ : zz_S), (e :: es) <:+ cs → zz_ev CE KE cs (zm_rt M) (zm_rb M) (zm_th M) (zm_sd M) n fst (e :: es) lv sk σ = some (r, τ) → zz_At M e.1 lv sk σ r τ := by
  intro n
  induction n with
  | zero => intro fst e es lv sk σ r τ hs h; cases h
  | succ n ih =>
    intro fst e es lv sk σ r τ hs h
    obtain ⟨pc, ct, ins, ln, w, ⟨a, b, t, o⟩, v, tg⟩ := e
    have hc := List.all_eq_true.mp hck _ (hs.subset List.mem_cons_self)
    have next : ∀ lv sk σ, zz_ev CE KE cs (zm_rt M) (zm_rb M) (zm_th M) (zm_sd M) n false es lv sk σ = some (r, τ) → zz_At M (pc + ln) lv sk σ r τ := by
      intro lv sk σ h
      cases es with
      | nil => cases n <;> cases h
      | cons e2 es =>
        have e1 := zz_ch_ok cs _ e2 es hch hs
        have := ih false e2 es lv sk σ r τ ((List.suffix_cons _ _).trans hs) h
        rw [e1] at this
        exact this
    have jump : ∀ q lv sk σ, zz_ev CE KE cs (zm_rt M) (zm_rb M) (zm_th M) (zm_sd M) n false (zz_sk cs q) lv sk σ = some (r, τ) → zz_At M q lv sk σ r τ := by
      intro q lv sk σ h
      rcases zz_sk_ok cs q with e1 | ⟨e1, es1, e2, e3, e4⟩
      · rw [e1] at h
        cases n <;> cases h
      · rw [e2] at h
        have := ih false e1 es1 lv sk σ r τ e4 h
        rw [e3] at this
        exact this
    show zz_At M pc lv sk σ r τ
    unfold zz_ev at h
    cases hct : (ct && !fst) with
    | true =>
      rw [hct] at h
      exact hKE _ _ _ _ _ _ h
    | false =>
      rw [hct, cond_false] at h
      unfold zz_ck at hc
      dsimp only at hc
      rw [Bool.and_eq_true, decide_eq_true_eq] at hc
      obtain ⟨hd, hc⟩ := hc
      cases ins with
      | aconst_null =>
        dsimp only at h hc
        have e1 := of_decide_eq_true hc; subst e1
        exact zs_null hd (next _ _ _ h)
      | iconst i =>
        dsimp only at h hc
        rw [Bool.and_eq_true, decide_eq_true_eq] at hc
        obtain ⟨e1, hc⟩ := hc; subst e1
        exact zs_iconst hd (of_decide_eq_true hc) (next _ _ _ h)
      | bipush i =>
        dsimp only at h hc
        rw [Bool.and_eq_true, decide_eq_true_eq] at hc
        obtain ⟨⟨e1, e2⟩, hc⟩ := hc; subst e1
        exact zs_bipush hd (of_decide_eq_true hc) e2 (next _ _ _ h)
      | sipush i =>
        dsimp only at h hc
        rw [Bool.and_eq_true, decide_eq_true_eq] at hc
        obtain ⟨⟨e1, e2⟩, hc⟩ := hc; subst e1
        exact zs_sipush hd (of_decide_eq_true hc) e2 (next _ _ _ h)
      | lconst i =>
        dsimp only at h hc
        rw [Bool.and_eq_true, decide_eq_true_eq] at hc
        obtain ⟨⟨e1, e2⟩, hc⟩ := hc; subst e1
        exact zs_lconst hd (of_decide_eq_true hc) e2 (next _ _ _ h)
      | ldc i =>
        dsimp only at h hc
        rw [Bool.and_eq_true, Bool.and_eq_true, decide_eq_true_eq] at hc
        obtain ⟨e1, e2, e3⟩ := hc; subst e1
        exact zs_ldc hd (of_decide_eq_true e2) (zz_wd_ok e3) (next _ _ _ h)
      | ldc_w i =>
        dsimp only at h hc
        rw [Bool.and_eq_true, Bool.and_eq_true, decide_eq_true_eq] at hc
        obtain ⟨e1, e2, e3⟩ := hc; subst e1
        exact zs_ldcw hd (of_decide_eq_true e2) (zz_wd_ok e3) (next _ _ _ h)
      | ldc2_w i =>
        dsimp only at h hc
        rw [Bool.and_eq_true, Bool.and_eq_true, decide_eq_true_eq] at hc
        obtain ⟨e1, e2, e3⟩ := hc; subst e1
        exact zs_ldc2 hd (of_decide_eq_true e2) (zz_wd_ok e3) (next _ _ _ h)
      | iload i =>
        dsimp only at h hc
        have e1 := of_decide_eq_true hc; subst e1
        cases e : zz_lk lv i with
        | mk u x =>
          rw [e] at h
          replace h := zz_cn h; obtain ⟨hb, h⟩ := h
          have e2 := zz_bq hb; subst e2
          exact zs_iload hd e (next _ _ _ h)
      | iload_n i =>
        dsimp only at h hc
        have e1 := of_decide_eq_true hc; subst e1
        cases e : zz_lk lv i.val with
        | mk u x =>
          rw [e] at h
          replace h := zz_cn h; obtain ⟨hb, h⟩ := h
          have e2 := zz_bq hb; subst e2
          exact zs_iloadn hd e (next _ _ _ h)
      | aload i =>
        dsimp only at h hc
        have e1 := of_decide_eq_true hc; subst e1
        cases e : zz_lk lv i with
        | mk u x =>
          rw [e] at h
          replace h := zz_cn h; obtain ⟨hb, h⟩ := h
          exact zs_aload hd e (Nat.le_of_ble_eq_true hb) (next _ _ _ h)
      | aload_n i =>
        dsimp only at h hc
        have e1 := of_decide_eq_true hc; subst e1
        cases e : zz_lk lv i.val with
        | mk u x =>
          rw [e] at h
          replace h := zz_cn h; obtain ⟨hb, h⟩ := h
          exact zs_aloadn hd e (Nat.le_of_ble_eq_true hb) (next _ _ _ h)
      | istore i =>
        dsimp only at h hc
        obtain ⟨e1, e2⟩ := of_decide_eq_true hc; subst e1
        replace h := zz_i1_ok h; obtain ⟨x, rr, e3, h⟩ := h; subst e3
        exact zs_istore hd e2 (next _ _ _ h)
      | istore_n i =>
        dsimp only at h hc
        obtain ⟨e1, e2⟩ := of_decide_eq_true hc; subst e1
        replace h := zz_i1_ok h; obtain ⟨x, rr, e3, h⟩ := h; subst e3
        exact zs_istoren hd e2 (next _ _ _ h)
      | astore i =>
        dsimp only at h hc
        obtain ⟨e1, e2⟩ := of_decide_eq_true hc; subst e1
        cases sk with
        | nil => cases h
        | cons a rr =>
          obtain ⟨u, x⟩ := a
          replace h := zz_cn h; obtain ⟨hb, h⟩ := h
          exact zs_astore hd e2 (Nat.le_of_ble_eq_true hb) (next _ _ _ h)
      | astore_n i =>
        dsimp only at h hc
        obtain ⟨e1, e2⟩ := of_decide_eq_true hc; subst e1
        cases sk with
        | nil => cases h
        | cons a rr =>
          obtain ⟨u, x⟩ := a
          replace h := zz_cn h; obtain ⟨hb, h⟩ := h
          exact zs_astoren hd e2 (Nat.le_of_ble_eq_true hb) (next _ _ _ h)
      | iinc i c =>
        dsimp only at h hc
        obtain ⟨e1, e2⟩ := of_decide_eq_true hc; subst e1
        cases e : zz_lk lv i with
        | mk u x =>
          rw [e] at h
          replace h := zz_cn h; obtain ⟨hb, h⟩ := h
          have e3 := zz_bq hb; subst e3
          exact zs_iinc hd e e2 (next _ _ _ h)
      | iadd =>
        dsimp only at h hc
        have e1 := of_decide_eq_true hc; subst e1
        replace h := zz_i2_ok h; obtain ⟨x, y, rr, e3, h⟩ := h; subst e3
        exact zs_iadd hd (next _ _ _ h)
      | isub =>
        dsimp only at h hc
        have e1 := of_decide_eq_true hc; subst e1
        replace h := zz_i2_ok h; obtain ⟨x, y, rr, e3, h⟩ := h; subst e3
        exact zs_isub hd (next _ _ _ h)
      | imul =>
        dsimp only at h hc
        have e1 := of_decide_eq_true hc; subst e1
        replace h := zz_i2_ok h; obtain ⟨x, y, rr, e3, h⟩ := h; subst e3
        exact zs_imul hd (next _ _ _ h)
      | iand =>
        dsimp only at h hc
        have e1 := of_decide_eq_true hc; subst e1
        replace h := zz_i2_ok h; obtain ⟨x, y, rr, e3, h⟩ := h; subst e3
        exact zs_iand hd (next _ _ _ h)
      | ior =>
        dsimp only at h hc
        have e1 := of_decide_eq_true hc; subst e1
        replace h := zz_i2_ok h; obtain ⟨x, y, rr, e3, h⟩ := h; subst e3
        exact zs_ior hd (next _ _ _ h)
      | ixor =>
        dsimp only at h hc
        have e1 := of_decide_eq_true hc; subst e1
        replace h := zz_i2_ok h; obtain ⟨x, y, rr, e3, h⟩ := h; subst e3
        exact zs_ixor hd (next _ _ _ h)
      | ishl =>
        dsimp only at h hc
        have e1 := of_decide_eq_true hc; subst e1
        replace h := zz_i2_ok h; obtain ⟨x, y, rr, e3, h⟩ := h; subst e3
        exact zs_ishl hd (next _ _ _ h)
      | ishr =>
        dsimp only at h hc
        have e1 := of_decide_eq_true hc; subst e1
        replace h := zz_i2_ok h; obtain ⟨x, y, rr, e3, h⟩ := h; subst e3
        exact zs_ishr hd (next _ _ _ h)
      | idiv =>
        dsimp only at h hc
        have e1 := of_decide_eq_true hc; subst e1
        replace h := zz_i2_ok h; obtain ⟨x, y, rr, e3, h⟩ := h; subst e3
        replace h := zz_ie h; obtain ⟨hy, h⟩ := h
        exact zs_idiv hd hy (next _ _ _ h)
      | irem =>
        dsimp only at h hc
        have e1 := of_decide_eq_true hc; subst e1
        replace h := zz_i2_ok h; obtain ⟨x, y, rr, e3, h⟩ := h; subst e3
        replace h := zz_ie h; obtain ⟨hy, h⟩ := h
        exact zs_irem hd hy (next _ _ _ h)
      | land =>
        dsimp only at h hc
        have e1 := of_decide_eq_true hc; subst e1
        obtain ⟨y, r1, e3, h1⟩ := zz_a1_ok h
        obtain ⟨x, r2, e4, h2⟩ := zz_a1_ok h1
        subst e4; subst e3
        exact zs_land hd (next _ _ _ h2)
      | lcmp =>
        dsimp only at h hc
        have e1 := of_decide_eq_true hc; subst e1
        obtain ⟨y, r1, e3, h1⟩ := zz_a1_ok h
        obtain ⟨x, r2, e4, h2⟩ := zz_a1_ok h1
        subst e4; subst e3
        exact zs_lcmp hd (next _ _ _ h2)
      | lshl =>
        dsimp only at h hc
        have e1 := of_decide_eq_true hc; subst e1
        obtain ⟨y, r1, e3, h1⟩ := zz_i1_ok h
        obtain ⟨x, r2, e4, h2⟩ := zz_a1_ok h1
        subst e4; subst e3
        exact zs_lshl hd (next _ _ _ h2)
      | lshr =>
        dsimp only at h hc
        have e1 := of_decide_eq_true hc; subst e1
        obtain ⟨y, r1, e3, h1⟩ := zz_i1_ok h
        obtain ⟨x, r2, e4, h2⟩ := zz_a1_ok h1
        subst e4; subst e3
        exact zs_lshr hd (next _ _ _ h2)
      | dup =>
        dsimp only at h hc
        have e1 := of_decide_eq_true hc; subst e1
        match sk, h with
        | [], h => cases h
        | (t1, x1) :: rr, h =>
          replace h := zz_nc' h; obtain ⟨hb, h⟩ := h
          exact zs_dup hd (zz_bn hb) (next _ _ _ h)
      | dup_x1 =>
        dsimp only at h hc
        have e1 := of_decide_eq_true hc; subst e1
        match sk, h with
        | [], h => cases h
        | [_], h => cases h
        | (t1, x1) :: (t2, x2) :: rr, h =>
          replace h := zz_nc' h; obtain ⟨hb, h⟩ := h
          rw [Bool.or_eq_false_iff] at hb
          exact zs_dup_x1 hd (zz_bn hb.1) (zz_bn hb.2) (next _ _ _ h)
      | dup2 =>
        dsimp only at h hc
        have e1 := of_decide_eq_true hc; subst e1
        match sk, h with
        | [], h => cases h
        | [_], h => cases h
        | (t1, x1) :: (t2, x2) :: rr, h =>
          replace h := zz_nc' h; obtain ⟨hb, h⟩ := h
          rw [Bool.or_eq_false_iff] at hb
          exact zs_dup2 hd (zz_bn hb.1) (zz_bn hb.2) (next _ _ _ h)
      | dup_x2 =>
        dsimp only at h hc
        have e1 := of_decide_eq_true hc; subst e1
        match sk, h with
        | [], h => cases h
        | [_], h => cases h
        | [_, _], h => cases h
        | (t1, x1) :: (t2, x2) :: (t3, x3) :: rr, h =>
          replace h := zz_nc' h; obtain ⟨hb, h⟩ := h
          rw [Bool.or_eq_false_iff, Bool.or_eq_false_iff] at hb
          exact zs_dup_x2 hd (zz_bn hb.1) (zz_bn hb.2.1) (zz_bn hb.2.2) (next _ _ _ h)
      | goto off =>
        dsimp only at h hc
        rw [Bool.and_eq_true, decide_eq_true_eq] at hc
        obtain ⟨e1, e2⟩ := hc; subst e1
        exact zs_goto hd (of_decide_eq_true e2) (jump _ _ _ _ h)
      | ifCond cnd off =>
        dsimp only at hc
        rw [Bool.and_eq_true, decide_eq_true_eq] at hc
        obtain ⟨e1, e2⟩ := hc; subst e1
        cases cnd with
        | eq =>
          dsimp only at h
          replace h := zz_i1_ok h; obtain ⟨x, rr, e3, h⟩ := h; subst e3
          exact zs_if_eq hd (of_decide_eq_true e2) (fun c => jump _ _ _ _ ((if_pos c).symm.trans h)) (fun c => next _ _ _ ((if_neg c).symm.trans h))
        | ne =>
          dsimp only at h
          replace h := zz_i1_ok h; obtain ⟨x, rr, e3, h⟩ := h; subst e3
          exact zs_if_ne hd (of_decide_eq_true e2) (fun c => next _ _ _ ((if_pos c).symm.trans h)) (fun c => jump _ _ _ _ ((if_neg c).symm.trans h))
        | lt =>
          dsimp only at h
          replace h := zz_i1_ok h; obtain ⟨x, rr, e3, h⟩ := h; subst e3
          exact zs_if_lt hd (of_decide_eq_true e2) (fun c => jump _ _ _ _ ((if_pos c).symm.trans h)) (fun c => next _ _ _ ((if_neg c).symm.trans h))
        | ge =>
          dsimp only at h
          replace h := zz_i1_ok h; obtain ⟨x, rr, e3, h⟩ := h; subst e3
          exact zs_if_ge hd (of_decide_eq_true e2) (fun c => next _ _ _ ((if_pos c).symm.trans h)) (fun c => jump _ _ _ _ ((if_neg c).symm.trans h))
        | le =>
          dsimp only at h
          replace h := zz_i1_ok h; obtain ⟨x, rr, e3, h⟩ := h; subst e3
          exact zs_if_le hd (of_decide_eq_true e2) (fun c => jump _ _ _ _ ((if_pos c).symm.trans h)) (fun c => next _ _ _ ((if_neg c).symm.trans h))
        | gt =>
          dsimp only at h
          replace h := zz_i1_ok h; obtain ⟨x, rr, e3, h⟩ := h; subst e3
          exact zs_if_gt hd (of_decide_eq_true e2) (fun c => next _ _ _ ((if_pos c).symm.trans h)) (fun c => jump _ _ _ _ ((if_neg c).symm.trans h))
      | if_icmp cnd off =>
        dsimp only at hc
        rw [Bool.and_eq_true, decide_eq_true_eq] at hc
        obtain ⟨e1, e2⟩ := hc; subst e1
        cases cnd with
        | eq =>
          dsimp only at h
          replace h := zz_i2_ok h; obtain ⟨x, y, rr, e3, h⟩ := h; subst e3
          exact zs_icmp_eq hd (of_decide_eq_true e2) (fun c => jump _ _ _ _ ((if_pos c).symm.trans h)) (fun c => next _ _ _ ((if_neg c).symm.trans h))
        | ne =>
          dsimp only at h
          replace h := zz_i2_ok h; obtain ⟨x, y, rr, e3, h⟩ := h; subst e3
          exact zs_icmp_ne hd (of_decide_eq_true e2) (fun c => next _ _ _ ((if_pos c).symm.trans h)) (fun c => jump _ _ _ _ ((if_neg c).symm.trans h))
        | lt =>
          dsimp only at h
          replace h := zz_i2_ok h; obtain ⟨x, y, rr, e3, h⟩ := h; subst e3
          exact zs_icmp_lt hd (of_decide_eq_true e2) (fun c => jump _ _ _ _ ((if_pos c).symm.trans h)) (fun c => next _ _ _ ((if_neg c).symm.trans h))
        | ge =>
          dsimp only at h
          replace h := zz_i2_ok h; obtain ⟨x, y, rr, e3, h⟩ := h; subst e3
          exact zs_icmp_ge hd (of_decide_eq_true e2) (fun c => next _ _ _ ((if_pos c).symm.trans h)) (fun c => jump _ _ _ _ ((if_neg c).symm.trans h))
        | le =>
          dsimp only at h
          replace h := zz_i2_ok h; obtain ⟨x, y, rr, e3, h⟩ := h; subst e3
          exact zs_icmp_le hd (of_decide_eq_true e2) (fun c => jump _ _ _ _ ((if_pos c).symm.trans h)) (fun c => next _ _ _ ((if_neg c).symm.trans h))
        | gt =>
          dsimp only at h
          replace h := zz_i2_ok h; obtain ⟨x, y, rr, e3, h⟩ := h; subst e3
          exact zs_icmp_gt hd (of_decide_eq_true e2) (fun c => next _ _ _ ((if_pos c).symm.trans h)) (fun c => jump _ _ _ _ ((if_neg c).symm.trans h))
      | if_acmp cnd off =>
        dsimp only at hc
        rw [Bool.and_eq_true, decide_eq_true_eq] at hc
        obtain ⟨e1, e2⟩ := hc; subst e1
        cases cnd with
        | eq =>
          dsimp only at h
          match sk, h with
          | [], h => cases h
          | [_], h => cases h
          | (u, y) :: (w', x) :: rr, h =>
            dsimp only at h
            replace h := zz_cn h; obtain ⟨hb, h⟩ := h
            rw [Bool.and_eq_true, Bool.and_eq_true] at hb
            obtain ⟨b1, b2, b3⟩ := hb
            have b1 := zz_bq b1; subst b1
            have b2 := Nat.le_of_ble_eq_true b2
            have b3 := Nat.le_of_ble_eq_true b3
            obtain ⟨k, rfl⟩ : ∃ k, u = 2 + k := ⟨u - 2, by omega⟩
            exact zs_acmp_eq hd (of_decide_eq_true e2) (by omega) (by omega) (fun c => jump _ _ _ _ ((if_pos c).symm.trans h)) (fun c => next _ _ _ ((if_neg c).symm.trans h))
        | ne =>
          dsimp only at h
          match sk, h with
          | [], h => cases h
          | [_], h => cases h
          | (u, y) :: (w', x) :: rr, h =>
            dsimp only at h
            replace h := zz_cn h; obtain ⟨hb, h⟩ := h
            rw [Bool.and_eq_true, Bool.and_eq_true] at hb
            obtain ⟨b1, b2, b3⟩ := hb
            have b1 := zz_bq b1; subst b1
            have b2 := Nat.le_of_ble_eq_true b2
            have b3 := Nat.le_of_ble_eq_true b3
            obtain ⟨k, rfl⟩ : ∃ k, u = 2 + k := ⟨u - 2, by omega⟩
            exact zs_acmp_ne hd (of_decide_eq_true e2) (by omega) (by omega) (fun c => next _ _ _ ((if_pos c).symm.trans h)) (fun c => jump _ _ _ _ ((if_neg c).symm.trans h))
      | ifnull off =>
        dsimp only at h hc
        rw [Bool.and_eq_true, decide_eq_true_eq] at hc
        obtain ⟨e1, e2⟩ := hc; subst e1
        match sk, h with
        | [], h => cases h
        | (u, x) :: rr, h =>
          dsimp only at h
          replace h := zz_cn h; obtain ⟨hb, h⟩ := h
          have h2 : 2 ≤ u := by
            rw [Bool.or_eq_true, Bool.and_eq_true] at hb
            rcases hb with ⟨hb, -⟩ | hb
            · exact Nat.le_of_ble_eq_true hb
            · have := zz_bq hb
              omega
          exact zs_ifnull hd (of_decide_eq_true e2) h2 (fun c => jump _ _ _ _ ((if_pos c).symm.trans h)) (fun c => next _ _ _ ((if_neg c).symm.trans h))
      | ifnonnull off =>
        dsimp only at h hc
        rw [Bool.and_eq_true, decide_eq_true_eq] at hc
        obtain ⟨e1, e2⟩ := hc; subst e1
        match sk, h with
        | [], h => cases h
        | (u, x) :: rr, h =>
          dsimp only at h
          replace h := zz_cn h; obtain ⟨hb, h⟩ := h
          have h2 : 2 ≤ u := by
            rw [Bool.or_eq_true, Bool.and_eq_true] at hb
            rcases hb with ⟨hb, -⟩ | hb
            · exact Nat.le_of_ble_eq_true hb
            · have := zz_bq hb
              omega
          exact zs_ifnonnull hd (of_decide_eq_true e2) h2 (fun c => next _ _ _ ((if_pos c).symm.trans h)) (fun c => jump _ _ _ _ ((if_neg c).symm.trans h))
      | tableswitch d lo hi offs =>
        dsimp only at h hc
        rw [Bool.and_eq_true, Bool.and_eq_true, decide_eq_true_eq] at hc
        obtain ⟨e1, ⟨e2, e3, e4⟩, e5⟩ := hc
        replace h := zz_i1_ok h; obtain ⟨x, rr, e6, h⟩ := h; subst e6
        have e5 := List.all_eq_true.mp e5
        have sw := zz_sw_ok (P := fun q => zz_At M q lv rr σ r τ) (fun q hq => jump q _ _ _ hq) tg v h
        refine zs_switch hd ⟨fun hx => ⟨a, of_decide_eq_true e1, ?_⟩, fun h1 h2 => ?_⟩
        · rcases sw with ⟨s1, s2⟩ | ⟨j, q, s1, s2, s3⟩
          · exact s2
          · exfalso
            have := (List.getElem?_eq_some_iff.mp s1).1
            omega
        · rcases sw with ⟨s1, s2⟩ | ⟨j, q, s1, s2, s3⟩
          · exact absurd (show v ≤ x ∧ x < v + (tg.length : Int) by omega) s1
          · have hj := (List.getElem?_eq_some_iff.mp s1).1
            have hjo : j < offs.size := by omega
            refine ⟨offs[j], q, ?_, ?_, s3⟩
            · rw [show (x - lo).toNat = j by omega]
              exact Array.getElem?_eq_getElem hjo
            · refine of_decide_eq_true (e5 (offs[j], q) ?_)
              refine List.mem_of_getElem? (i := j) ?_
              rw [List.getElem?_zip_eq_some]
              refine ⟨?_, s1⟩
              rw [Array.getElem?_toList]
              exact Array.getElem?_eq_getElem hjo
      | getfield i =>
        dsimp only at h hc
        rw [Bool.and_eq_true, decide_eq_true_eq] at hc
        obtain ⟨e1, hc⟩ := hc; subst e1
        obtain ⟨q, hq, hc⟩ := zz_obk_ok hc
        rw [Bool.and_eq_true, decide_eq_true_eq] at hc
        obtain ⟨⟨c1, c2, c3⟩, c4⟩ := hc
        match sk, h with
        | [], h => cases h
        | (u, x) :: rr, h =>
          dsimp only at h
          cases hb : Nat.beq u (2 + a) with
          | true =>
            rw [hb] at h
            have e2 := zz_bq hb; subst e2
            replace h := zz_ie h; obtain ⟨hx, h⟩ := h
            cases ho : Nat.beq o 1 with
            | true =>
              rw [ho] at h
              exact zs_getfo hq c1 (zz_wd_ok c4) c2 (c3 (zz_bq ho)) hx hd (next _ _ _ h)
            | false =>
              rw [ho] at h
              exact zs_getf hq c1 (zz_wd_ok c4) c2 hx hd (next _ _ _ h)
          | false =>
            rw [hb] at h
            replace h := zz_cn h; obtain ⟨hw, h⟩ := h
            have e2 := zz_bq hw; subst e2
            cases ho : Nat.beq o 1 with
            | true =>
              rw [ho] at h
              replace h := zz_it h; obtain ⟨hx, h⟩ := h
              exact zs_getfw hq c1 (zz_wd_ok c4) c2 hd (by rw [hx]; exact next _ _ _ h)
            | false =>
              rw [ho] at h
              exact zs_getfw hq c1 (zz_wd_ok c4) c2 hd (next _ _ _ h)
      | putfield i =>
        dsimp only at h hc
        rw [Bool.and_eq_true, decide_eq_true_eq] at hc
        obtain ⟨e1, hc⟩ := hc; subst e1
        obtain ⟨q, hq, hc⟩ := zz_obk_ok hc
        rw [Bool.and_eq_true, Bool.and_eq_true, decide_eq_true_eq] at hc
        obtain ⟨⟨c1, c2, c3, c4, c5⟩, c6, c7⟩ := hc
        match sk, h with
        | [], h => cases h
        | [_], h => cases h
        | (u', w') :: (u, x) :: rr, g =>
          dsimp only at g
          replace g := zz_st_ok g; obtain ⟨e2, hz, g⟩ := g
          subst e2
          replace g := zz_cn g; obtain ⟨hs, g⟩ := g
          cases hb : (Nat.beq u (2 + a) && !Nat.beq o 1) with
          | true =>
            rw [hb] at g
            rw [Bool.and_eq_true] at hb
            obtain ⟨b1, b2⟩ := hb
            replace g := zz_ie g; obtain ⟨hx, g⟩ := g
            have b3 : ¬ o = 1 := by
              intro e
              subst e
              cases b2
            exact zs_put hq c3 c1 (zz_wd_ok c7) c2 c6 c4 (zz_bq hs) hz (Or.inl ⟨zz_bq b1, hx, fun y hy => (c5.resolve_left b3) y hy⟩) hd (next _ _ _ g)
          | false =>
            rw [hb] at g
            replace g := zz_cn g; obtain ⟨b1, g⟩ := g
            replace g := zz_ie g; obtain ⟨hx, g⟩ := g
            refine zs_put hq c3 c1 (zz_wd_ok c7) c2 c6 c4 (zz_bq hs) hz (Or.inr ⟨zz_bq b1, fun ⟨y, hy, e⟩ => ?_⟩) hd (next _ _ _ g)
            rcases c5 with c5 | c5
            · subst c5
              exact Classical.byContradiction fun z => hx ⟨rfl, z⟩
            · exact absurd e (c5 y hy)
      | getstatic i =>
        dsimp only at h hc
        rw [Bool.and_eq_true, decide_eq_true_eq] at hc
        obtain ⟨e1, hc⟩ := hc; subst e1
        rw [Bool.or_eq_true, Bool.and_eq_true, Bool.and_eq_true, decide_eq_true_eq, decide_eq_true_eq] at hc
        rcases hc with ⟨c1, c2⟩ | ⟨c1, c2⟩
        · subst c1
          exact zs_gets (Or.inl ⟨rfl, rfl⟩) (zz_wd_ok c2) hd (next _ _ _ h)
        · subst c1
          exact zs_gets (Or.inr ⟨rfl, rfl⟩) (zz_wd_ok c2) hd (next _ _ _ h)
      | iaload =>
        dsimp only at h hc
        rw [Bool.and_eq_true, decide_eq_true_eq] at hc
        obtain ⟨⟨e1, e2⟩, hc⟩ := hc; subst e1
        obtain ⟨c1, c2, c3⟩ := of_decide_eq_true hc
        obtain ⟨j, r1, e3, h1⟩ := zz_i1_ok h
        obtain ⟨x, r2, e4, h2⟩ := zz_a1_ok h1
        subst e4; subst e3
        obtain ⟨hx, h3⟩ := zz_ie h2
        obtain ⟨hj, h4⟩ := zz_it h3
        exact zs_iald ⟨c1, c2⟩ c3 e2.symm hx hj hd (next _ _ _ h4)
      | baload =>
        dsimp only at h hc
        rw [Bool.and_eq_true, decide_eq_true_eq] at hc
        obtain ⟨⟨e1, e2⟩, hc⟩ := hc; subst e1
        obtain ⟨c1, c2, c3⟩ := of_decide_eq_true hc
        obtain ⟨j, r1, e3, h1⟩ := zz_i1_ok h
        obtain ⟨x, r2, e4, h2⟩ := zz_a1_ok h1
        subst e4; subst e3
        obtain ⟨hx, h3⟩ := zz_ie h2
        obtain ⟨hj, h4⟩ := zz_it h3
        exact zs_zald ⟨c1, c2⟩ c3 e2.symm hx hj hd (next _ _ _ h4)
      | aaload =>
        dsimp only at h hc
        obtain ⟨e1, c1, c2, c3, c4⟩ := of_decide_eq_true hc; subst e1
        obtain ⟨j, r1, e3, h1⟩ := zz_i1_ok h
        obtain ⟨x, r2, e4, h2⟩ := zz_a1_ok h1
        subst e4; subst e3
        obtain ⟨hx, h3⟩ := zz_ie h2
        obtain ⟨hj, h4⟩ := zz_it h3
        exact zs_aald ⟨c1, c2⟩ c3 c4 hx hj hd (next _ _ _ h4)
      | iastore =>
        dsimp only at h hc
        rw [Bool.and_eq_true, decide_eq_true_eq] at hc
        obtain ⟨⟨e1, e2, e5, e6⟩, hc⟩ := hc; subst e1
        obtain ⟨c1, c2, c3⟩ := of_decide_eq_true hc
        obtain ⟨w', r0, e7, h0⟩ := zz_i1_ok h
        obtain ⟨j, r1, e3, h1⟩ := zz_i1_ok h0
        obtain ⟨x, r2, e4, h2⟩ := zz_a1_ok h1
        subst e4; subst e3; subst e7
        obtain ⟨hs, h2⟩ := zz_cn h2
        obtain ⟨hx, h3⟩ := zz_ie h2
        obtain ⟨hj, h4⟩ := zz_it h3
        exact zs_iast ⟨c1, c2, e5, e6⟩ c3 e2.symm rfl (zz_bq hs) hx hj hd (next _ _ _ h4)
      | bastore =>
        dsimp only at h hc
        rw [Bool.and_eq_true, decide_eq_true_eq] at hc
        obtain ⟨⟨e1, e2, e5, e6⟩, hc⟩ := hc; subst e1
        obtain ⟨c1, c2, c3⟩ := of_decide_eq_true hc
        obtain ⟨w', r0, e7, h0⟩ := zz_i1_ok h
        obtain ⟨j, r1, e3, h1⟩ := zz_i1_ok h0
        obtain ⟨x, r2, e4, h2⟩ := zz_a1_ok h1
        subst e4; subst e3; subst e7
        obtain ⟨hs, h2⟩ := zz_cn h2
        obtain ⟨hx, h3⟩ := zz_ie h2
        obtain ⟨hj, h4⟩ := zz_it h3
        obtain ⟨hw, h5⟩ := zz_it h4
        exact zs_zast ⟨c1, c2, e5, e6⟩ c3 e2.symm rfl (zz_bq hs) hx hj hw hd (next _ _ _ h5)
      | aastore =>
        dsimp only at h hc
        rw [Bool.and_eq_true, decide_eq_true_eq] at hc
        obtain ⟨⟨e1, c1, c2, e5, e6, c3, c4⟩, hc⟩ := hc; subst e1
        obtain ⟨q, hq, hc⟩ := zz_obk_ok hc
        obtain ⟨w', r0, e7, h0⟩ := zz_a1_ok h
        obtain ⟨j, r1, e3, h1⟩ := zz_i1_ok h0
        obtain ⟨x, r2, e4, h2⟩ := zz_a1_ok h1
        subst e4; subst e3; subst e7
        obtain ⟨hs, h2⟩ := zz_cn h2
        obtain ⟨hx, h3⟩ := zz_ie h2
        obtain ⟨hj, h4⟩ := zz_it h3
        obtain ⟨hw, h5⟩ := zz_ie h4
        exact zs_aast ⟨c1, c2, e5, e6⟩ c3 c4 hq (of_decide_eq_true hc) (zz_bq hs) hx hj hw hd (next _ _ _ h5)
      | arraylength =>
        dsimp only at h hc
        obtain ⟨e1, c1, c2⟩ := of_decide_eq_true hc; subst e1
        obtain ⟨x, r2, e4, h2⟩ := zz_a1_ok h
        subst e4
        obtain ⟨hx, h3⟩ := zz_ie h2
        exact zs_alen ⟨c1, c2⟩ hx hd (next _ _ _ h3)
      | new i =>
        dsimp only at h hc
        rw [Bool.and_eq_true, Bool.and_eq_true, decide_eq_true_eq] at hc
        obtain ⟨⟨e1, e2⟩, c1, hc⟩ := hc; subst e1
        obtain ⟨q, hq, hc⟩ := zz_obk_ok hc
        replace h := zz_cn h; obtain ⟨hs, h⟩ := h
        rw [Bool.or_eq_true] at hs
        exact zs_new hq e2 c1 (zz_wd_ok hc) (hs.imp zz_bq zz_bq) hd (next _ _ _ h)
      | newarray aty =>
        dsimp only at h hc
        obtain ⟨e1, c1, c2, c3, c4, c5, c6, c7, c8, c9⟩ := of_decide_eq_true hc; subst e1
        obtain ⟨x, r1, e3, h1⟩ := zz_i1_ok h
        subst e3
        obtain ⟨hs, h2⟩ := zz_cn h1
        obtain ⟨hx, h3⟩ := zz_it h2
        have hw : Jvm.Cond.arrayClass (newarray.typeOf aty) ∈ zz_tb := by
          rcases c7 with rfl | rfl
          · exact hac1
          · exact hac2
        exact zs_newa ⟨c1, c3, c4, c5⟩ ⟨c7, c8⟩ c2 c6 hw (zz_bq hs) hx c9 hd (next _ _ _ h3)
      | anewarray i =>
        dsimp only at h hc
        rw [Bool.and_eq_true, decide_eq_true_eq] at hc
        obtain ⟨⟨e1, c1, c3, c4, c5, c6, c9⟩, hc⟩ := hc; subst e1
        obtain ⟨x, r1, e3, h1⟩ := zz_i1_ok h
        subst e3
        obtain ⟨hs, h2⟩ := zz_cn h1
        obtain ⟨hx, h3⟩ := zz_it h2
        have c0 : zz_ar a ≠ 0 := by rw [c1]; decide
        rw [Bool.or_eq_true, Bool.and_eq_true, Bool.and_eq_true, decide_eq_true_eq, decide_eq_true_eq] at hc
        rcases hc with ⟨d1, d2⟩ | ⟨d1, d2⟩
        · exact zs_anew ⟨c0, c3, c4, c5⟩ d1 (Or.inl rfl) c6 (zz_wd_ok d2) (zz_bq hs) hx c9 hd (next _ _ _ h3)
        · exact zs_anew ⟨c0, c3, c4, c5⟩ d1 (Or.inr rfl) c6 (zz_wd_ok d2) (zz_bq hs) hx c9 hd (next _ _ _ h3)
      | invokestatic i =>
        dsimp only at h hc
        rw [Bool.and_eq_true, decide_eq_true_eq] at hc
        obtain ⟨e1, hc⟩ := hc; subst e1
        obtain ⟨I, i1, i2, i3, i4, hc⟩ := zz_ca_ok hc
        rw [Bool.and_eq_true, Bool.and_eq_true] at hc
        obtain ⟨c1, c2, c3⟩ := hc
        obtain ⟨m1, m2⟩ := zz_mck_ok c1
        cases hta : zz_ta tg sk [] with
        | none => rw [hta] at h; cases h
        | some z =>
          obtain ⟨vs, rr⟩ := z
          rw [hta] at h
          replace h := zz_cn h; obtain ⟨b1, h⟩ := h
          replace h := Option.bind_eq_some_iff.mp h; obtain ⟨⟨q, σ2⟩, d1, h⟩ := h
          obtain ⟨I', j1, j2⟩ := hCE _ _ _ _ _ d1
          cases i1.symm.trans j1
          subst i2
          have hl : Jvm.Cond.methodLink (zm_own M) i I.1 ∈ zz_tb ∨ ∃ host, (zm_own M, i, I.1, host) ∈ zz_nm := by
            rw [Bool.or_eq_true] at c3
            rcases c3 with c3 | c3
            · exact Or.inr ⟨_, of_decide_eq_true c3⟩
            · exact Or.inl (zz_wd_ok c3)
          refine zs_static j2 m2 i4 hta (Nat.le_of_ble_eq_true b1) m1 rfl (zz_wd_ok c2) hl hd ?_
          rw [← i3]
          cases ht : Nat.beq t 999 with
          | true =>
            rw [ht] at h
            rw [if_pos (zz_bq ht)]
            exact next _ _ _ h
          | false =>
            rw [ht] at h
            rw [if_neg (zz_bn ht)]
            exact next _ _ _ h
      | invokevirtual i =>
        dsimp only at h hc
        rw [Bool.and_eq_true, decide_eq_true_eq] at hc
        obtain ⟨e1, hc⟩ := hc; subst e1
        obtain ⟨I, i1, i2, i3, i4, hc⟩ := zz_ca_ok hc
        rw [Bool.and_eq_true, Bool.and_eq_true, Bool.and_eq_true, Bool.and_eq_true] at hc
        obtain ⟨c1, c2, c3, c4, c5⟩ := hc
        obtain ⟨m1, m2⟩ := zz_mck_ok c1
        cases hta : zz_ta tg sk [] with
        | none => rw [hta] at h; cases h
        | some z =>
          obtain ⟨vs, rr⟩ := z
          rw [hta] at h
          cases vs with
          | nil => cases h
          | cons x xs =>
            replace h := zz_cn h; obtain ⟨b1, h⟩ := h
            replace h := zz_ie h; obtain ⟨hx, h⟩ := h
            replace h := Option.bind_eq_some_iff.mp h; obtain ⟨⟨q, σ2⟩, d1, h⟩ := h
            obtain ⟨I', j1, j2⟩ := hCE _ _ _ _ _ d1
            cases i1.symm.trans j1
            subst i2
            cases hpt : I.2.2.1 with
            | nil => rw [hpt] at c2; cases c2
            | cons u us =>
              rw [hpt] at c2
              dsimp only at c2
              rw [Bool.and_eq_true, decide_eq_true_eq] at c2
              obtain ⟨c6, c7⟩ := c2
              obtain ⟨Cq, hq, c8⟩ := zz_obk_ok c7
              have eu : u = 2 + (u - 2) := by omega
              refine zs_virtual (pt := I.2.2.1) (k := u - 2) (us := us) (by rw [hpt, ← eu]) rfl hx hq (of_decide_eq_true c8) j2 m2 i4 hta (Nat.le_of_ble_eq_true b1) m1 (by rw [hpt]; simp) (zz_wd_ok c3) (fun s args hw => hw _ (zz_wd_ok c4)) (zz_wd_ok c5) hd ?_
              rw [← i3]
              cases ht : Nat.beq t 999 with
              | true =>
                rw [ht] at h
                rw [if_pos (zz_bq ht)]
                exact next _ _ _ h
              | false =>
                rw [ht] at h
                rw [if_neg (zz_bn ht)]
                exact next _ _ _ h
      | invokespecial i =>
        dsimp only at h hc
        rw [Bool.and_eq_true, decide_eq_true_eq] at hc
        obtain ⟨e1, hc⟩ := hc; subst e1
        cases ha : Nat.beq a 0 with
        | true =>
          rw [ha] at h
          rw [if_pos (zz_bq ha), Bool.and_eq_true, decide_eq_true_eq] at hc
          match sk, h with
          | [], h => cases h
          | (u, x) :: rr, h =>
            dsimp only at h
            replace h := zz_cn h; obtain ⟨b1, h⟩ := h
            rw [Bool.and_eq_true, Bool.and_eq_true] at b1
            exact zs_objinit ⟨Nat.le_of_ble_eq_true b1.1, Nat.le_of_ble_eq_true b1.2.1⟩ (Nat.le_of_ble_eq_true b1.2.2) hc.1 (zz_wd_ok hc.2) hob1 hob2 hd (next _ _ _ h)
        | false =>
          rw [ha] at h
          rw [if_neg (zz_bn ha)] at hc
          obtain ⟨I, i1, i2, i3, i4, hc⟩ := zz_ca_ok hc
          rw [Bool.and_eq_true, Bool.and_eq_true, Bool.and_eq_true, decide_eq_true_eq] at hc
          obtain ⟨c1, ⟨c2, c3, c4, c5, c6⟩, c7, c8⟩ := hc
          obtain ⟨m1, m2⟩ := zz_mck_ok c1
          cases hta : zz_ta tg sk [] with
          | none => rw [hta] at h; cases h
          | some z =>
            obtain ⟨vs, rr⟩ := z
            rw [hta] at h
            cases vs with
            | nil => cases h
            | cons x xs =>
              replace h := zz_cn h; obtain ⟨b1, h⟩ := h
              replace h := Option.bind_eq_some_iff.mp h; obtain ⟨⟨q, σ2⟩, d1, h⟩ := h
              replace h := zz_it h; obtain ⟨hcm, h⟩ := h
              obtain ⟨I', j1, j2⟩ := hCE _ _ _ _ _ d1
              cases i1.symm.trans j1
              subst i2
              cases hpt : I.2.2.1 with
              | nil => rw [hpt] at c6; cases c6
              | cons u us =>
                rw [hpt] at c6
                cases c6
                have hl : Jvm.Cond.methodLink (zm_own M) i I.1 ∈ zz_tb ∨ ∃ host, (zm_own M, i, I.1, host) ∈ zz_nm := by
                  rw [Bool.or_eq_true] at c8
                  rcases c8 with c8 | c8
                  · exact Or.inr ⟨_, of_decide_eq_true c8⟩
                  · exact Or.inl (zz_wd_ok c8)
                exact zs_special (pt := I.2.2.1) (k := b) (us := us) hpt rfl c2 hcm j2 m2 i4 c3 hta (Nat.le_of_ble_eq_true b1) m1 (by rw [hpt]; simp) (zz_wd_ok c7) c5 c4 hl hd (next _ _ _ h)
      | ireturn =>
        dsimp only at h hc
        have e1 := of_decide_eq_true hc; subst e1
        match sk, h with
        | [], h => cases h
        | [(u, x)], h =>
          replace h := zz_cn h; obtain ⟨b1, h⟩ := h
          rw [Bool.and_eq_true] at b1
          have b2 := zz_bq b1.1; subst b2
          cases hrb : zm_rb M with
          | true =>
            rw [hrb] at h
            replace h := zz_it h; obtain ⟨hx, h⟩ := h
            cases h
            exact zs_ireturn (zz_bq b1.2) (fun _ => hx) hd
          | false =>
            rw [hrb] at h
            cases h
            exact zs_ireturn (zz_bq b1.2) (fun z => by rw [hrb] at z; cases z) hd
        | _ :: _ :: _, h => cases h
      | areturn =>
        dsimp only at h hc
        obtain ⟨e1, e2⟩ := of_decide_eq_true hc; subst e1
        match sk, h with
        | [], h => cases h
        | [(u, x)], h =>
          replace h := zz_cn h; obtain ⟨b1, h⟩ := h
          rw [Bool.and_eq_true, Bool.and_eq_true, Bool.or_eq_true] at b1
          cases h
          exact zs_areturn ⟨Nat.le_of_ble_eq_true b1.2.1, Nat.le_of_ble_eq_true b1.2.2⟩ e2 (b1.1.imp zz_bq zz_bq) hd
        | _ :: _ :: _, h => cases h
      | return_ =>
        dsimp only at h hc
        obtain ⟨e1, e2, e3⟩ := of_decide_eq_true hc; subst e1
        match sk, h with
        | [], h =>
          replace h := zz_cn h; obtain ⟨b1, h⟩ := h
          cases hth : Nat.beq (zm_th M) 0 with
          | true =>
            rw [hth] at h
            cases h
            exact zs_return (zz_bq b1) e2 hd
          | false =>
            rw [hth] at h
            cases e : zz_lk lv 0 with
            | mk u x =>
              rw [e] at h
              replace h := zz_cn h; obtain ⟨b2, h⟩ := h
              replace h := zz_it h; obtain ⟨⟨b3, b4⟩, h⟩ := h
              have b5 := zz_bq b2; subst b5
              cases h
              obtain ⟨f1, f2, f3⟩ := e3.resolve_left (zz_bn hth)
              exact zs_returnC (zz_bq b1) e2 ⟨f1, f2⟩ f3 e b3 b4 hd
        | _ :: _, h => cases h
      | _ => exact absurd h (by dsimp only; exact fun z => by cases z)
