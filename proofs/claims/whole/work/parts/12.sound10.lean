/-! THE CHECK OF A CODE TABLE, and what it gives -/
abbrev zz_I : Type := MethodName × zz_M × List Nat × (Nat × Nat × Nat × Nat)
def zz_in (z : Int) : Bool := decide (-2147483648 ≤ z ∧ z < 2147483648)
def zz_inL (z : Int) : Bool := decide (-9223372036854775808 ≤ z ∧ z < 9223372036854775808)
def zz_wd (w : Nat) (c : Jvm.Cond) : Bool := decide (lw_tbl[w]? = some c) && goodWord c
theorem zz_wd_ok {w : Nat} {c : Jvm.Cond} (h : zz_wd w c = true) : c ∈ zz_tb := by
  unfold zz_wd at h
  rw [Bool.and_eq_true, decide_eq_true_eq] at h
  exact List.mem_filter.mpr ⟨List.mem_of_getElem? h.1, h.2⟩
def zz_obk (k : Nat) (f : vw_C → Bool) : Bool := match zz_vw[zz_cl k]? with
  | some q => decide (zz_ar k = 0 ∧ q.2.2 = zz_len k ∧ k ≤ 900) && f q
  | none => false
theorem zz_obk_ok {k : Nat} {f : vw_C → Bool} (h : zz_obk k f = true) : ∃ q, zz_ob k q ∧ f q = true := by
  unfold zz_obk at h
  cases e : zz_vw[zz_cl k]? with
  | none => rw [e] at h; cases h
  | some q =>
    rw [e] at h
    dsimp only at h
    rw [Bool.and_eq_true, decide_eq_true_eq] at h
    exact ⟨q, ⟨h.1.1, e, h.1.2.1, h.1.2.2⟩, h.2⟩
def zz_jp (pc : Nat) (off : Int) (q : Nat) : Bool := decide ((pc : Int) + off = (q : Int))
/-- an array kind of one of the three sorts -/
def zz_ak (k n : Nat) (ty : FieldType) : Bool := decide (zz_ar k = n ∧ k ≤ 900 ∧ zz_aty k = ty)
/-- the method's own row -/
def zz_mck (M : zz_M) (I : zz_I) (n : Nat) : Bool := match I with
  | (y, M', _, (wc, wi, _, _)) => decide (zm_h M' + 1 ≤ zm_h M ∧ zm_l M' ≤ 7 ∧ (zm_sd M' = zm_sd M ∨ zm_sd M = 2) ∧ y.cls ≠ "java/lang/invoke/MethodHandle" ∧ y.cls ≠ "java/lang/invoke/VarHandle" ∧ (parseMethodDescriptor y.desc).map (fun d => d.parameters.length) = some n) && (zz_wd wc (Jvm.Cond.code y (zm_b M') (zm_l M') (zm_ret M')) && zz_wd wi (Jvm.Cond.initialized y.cls))
theorem zz_mck_ok {M : zz_M} {I : zz_I} {n : Nat} (h : zz_mck M I n = true) : zz_cd M I.2.1 I.1 I.2.2.1 n ∧ (zm_sd I.2.1 = zm_sd M ∨ zm_sd M = 2) := by
  obtain ⟨y, M', pt, wc, wi, w3, w4⟩ := I
  unfold zz_mck at h
  dsimp only at h
  rw [Bool.and_eq_true, Bool.and_eq_true, decide_eq_true_eq] at h
  obtain ⟨⟨h1, h2, h3, h4, h5, h6⟩, h7, h8⟩ := h
  exact ⟨⟨h1, h2, zz_wd_ok h7, zz_wd_ok h8, h4, h5, h6⟩, h3⟩
def zz_rrB (M : zz_M) : Bool := match zm_ret M with
  | none => decide (zm_rt M = 999)
  | some .int => decide (zm_rt M = 0)
  | some .boolean => decide (zm_rt M = 0) && zm_rb M
  | some (.object _) => decide (2 ≤ zm_rt M ∧ zm_rt M ≤ 900)
  | _ => false
theorem zz_rrB_ok {M : zz_M} (h : zz_rrB M = true) : zz_rr M := by
  unfold zz_rrB at h
  split at h
  · exact Or.inl ⟨of_decide_eq_true h, by assumption⟩
  · exact Or.inr (Or.inl ⟨of_decide_eq_true h, by assumption⟩)
  · rw [Bool.and_eq_true] at h
    exact Or.inr (Or.inr (Or.inl ⟨of_decide_eq_true h.1, by assumption, h.2⟩))
  · obtain ⟨h1, h2⟩ := of_decide_eq_true h
    exact Or.inr (Or.inr (Or.inr ⟨h1, h2, _, by assumption⟩))
  · cases h
def zz_ca (inf : Nat → Option zz_I) (a : Nat) (t : Nat) (tg : List Nat) (f : zz_I → Bool) : Bool := match inf a with
  | some I => decide (I.2.2.1.reverse = tg ∧ zm_rt I.2.1 = t) && (zz_rrB I.2.1 && f I)
  | none => false
theorem zz_ca_ok {inf : Nat → Option zz_I} {a t : Nat} {tg : List Nat} {f : zz_I → Bool} (h : zz_ca inf a t tg f = true) : ∃ I, inf a = some I ∧ tg = I.2.2.1.reverse ∧ t = zm_rt I.2.1 ∧ zz_rr I.2.1 ∧ f I = true := by
  unfold zz_ca at h
  cases e : inf a with
  | none => rw [e] at h; cases h
  | some I =>
    rw [e] at h
    dsimp only at h
    rw [Bool.and_eq_true, Bool.and_eq_true, decide_eq_true_eq] at h
    exact ⟨I, rfl, h.1.1.symm, h.1.2.symm, zz_rrB_ok h.2.1, h.2.2⟩
def zz_ck (inf : Nat → Option zz_I) (M : zz_M) : zz_E → Bool
  | (pc, _, ins, ln, w, (a, b, t, o), v, tg) => decide (decode (zm_b M) pc = .ok (ins, ln)) && (match ins with
    | .aconst_null => decide (ln = 1)
    | .iconst i => decide (ln = 1) && zz_in i
    | .bipush i => decide (ln = 2 ∧ (Int8.ofInt i).toInt32 = Int32.ofInt i) && zz_in i
    | .sipush i => decide (ln = 3 ∧ (Int16.ofInt i).toInt32 = Int32.ofInt i) && zz_in i
    | .lconst i => decide (ln = 1 ∧ Int64.ofNat i.val = Int64.ofInt v) && zz_inL v
    | .ldc i => decide (ln = 2) && (zz_in v && zz_wd w (.constant (zm_own M) i (Int32.ofInt v)))
    | .ldc_w i => decide (ln = 3) && (zz_in v && zz_wd w (.constant (zm_own M) i (Int32.ofInt v)))
    | .ldc2_w i => decide (ln = 3) && (zz_inL v && zz_wd w (.constantLong (zm_own M) i (Int64.ofInt v)))
    | .iload _ => decide (ln = 2)
    | .iload_n _ => decide (ln = 1)
    | .aload _ => decide (ln = 2)
    | .aload_n _ => decide (ln = 1)
    | .istore i => decide (ln = 2 ∧ i < zm_l M)
    | .istore_n i => decide (ln = 1 ∧ i.val < zm_l M)
    | .astore i => decide (ln = 2 ∧ i < zm_l M)
    | .astore_n i => decide (ln = 1 ∧ i.val < zm_l M)
    | .iinc i _ => decide (ln = 3 ∧ i < zm_l M)
    | .goto off => decide (ln = 3) && zz_jp pc off a
    | .ifCond _ off => decide (ln = 3) && zz_jp pc off a
    | .if_icmp _ off => decide (ln = 3) && zz_jp pc off a
    | .if_acmp _ off => decide (ln = 3) && zz_jp pc off a
    | .ifnull off => decide (ln = 3) && zz_jp pc off a
    | .ifnonnull off => decide (ln = 3) && zz_jp pc off a
    | .tableswitch d lo hi offs => zz_jp pc d a && (decide (v = lo ∧ hi = lo + (offs.size : Int) - 1 ∧ tg.length = offs.size) && (offs.toList.zip tg).all fun q => zz_jp pc q.1 q.2)
    | .getfield i => decide (ln = 3) && zz_obk a fun q => decide (b < zz_len a ∧ t = zz_tg a b ∧ (o = 1 → (b, t - 2) ∈ zz_own a)) && zz_wd w (.fieldLink (zm_own M) i (q.2.1 b).1 (q.2.1 b).2.1 (q.2.1 b).2.2.1)
    | .putfield i => decide (ln = 3) && zz_obk a fun q => decide (b < zz_len a ∧ t = zz_tg a b ∧ 3 ≤ a ∧ ((q.2.1 b).2.2.2 = true → zm_th M ≠ 0 ∧ (q.2.1 b).1 = zm_own M) ∧ (o = 1 ∨ ∀ x ∈ zz_own a, ¬ b = x.1)) && (zz_fk (zz_ft (zz_cl a) b) t v && zz_wd w (.fieldLink (zm_own M) i (q.2.1 b).1 (q.2.1 b).2.1 (q.2.1 b).2.2.1))
    | .getstatic i => decide (ln = 3) && ((decide (a = 1) && zz_wd w (.fieldLink (zm_own M) i "CinemaClock$Calendar" "MONTH_STARTS" "[I")) || (decide (a = 2) && zz_wd w (.fieldLink (zm_own M) i "CinemaClock$Calendar" "LAST_A" "[I")))
    | .iaload => decide (ln = 1 ∧ zz_et a = 0) && zz_ak a 1 .int
    | .baload => decide (ln = 1 ∧ zz_et a = 0) && zz_ak a 2 .boolean
    | .aaload => decide (ln = 1 ∧ zz_ar a = 3 ∧ a ≤ 900 ∧ (zz_aty a).isReference = true ∧ t = zz_et a)
    | .iastore => decide (ln = 1 ∧ zz_et a = 0 ∧ 3 ≤ a ∧ zz_own a = []) && zz_ak a 1 .int
    | .bastore => decide (ln = 1 ∧ zz_et a = 0 ∧ 3 ≤ a ∧ zz_own a = []) && zz_ak a 2 .boolean
    | .aastore => decide (ln = 1 ∧ zz_ar a = 3 ∧ a ≤ 900 ∧ 3 ≤ a ∧ zz_own a = [] ∧ t = zz_et a ∧ 2 ≤ t) && zz_obk (t - 2) fun q => decide (zz_aty a = .object q.1)
    | .arraylength => decide (ln = 1 ∧ zz_ar a ≠ 0 ∧ a ≤ 900)
    | .new i => decide (ln = 3 ∧ 3 ≤ a ∧ a < 92) && (zz_dv a && zz_obk a fun q => zz_wd w (.classLink (zm_own M) i q.1))
    | .newarray aty => decide (ln = 2 ∧ zz_ar a ≠ 0 ∧ zz_ar a ≠ 3 ∧ a ≤ 900 ∧ 3 ≤ a ∧ zz_own a = [] ∧ zz_et a = 0 ∧ (aty = .int ∨ aty = .boolean) ∧ newarray.typeOf aty = zz_aty a ∧ zz_len a ≤ 3000)
    | .anewarray i => decide (ln = 3 ∧ zz_ar a = 3 ∧ a ≤ 900 ∧ 3 ≤ a ∧ zz_own a = [] ∧ 2 ≤ zz_et a ∧ zz_len a ≤ 3000) && ((decide (zz_aty a = .object RX6) && zz_wd w (.classLink (zm_own M) i RX6)) || (decide (zz_aty a = .object RX5) && zz_wd w (.classLink (zm_own M) i RX5)))
    | .invokestatic i => decide (ln = 3) && zz_ca inf a t tg fun I => zz_mck M I I.2.2.1.length && (zz_wd I.2.2.2.2.2.1 (.static I.1) && (decide ((zm_own M, i, I.1, "CinemaClock") ∈ zz_nm) || zz_wd w (.methodLink (zm_own M) i I.1)))
    | .invokevirtual i => decide (ln = 3) && zz_ca inf a t tg fun I => zz_mck M I (I.2.2.1.length - 1) && ((match I.2.2.1 with | [] => false | u :: _ => decide (2 ≤ u) && zz_obk (u - 2) fun q => decide (I.1.cls = q.1)) && (zz_wd I.2.2.2.2.2.1 (.instanceMethod I.1) && (zz_wd I.2.2.2.2.2.2 (.selects I.1.cls I.1 I.1) && zz_wd w (.methodLink (zm_own M) i I.1))))
    | .invokespecial i => decide (ln = 3) && (if a = 0 then decide (1 ≤ zm_h M) && zz_wd w (.methodLink (zm_own M) i objectInit) else
        zz_ca inf a t tg fun I => zz_mck M I (I.2.2.1.length - 1) && (decide (b ≤ 900 ∧ zm_rt I.2.1 = 999 ∧ zm_ret I.2.1 = none ∧ I.1.name = "<init>" ∧ I.2.2.1.head? = some (1000 + b)) && (zz_wd I.2.2.2.2.2.1 (.instanceMethod I.1) && (decide ((zm_own M, i, I.1, "CinemaClock") ∈ zz_nm) || zz_wd w (.methodLink (zm_own M) i I.1)))))
    | .areturn => decide (ln = 1 ∧ zm_rb M = false)
    | .return_ => decide (ln = 1 ∧ zm_rb M = false ∧ (zm_th M = 0 ∨ (zm_th M ≤ 900 ∧ zz_ar (zm_th M) = 0 ∧ zz_sd (zm_th M) = zm_sd M)))
    | _ => decide (ln = 1))
/-- the entries stand one behind the other -/
def zz_ch : List zz_E → Bool
  | [] => true
  | e :: r => (match r with | [] => true | e2 :: _ => decide (e2.1 = e.1 + e.2.2.2.1)) && zz_ch r
theorem zz_i1_ok {sk : List zz_V} {f : Int → List zz_V → zz_R} {z : Int × zz_S} (h : zz_i1 sk f = some z) : ∃ x r, sk = (0, x) :: r ∧ f x r = some z := by
  unfold zz_i1 at h
  split at h
  · cases h
  · rename_i t x r
    cases hb : Nat.beq t 0 with
    | false => rw [hb] at h; cases h
    | true =>
      rw [hb] at h
      have := Nat.eq_of_beq_eq_true hb
      subst this
      exact ⟨x, r, rfl, h⟩
theorem zz_i2_ok {sk : List zz_V} {f : Int → Int → List zz_V → zz_R} {z : Int × zz_S} (h : zz_i2 sk f = some z) : ∃ x y r, sk = (0, y) :: (0, x) :: r ∧ f x y r = some z := by
  obtain ⟨y, r1, e1, h1⟩ := zz_i1_ok h
  obtain ⟨x, r2, e2, h2⟩ := zz_i1_ok h1
  exact ⟨x, y, r2, by rw [e1, e2], h2⟩
theorem zz_a1_ok {u : Nat} {sk : List zz_V} {f : Int → List zz_V → zz_R} {z : Int × zz_S} (h : zz_a1 u sk f = some z) : ∃ x r, sk = (u, x) :: r ∧ f x r = some z := by
  unfold zz_a1 at h
  split at h
  · cases h
  · rename_i t x r
    cases hb : Nat.beq t u with
    | false => rw [hb] at h; cases h
    | true =>
      rw [hb] at h
      have := Nat.eq_of_beq_eq_true hb
      subst this
      exact ⟨x, r, rfl, h⟩
theorem zz_cn {b : Bool} {x : zz_R} {z : Int × zz_S} (h : cond b x none = some z) : b = true ∧ x = some z := by
  cases b with
  | false => cases h
  | true => exact ⟨rfl, h⟩
theorem zz_nc' {b : Bool} {x : zz_R} {z : Int × zz_S} (h : cond b none x = some z) : b = false ∧ x = some z := by
  cases b with
  | true => cases h
  | false => exact ⟨rfl, h⟩
theorem zz_it {c : Prop} {d : Decidable c} {x : zz_R} {z : Int × zz_S} (h : (@ite zz_R c d x none) = some z) : c ∧ x = some z := by
  by_cases hc : c
  · rw [if_pos hc] at h
    exact ⟨hc, h⟩
  · rw [if_neg hc] at h
    cases h
theorem zz_ie {c : Prop} {d : Decidable c} {x : zz_R} {z : Int × zz_S} (h : (@ite zz_R c d none x) = some z) : ¬ c ∧ x = some z := by
  by_cases hc : c
  · rw [if_pos hc] at h
    cases h
  · rw [if_neg hc] at h
    exact ⟨hc, h⟩
theorem zz_bq {a b : Nat} (h : Nat.beq a b = true) : a = b := Nat.eq_of_beq_eq_true h
theorem zz_bn {a b : Nat} (h : Nat.beq a b = false) : a ≠ b := fun e => by rw [e, Nat.beq_refl] at h; cases h
theorem zz_sk_ok : ∀ (cs : List zz_E) (q : Nat), zz_sk cs q = [] ∨ ∃ e es, zz_sk cs q = e :: es ∧ e.1 = q ∧ (e :: es) <:+ cs
  | [], _ => Or.inl rfl
  | e :: es, q => by
    unfold zz_sk
    cases hb : Nat.beq e.1 q with
    | true => exact Or.inr ⟨e, es, rfl, zz_bq hb, List.suffix_refl _⟩
    | false =>
      rcases zz_sk_ok es q with h | ⟨e', es', h1, h2, h3⟩
      · exact Or.inl h
      · exact Or.inr ⟨e', es', h1, h2, h3.trans (List.suffix_cons e es)⟩
theorem zz_ch_ok : ∀ (cs : List zz_E) (e e2 : zz_E) (r : List zz_E), zz_ch cs = true → (e :: e2 :: r) <:+ cs → e2.1 = e.1 + e.2.2.2.1
  | [], _, _, _, _, hs => by
    have := hs.length_le
    simp at this
  | c :: cs, e, e2, r, h, hs => by
    unfold zz_ch at h
    rw [Bool.and_eq_true] at h
    rcases List.suffix_cons_iff.mp hs with hs | hs
    · cases hs
      exact of_decide_eq_true h.1
    · exact zz_ch_ok cs e e2 r h.2 hs
