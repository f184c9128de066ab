/-! FROM THE EVALUATOR TO THE BLOCKS: lists of callees and of places, wrappers by the number of arguments -/
def zz_f0 (g : zz_S → zz_R) : List Int → zz_S → zz_R := fun vs σ => match vs with
  | [] => g σ
  | _ => none
def zz_f1 (g : Int → zz_S → zz_R) : List Int → zz_S → zz_R := fun vs σ => match vs with
  | [a] => g a σ
  | _ => none
def zz_f2 (g : Int → Int → zz_S → zz_R) : List Int → zz_S → zz_R := fun vs σ => match vs with
  | [a, b] => g a b σ
  | _ => none
def zz_f3 (g : Int → Int → Int → zz_S → zz_R) : List Int → zz_S → zz_R := fun vs σ => match vs with
  | [a, b, c] => g a b c σ
  | _ => none
def zz_f4 (g : Int → Int → Int → Int → zz_S → zz_R) : List Int → zz_S → zz_R := fun vs σ => match vs with
  | [a, b, c, d] => g a b c d σ
  | _ => none
def zz_f5 (g : Int → Int → Int → Int → Int → zz_S → zz_R) : List Int → zz_S → zz_R := fun vs σ => match vs with
  | [a, b, c, d, e] => g a b c d e σ
  | _ => none
def zz_f6 (g : Int → Int → Int → Int → Int → Int → zz_S → zz_R) : List Int → zz_S → zz_R := fun vs σ => match vs with
  | [a, b, c, d, e, f] => g a b c d e f σ
  | _ => none
theorem zz_f0_ok {g : zz_S → zz_R} {vs : List Int} {σ : zz_S} {z : Int × zz_S} (h : zz_f0 g vs σ = some z) : vs = [] ∧ g σ = some z := by
  match vs, h with
  | [], h => exact ⟨rfl, h⟩
theorem zz_f1_ok {g : Int → zz_S → zz_R} {vs : List Int} {σ : zz_S} {z : Int × zz_S} (h : zz_f1 g vs σ = some z) : ∃ a, vs = [a] ∧ g a σ = some z := by
  match vs, h with
  | [a], h => exact ⟨a, rfl, h⟩
theorem zz_f2_ok {g : Int → Int → zz_S → zz_R} {vs : List Int} {σ : zz_S} {z : Int × zz_S} (h : zz_f2 g vs σ = some z) : ∃ a b, vs = [a, b] ∧ g a b σ = some z := by
  match vs, h with
  | [a, b], h => exact ⟨a, b, rfl, h⟩
theorem zz_f3_ok {g : Int → Int → Int → zz_S → zz_R} {vs : List Int} {σ : zz_S} {z : Int × zz_S} (h : zz_f3 g vs σ = some z) : ∃ a b c, vs = [a, b, c] ∧ g a b c σ = some z := by
  match vs, h with
  | [a, b, c], h => exact ⟨a, b, c, rfl, h⟩
theorem zz_f4_ok {g : Int → Int → Int → Int → zz_S → zz_R} {vs : List Int} {σ : zz_S} {z : Int × zz_S} (h : zz_f4 g vs σ = some z) : ∃ a b c d, vs = [a, b, c, d] ∧ g a b c d σ = some z := by
  match vs, h with
  | [a, b, c, d], h => exact ⟨a, b, c, d, rfl, h⟩
theorem zz_f5_ok {g : Int → Int → Int → Int → Int → zz_S → zz_R} {vs : List Int} {σ : zz_S} {z : Int × zz_S} (h : zz_f5 g vs σ = some z) : ∃ a b c d e, vs = [a, b, c, d, e] ∧ g a b c d e σ = some z := by
  match vs, h with
  | [a, b, c, d, e], h => exact ⟨a, b, c, d, e, rfl, h⟩
theorem zz_f6_ok {g : Int → Int → Int → Int → Int → Int → zz_S → zz_R} {vs : List Int} {σ : zz_S} {z : Int × zz_S} (h : zz_f6 g vs σ = some z) : ∃ a b c d e f, vs = [a, b, c, d, e, f] ∧ g a b c d e f σ = some z := by
  match vs, h with
  | [a, b, c, d, e, f], h => exact ⟨a, b, c, d, e, f, rfl, h⟩
/-- the locals of a place, by its list and the values -/
def zz_cs : List (Nat × Nat × Bool) → List Int → List (Nat × zz_V)
  | [], _ => []
  | (i, t, true) :: sp, vs => (i, t, 1) :: zz_cs sp vs
  | (i, t, false) :: sp, v :: vs => (i, t, v) :: zz_cs sp vs
  | (_, _, false) :: _, [] => []
def zz_okb (M : zz_M) (pc : Nat) (sp : List (Nat × Nat × Bool)) (f : List Int → zz_S → zz_R) : Prop := ∀ vs σ r τ, f vs σ = some (r, τ) → zz_At M pc (zz_cs sp vs) [] σ r τ
def zz_okl (M : zz_M) (L : List (Nat × List (Nat × Nat × Bool) × (List Int → zz_S → zz_R))) : Prop := ∀ p ∈ L, zz_okb M p.1 p.2.1 p.2.2
theorem zz_ol0 {M : zz_M} : zz_okl M [] := fun p hp => by cases hp
theorem zz_olc {M : zz_M} {pc : Nat} {sp : List (Nat × Nat × Bool)} {f : List Int → zz_S → zz_R} {L : List (Nat × List (Nat × Nat × Bool) × (List Int → zz_S → zz_R))} (h : zz_okb M pc sp f) (hL : zz_okl M L) : zz_okl M ((pc, sp, f) :: L) := fun p hp => by
  rcases List.mem_cons.mp hp with rfl | hp
  · exact h
  · exact hL p hp
def zz_okm (inf : Nat → Option zz_I) (i : Nat) (f : List Int → zz_S → zz_R) : Prop := ∀ vs σ q τ, f vs σ = some (q, τ) → ∃ I, inf i = some I ∧ zz_MOK I.1 I.2.1 I.2.2.1 vs σ q τ
def zz_okc (inf : Nat → Option zz_I) (L : List (Nat × (List Int → zz_S → zz_R))) : Prop := ∀ p ∈ L, zz_okm inf p.1 p.2
theorem zz_oc0 {inf : Nat → Option zz_I} : zz_okc inf [] := fun p hp => by cases hp
theorem zz_occ {inf : Nat → Option zz_I} {i : Nat} {f : List Int → zz_S → zz_R} {L : List (Nat × (List Int → zz_S → zz_R))} (h : zz_okm inf i f) (hL : zz_okc inf L) : zz_okc inf ((i, f) :: L) := fun p hp => by
  rcases List.mem_cons.mp hp with rfl | hp
  · exact h
  · exact hL p hp
theorem zz_CE_ok {inf : Nat → Option zz_I} : ∀ {L : List (Nat × (List Int → zz_S → zz_R))}, zz_okc inf L → ∀ i, zz_okm inf i (zz_CE L i)
  | [], _, i, vs, σ, q, τ, h => by cases h
  | p :: L, hL, i, vs, σ, q, τ, h => by
    unfold zz_CE at h
    cases hb : Nat.beq p.1 i with
    | true =>
      rw [hb] at h
      rw [← zz_bq hb]
      exact hL p List.mem_cons_self vs σ q τ h
    | false =>
      rw [hb] at h
      exact zz_CE_ok (fun p hp => hL p (List.mem_cons_of_mem _ hp)) i vs σ q τ h
theorem zz_lk_mem : ∀ (c : List (Nat × zz_V)) (i : Nat), zz_lk c i = (1, 0) ∨ (i, zz_lk c i) ∈ c
  | [], i => Or.inl rfl
  | (j, v) :: c, i => by
    cases hb : Nat.beq j i with
    | true =>
      have e : zz_lk ((j, v) :: c) i = v := by unfold zz_lk; rw [hb]; rfl
      rw [e, ← zz_bq hb]
      exact Or.inr List.mem_cons_self
    | false =>
      have e : zz_lk ((j, v) :: c) i = zz_lk c i := by
        show cond (Nat.beq j i) v (zz_lk c i) = _
        rw [hb]
        rfl
      rw [e]
      exact (zz_lk_mem c i).imp id (fun h => List.mem_cons_of_mem _ h)
/-- a place's locals may know less -/
theorem zz_At.weak {M : zz_M} {pc : Nat} {c lv : List (Nat × zz_V)} {sk : List zz_V} {σ τ : zz_S} {r : Int} (hw : ∀ q ∈ c, zz_lk lv q.1 = q.2 ∨ (zz_lk lv q.1 = (3000, q.2.2) ∧ 2 ≤ q.2.1 ∧ q.2.1 ≤ 999)) (h : zz_At M pc c sk σ r τ) : zz_At M pc lv sk σ r τ := by
  intro a1 a2 a3
  have hv : zz_vl σ c := by
    intro i
    rcases zz_lk_mem c i with e | e
    · rw [e]
      exact zz_ok_l.mpr ⟨by omega, by omega⟩
    · rcases hw _ e with h1 | ⟨h1, h2, h3⟩
      · have := a2 i
        rw [h1] at this
        exact this
      · have := a2 i
        rw [h1] at this
        have e0 := zz_null_ok this
        have : zz_lk c i = ((zz_lk c i).1, 0) := by rw [← e0]
        rw [this]
        exact zz_ok_0 a1.2.2.1 h3
  obtain ⟨g, hW⟩ := h a1 hv a3
  refine ⟨g, ?_⟩
  intro p l e R s m args below meth c' C D n0 ad H locs cells slots ls Q hK hH hL
  refine hW p l e R s m args below meth c' C D n0 ad H locs cells slots ls Q hK hH ⟨hL.1, fun i hi => ?_⟩
  rcases zz_lk_mem c i with e | e
  · rw [e] at hi
    exact absurd rfl hi
  · rcases hw _ e with h1 | ⟨h1, h2, h3⟩
    · have h1 : zz_lk lv i = zz_lk c i := h1
      rw [← h1]
      exact hL.2 i (by rw [h1]; exact hi)
    · have := hL.2 i (by rw [h1]; show (3000 : Nat) ≠ 1; decide)
      rw [h1] at this
      have e0 := a2 i
      rw [h1] at e0
      have e0 := zz_null_ok e0
      have e2 : zz_lk c i = ((zz_lk c i).1, 0) := by rw [← e0]
      rw [e2, zz_cv_0 ad h2, this]
      show some (Slot.val (zz_cv ad (3000, (zz_lk c i).2))) = _
      rw [e0, zz_cv_0 ad (by omega)]
theorem zz_kc_ok : ∀ (sp : List (Nat × Nat × Bool)) (lv : List (Nat × zz_V)) (f : List Int → zz_R) (z : Int × zz_S), zz_kc sp lv f = some z → ∃ vs, f vs = some z ∧ ∀ q ∈ zz_cs sp vs, zz_lk lv q.1 = q.2 ∨ (zz_lk lv q.1 = (3000, q.2.2) ∧ 2 ≤ q.2.1 ∧ q.2.1 ≤ 999)
  | [], lv, f, z, h => ⟨[], h, fun q hq => by cases hq⟩
  | (i, t, s) :: sp, lv, f, z, h => by
    unfold zz_kc at h
    cases e : zz_lk lv i with
    | mk u x =>
      rw [e] at h
      dsimp only at h
      obtain ⟨hb, h⟩ := zz_cn h
      have ht : (u, x) = (t, x) ∨ ((u, x) = (3000, x) ∧ 2 ≤ t ∧ t ≤ 999) := by
        rw [Bool.or_eq_true, Bool.and_eq_true, Bool.and_eq_true] at hb
        rcases hb with hb | ⟨b1, b2, b3⟩
        · exact Or.inl (by rw [zz_bq hb])
        · exact Or.inr ⟨by rw [zz_bq b1], Nat.le_of_ble_eq_true b2, Nat.le_of_ble_eq_true b3⟩
      cases s with
      | true =>
        obtain ⟨hx, h⟩ := zz_it h
        subst hx
        obtain ⟨vs, h1, h2⟩ := zz_kc_ok sp lv f z h
        refine ⟨vs, h1, fun q hq => ?_⟩
        rcases List.mem_cons.mp hq with rfl | hq
        · show zz_lk lv i = (t, 1) ∨ (zz_lk lv i = (3000, 1) ∧ _)
          rw [e]
          exact ht
        · exact h2 q hq
      | false =>
        obtain ⟨vs, h1, h2⟩ := zz_kc_ok sp lv (fun r => f (x :: r)) z h
        refine ⟨x :: vs, h1, fun q hq => ?_⟩
        rcases List.mem_cons.mp hq with rfl | hq
        · show zz_lk lv i = (t, x) ∨ (zz_lk lv i = (3000, x) ∧ _)
          rw [e]
          exact ht
        · exact h2 q hq
theorem zz_KE_ok {M : zz_M} : ∀ {L : List (Nat × List (Nat × Nat × Bool) × (List Int → zz_S → zz_R))}, zz_okl M L → ∀ pc lv sk σ r τ, zz_KE L pc lv sk σ = some (r, τ) → zz_At M pc lv sk σ r τ
  | [], _, pc, lv, sk, σ, r, τ, h => by cases h
  | p :: L, hL, pc, lv, sk, σ, r, τ, h => by
    unfold zz_KE at h
    cases hb : Nat.beq p.1 pc with
    | true =>
      rw [hb] at h
      cases sk with
      | cons a sk => cases h
      | nil =>
        obtain ⟨vs, h1, h2⟩ := zz_kc_ok p.2.1 lv (fun vs => p.2.2 vs σ) _ h
        rw [← zz_bq hb]
        exact (hL p List.mem_cons_self vs σ r τ h1).weak h2
    | false =>
      rw [hb] at h
      exact zz_KE_ok (fun p hp => hL p (List.mem_cons_of_mem _ hp)) pc lv sk σ r τ h
/-- a block, out of its equation with the evaluator -/
theorem zz_from {M : zz_M} {inf : Nat → Option zz_I} {CL : List (Nat × (List Int → zz_S → zz_R))} {KL : List (Nat × List (Nat × Nat × Bool) × (List Int → zz_S → zz_R))} {cs : List zz_E} (hck : cs.all (zz_ck inf M) = true ∧ zz_ch cs = true) (hC : zz_okc inf CL) (hK : zz_okl M KL) {n q : Nat} {lv : List (Nat × zz_V)} {sk : List zz_V} {σ τ : zz_S} {r : Int} (h : zz_ev (zz_CE CL) (zz_KE KL) cs (zm_rt M) (zm_rb M) (zm_th M) (zm_sd M) n true (zz_sk cs q) lv sk σ = some (r, τ)) : zz_At M q lv sk σ r τ := by
  rcases zz_sk_ok cs q with e1 | ⟨e1, es1, e2, e3, e4⟩
  · rw [e1] at h
    cases n <;> cases h
  · rw [e2] at h
    have := zz_sound (inf := inf) hck.1 hck.2 (fun i vs σ q σ2 hh => zz_CE_ok hC i vs σ q σ2 hh) (zz_KE_ok hK) n true e1 es1 lv sk σ r τ e4 h
    rw [e3] at this
    exact this
def zz_mk (y : MethodName) (M : zz_M) (pt : List Nat) : Bool := plainFor y && (decide (y.cls = zm_own M ∧ (zm_th M ≠ 0 → y.name = "<init>") ∧ pt.length ≤ zm_l M) && (pt.all (fun t => decide (t ≠ 1)) && zz_rrB M))
theorem zz_meth {inf : Nat → Option zz_I} {i : Nat} {y : MethodName} {M : zz_M} {pt : List Nat} {ws : Nat × Nat × Nat × Nat} {vs : List Int} {σ τ : zz_S} {r : Int} (hi : inf i = some (y, M, pt, ws)) (hm : zz_mk y M pt = true) (h : zz_At M 0 (zz_lv0 0 (pt.zip vs)) [] σ r τ) : ∃ I, inf i = some I ∧ zz_MOK I.1 I.2.1 I.2.2.1 vs σ r τ := by
  unfold zz_mk at hm
  rw [Bool.and_eq_true, Bool.and_eq_true, Bool.and_eq_true, decide_eq_true_eq] at hm
  obtain ⟨m1, ⟨m2, m3, m4⟩, m5, m6⟩ := hm
  exact ⟨_, hi, zz_MOK_of m1 m2 m3 (zz_rrB_ok m6) (fun t ht => of_decide_eq_true (List.all_eq_true.mp m5 t ht)) m4 (fun _ => h)⟩
