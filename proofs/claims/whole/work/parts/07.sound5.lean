section ZHEAP
variable {M : zz_M} {pc : Nat} {lv : List (Nat × zz_V)} {sk : List zz_V} {σ τ : zz_S} {r : Int}
/-- an object kind's class, by the table -/
def zz_ob (k : Nat) (q : vw_C) : Prop := zz_ar k = 0 ∧ zz_vw[zz_cl k]? = some q ∧ q.2.2 = zz_len k ∧ k ≤ 900
theorem zz_kid {σ : zz_S} (hs : zz_vs σ) {k : Nat} (hk : k ≤ 900) {x : Int} (hx : zz_ok σ (2 + k, x)) (h0 : ¬ x = 0) : 1 ≤ x ∧ x ≤ zz_c σ k ∧ x ≤ zz_m σ k := by
  have h := (zz_ok_r (by omega) (by omega)).mp hx
  rw [show 2 + k - 2 = k by omega] at h
  have := hs.2.2.1 k
  omega
theorem zz_wid {σ : zz_S} {k : Nat} (hk : k ≤ 900) {x : Int} (hx : zz_ok σ (1000 + k, x)) : 1 ≤ x ∧ x ≤ zz_c σ k := by
  have h := (zz_ok_w (by omega) (by omega)).mp hx
  rwa [show 1000 + k - 1000 = k by omega] at h
/-- a field is read -/
theorem zz_get {p : Program} {l : Launch} {e : Env} {R : Room} {s : State} {m : MethodId} {args : Array Value} {below : List Frame} {meth : Method} {c : Code} {H : Heap} {locs : List Loc} {cells slots : Nat} {Q : State → Prop} {ls : Array Slot} {rest : List Value} {D : va_G} {n0 : Nat} {ad : Nat → Int → Nat} (C : zz_Cx M p R s m args meth c) (hK : zz_K D s) (hH : zz_Hd D n0 ad σ s H) {k b i : Nat} {q : vw_C} (hq : zz_ob k q) (hb : b < zz_len k) (hw : Jvm.Cond.fieldLink (zm_own M) i (q.2.1 b).1 (q.2.1 b).2.1 (q.2.1 b).2.2.1 ∈ zz_tb) {x : Int} (h1 : 1 ≤ x) (h2 : x ≤ zz_c σ k)
    (hd : decode (zm_b M) pc = .ok (.getfield i, 3)) (kk : W p l e R s m args below meth c H locs cells slots Q (F0 m (pc + 3) ls (zz_cv ad (zz_tg k b, zz_h σ k x b) :: rest))) : W p l e R s m args below meth c H locs cells slots Q (F0 m pc ls (.ref (ad k x) :: rest)) := by
  obtain ⟨q0, q1, q2, q3⟩ := hq
  obtain ⟨⟨cell, g1, r⟩, -⟩ := hH.2.1 k x h1 h2
  rcases r with ⟨-, r1, r2, r3⟩ | ⟨r0, -⟩
  · obtain ⟨hS, hfc, kC, hkC, hkind⟩ := hK.1 _ _ q1
    obtain ⟨cf, kf, fi, f, hi, hsl⟩ := hS b (by rw [q2]; exact hb)
    refine W.getf C.1 C.2.1 C.2.2.2.1 (C.2.2.2.2.1 _ hw) hi (u_facts hfc hkC (u_lays C.2.2.2.2.1 (zz_cw _ _ q1).1 (by rw [q2]; exact hb)) hi).1 g1 (by rw [r2]; exact fun h => by cases h) (v := zz_cv ad (zz_tg k b, zz_h σ k x b)) ?_ rfl rfl hd kk
    rw [hsl]
    exact r3 b hb
  · exact absurd q0 r0
theorem zs_getf {k b i t : Nat} {q : vw_C} (hq : zz_ob k q) (hb : b < zz_len k) (hw : Jvm.Cond.fieldLink (zm_own M) i (q.2.1 b).1 (q.2.1 b).2.1 (q.2.1 b).2.2.1 ∈ zz_tb) (ht : t = zz_tg k b) {x : Int} (hx : ¬ x = 0) (hd : decode (zm_b M) pc = .ok (.getfield i, 3)) (h : zz_At M (pc + 3) lv ((t, zz_h σ k x b) :: sk) σ r τ) : zz_At M pc lv ((2 + k, x) :: sk) σ r τ := by
  subst ht
  refine zz_At.pure (fun a b' c => ?_) (fun a1 a2 a3 p l e R s m args below meth c C D n0 ad H locs cells slots ls Q hK hH hL kk => ?_) h
  · obtain ⟨i1, i2, -⟩ := zz_kid a hq.2.2.2 (zz_vk_c.mp c).1 hx
    exact zz_vk_c.mpr ⟨a.1 _ _ _ i1 i2, (zz_vk_c.mp c).2⟩
  · obtain ⟨i1, i2, -⟩ := zz_kid a1 hq.2.2.2 (zz_vk_c.mp a3).1 hx
    rw [List.map_cons, zz_cv_r ad hq.2.2.2 hx]
    exact zz_get C hK hH hq hb hw i1 i2 hd kk
theorem zs_getfo {k b i t : Nat} {q : vw_C} (hq : zz_ob k q) (hb : b < zz_len k) (hw : Jvm.Cond.fieldLink (zm_own M) i (q.2.1 b).1 (q.2.1 b).2.1 (q.2.1 b).2.2.1 ∈ zz_tb) (ht : t = zz_tg k b) (hon : (b, t - 2) ∈ zz_own k) {x : Int} (hx : ¬ x = 0) (hd : decode (zm_b M) pc = .ok (.getfield i, 3)) (h : zz_At M (pc + 3) lv ((t, x) :: sk) σ r τ) : zz_At M pc lv ((2 + k, x) :: sk) σ r τ := by
  intro a1 a2 a3
  obtain ⟨i1, i2, i3⟩ := zz_kid a1 hq.2.2.2 (zz_vk_c.mp a3).1 hx
  have e : zz_h σ k x b = x := a1.2.1 k _ hon x i1 i3
  have h2 : zz_At M (pc + 3) lv ((t, zz_h σ k x b) :: sk) σ r τ := by rw [e]; exact h
  exact zs_getf hq hb hw ht hx hd h2 a1 a2 a3
theorem zs_getfw {k b i t : Nat} {q : vw_C} (hq : zz_ob k q) (hb : b < zz_len k) (hw : Jvm.Cond.fieldLink (zm_own M) i (q.2.1 b).1 (q.2.1 b).2.1 (q.2.1 b).2.2.1 ∈ zz_tb) (ht : t = zz_tg k b) {x : Int} (hd : decode (zm_b M) pc = .ok (.getfield i, 3)) (h : zz_At M (pc + 3) lv ((t, zz_h σ k x b) :: sk) σ r τ) : zz_At M pc lv ((1000 + k, x) :: sk) σ r τ := by
  subst ht
  refine zz_At.pure (fun a b' c => ?_) (fun a1 a2 a3 p l e R s m args below meth c C D n0 ad H locs cells slots ls Q hK hH hL kk => ?_) h
  · obtain ⟨i1, i2⟩ := zz_wid hq.2.2.2 (zz_vk_c.mp c).1
    exact zz_vk_c.mpr ⟨a.1 _ _ _ i1 i2, (zz_vk_c.mp c).2⟩
  · obtain ⟨i1, i2⟩ := zz_wid hq.2.2.2 (zz_vk_c.mp a3).1
    rw [List.map_cons, zz_cv_w ad (by omega)]
    exact zz_get C hK hH hq hb hw i1 i2 hd kk
/-- what a slot of a type takes -/
def zz_fk (ty : FieldType) (t : Nat) (z : Int) : Bool := match ty with
  | .int => decide (t = 0 ∧ z = 0)
  | .boolean => decide (t = 0 ∧ z = 1)
  | .long => decide (t = 1 ∧ z = 0)
  | .object _ => decide (2 ≤ t ∧ t ≤ 900 ∧ z = 0)
  | .array _ => decide (2 ≤ t ∧ t ≤ 900 ∧ z = 0)
  | _ => false
theorem zz_fk_ok {ty : FieldType} {t : Nat} {z : Int} (h : zz_fk ty t z = true) (ad : Nat → Int → Nat) {w : Int} (hz : z = 1 → zz_o w) : narrow ty (zz_cv ad (t, w)) = zz_cv ad (t, w) ∧ fits ty (zz_cv ad (t, w)) = true := by
  have ref : ∀ (n : Nat), 2 ≤ n → zz_cv ad (n, w) = .null ∨ ∃ q, zz_cv ad (n, w) = .ref q := by
    intro n hn
    by_cases hw : w = 0
    · exact Or.inl (by rw [hw]; exact zz_cv_0 ad hn)
    · exact Or.inr (zz_cv_ref ad hn hw)
  unfold zz_fk at h
  split at h <;> first
    | (obtain ⟨rfl, rfl⟩ := of_decide_eq_true h; exact ⟨rfl, rfl⟩)
    | (obtain ⟨rfl, rfl⟩ := of_decide_eq_true h; rcases hz rfl with rfl | rfl <;> exact ⟨rfl, rfl⟩)
    | (obtain ⟨h1, h2, -⟩ := of_decide_eq_true h; rcases ref t h1 with e | ⟨q, e⟩ <;> rw [e] <;> exact ⟨rfl, rfl⟩)
    | cases h
/-- a field is written -/
theorem zz_put {p : Program} {l : Launch} {e : Env} {R : Room} {s : State} {m : MethodId} {args : Array Value} {below : List Frame} {meth : Method} {c : Code} {H : Heap} {locs : List Loc} {cells slots : Nat} {Q : State → Prop} {ls : Array Slot} {rest : List Value} {D : va_G} {n0 : Nat} {ad : Nat → Int → Nat} (C : zz_Cx M p R s m args meth c) (hK : zz_K D s) (hs : zz_vs σ) (hH : zz_Hd D n0 ad σ s H) (hlo : ∀ q ∈ locs, n0 ≤ q.base) {k b i t : Nat} {z : Int} {q : vw_C} (hq : zz_ob k q) (h3 : 3 ≤ k) (hb : b < zz_len k) (hw : Jvm.Cond.fieldLink (zm_own M) i (q.2.1 b).1 (q.2.1 b).2.1 (q.2.1 b).2.2.1 ∈ zz_tb) (ht : t = zz_tg k b) (hf : zz_fk (zz_ft (zz_cl k) b) t z = true) (hfin : (q.2.1 b).2.2.2 = true → zm_th M ≠ 0 ∧ (q.2.1 b).1 = zm_own M) {x w : Int} (hz : z = 1 → zz_o w) (h1 : 1 ≤ x) (h2 : x ≤ zz_c σ k)
    (hd : decode (zm_b M) pc = .ok (.putfield i, 3)) (kk : ∀ (H' : Heap) (locs' : List Loc), zz_Hd D n0 ad (zz_w σ k x b w) s H' → (∀ q ∈ locs', n0 ≤ q.base) → W p l e R s m args below meth c H' locs' cells slots Q (F0 m (pc + 3) ls rest)) : W p l e R s m args below meth c H locs cells slots Q (F0 m pc ls (zz_cv ad (t, w) :: .ref (ad k x) :: rest)) := by
  obtain ⟨q0, q1, q2, q3⟩ := hq
  obtain ⟨cw1, cw2, cw3, -⟩ := zz_cw _ _ q1
  have hb2 : b < q.2.2 := by rw [q2]; exact hb
  have hap := va_apart (own := zm_own M) (tys := []) (cl := zz_vw) (D := D) C.2.2.2.2.1 cw1 _ cw2 cw3 ⟨hK.1, fun k q h => by simp at h⟩ q1
  obtain ⟨⟨cell, g1, r⟩, -, hge⟩ := hH.2.1 k x h1 h2
  rcases r with ⟨-, r1, r2, r3⟩ | ⟨r0, -⟩
  · obtain ⟨hS, hfc, kC, hkC, hkind⟩ := hK.1 _ _ q1
    obtain ⟨cf, kf, fi, f, hi, hsl⟩ := hS b hb2
    have hlay := C.2.2.2.2.1 _ (cw1 _ (u_in_lay hb2))
    have hst := (u_facts hfc hkC (u_lays C.2.2.2.2.1 cw1 hb2) hi).1
    obtain ⟨hn, hfit⟩ := zz_fk_ok hf ad hz
    have fin : ∀ H' : Heap, H'[ad k x]? = some (cell.setSlot f.slot (zz_cv ad (t, w))) → H'.size = H.size → (∀ q, q ≠ ad k x → H'[q]? = H[q]?) → W p l e R s m args below meth c H' (locs ++ [⟨ad k x, f.slot⟩]) cells slots Q (F0 m (pc + 3) ls rest) := by
      intro H' e1 e2 e3
      refine kk H' _ (hH.put h3 h1 h2 e2 e3 ⟨_, e1, Or.inl ⟨q0, r1, r2, fun j hj => ?_⟩⟩) (fun y hy => ?_)
      · rw [hsl]
        have := t_set (N := zz_len k) r3 (by rw [← q2]; exact hap) hb (zz_cv ad (t, w)) j hj
        rw [this]
        unfold updV
        rw [zz_h_w]
        by_cases ej : j = b
        · subst ej
          rw [if_pos rfl, if_pos ⟨rfl, rfl, rfl⟩, ht]
        · rw [if_neg ej, if_neg (fun z => ej (by omega))]
      · rcases List.mem_append.mp hy with hy | hy
        · exact hlo y hy
        · rw [List.mem_singleton.mp hy]
          exact hge h3
    cases hfi : (q.2.1 b).2.2.2 with
    | false =>
      unfold u_lay at hlay
      rw [if_neg (by rw [hfi]; decide)] at hlay
      have h6 := u_store hfc hkC hkind hlay hi (cw2 b hb2) hn hfit
      exact W.putK C.1 C.2.1 (f := f) ⟨C.2.2.2.1, C.2.2.2.2.1 _ hw, ⟨_, _, _, hi⟩, hst⟩ (by rw [r1]; exact h6) g1 r2 (by rw [hsl]; exact k2_hasslot (r3 b hb)) rfl rfl hd fin
    | true =>
      unfold u_lay at hlay
      rw [if_pos hfi] at hlay
      obtain ⟨f1, f2⟩ := hfin hfi
      have hcf : m.cls = cf := by
        obtain ⟨_, _, c', _, _, _, -, -, hf', -, -, -, hown2, -⟩ := Cond.laysFinal_spec hlay
        have e1 : c' = cf := by have := hi.symm.trans hf'; simp at this; exact this.1.symm
        rw [f2] at hown2
        rw [← e1]
        exact Option.some.inj (C.2.2.2.1.symm.trans hown2)
      have h6 := u_fits hfc hkC hkind (Or.inr hlay) hi (cw2 b hb2) hn hfit
      exact W.putFinK C.1 C.2.1 C.2.2.2.1 (C.2.2.2.2.1 _ hw) hi hst hcf (C.2.2.2.2.2.2.2.2.2 f1) (by rw [r1]; exact h6) g1 r2 (by rw [hsl]; exact k2_hasslot (r3 b hb)) rfl rfl hd fin
  · exact absurd q0 r0
theorem zs_put {k b i t u : Nat} {z : Int} {q : vw_C} (hq : zz_ob k q) (h3 : 3 ≤ k) (hb : b < zz_len k) (hw : Jvm.Cond.fieldLink (zm_own M) i (q.2.1 b).1 (q.2.1 b).2.1 (q.2.1 b).2.2.1 ∈ zz_tb) (ht : t = zz_tg k b) (hf : zz_fk (zz_ft (zz_cl k) b) t z = true) (hfin : (q.2.1 b).2.2.2 = true → zm_th M ≠ 0 ∧ (q.2.1 b).1 = zm_own M) (hsd : zz_sd k = zm_sd M) {x w : Int} (hz : z = 1 → zz_o w) (hu : (u = 2 + k ∧ ¬ x = 0 ∧ ∀ q ∈ zz_own k, ¬ b = q.1) ∨ (u = 1000 + k ∧ ((∃ q ∈ zz_own k, b = q.1) → w = x)))
    (hd : decode (zm_b M) pc = .ok (.putfield i, 3)) (h : zz_At M (pc + 3) lv sk (zz_w σ k x b w) r τ) : zz_At M pc lv ((t, w) :: (u, x) :: sk) σ r τ := by
  have hid : zz_vs σ → zz_vk σ ((t, w) :: (u, x) :: sk) → 1 ≤ x ∧ x ≤ zz_c σ k := by
    intro a1 a3
    have := (zz_vk_c.mp (zz_vk_c.mp a3).2).1
    rcases hu with ⟨rfl, h0, -⟩ | ⟨rfl, -⟩
    · obtain ⟨i1, i2, -⟩ := zz_kid a1 hq.2.2.2 this h0
      exact ⟨i1, i2⟩
    · exact zz_wid hq.2.2.2 this
  refine zz_At.step (fun a1 a2 a3 => ?_) (fun a1 a2 a3 p l e R s m args below meth c C D n0 ad H locs cells slots ls Q hK hH hL hlo hcl hsl kk => ?_) h
  · have g := zz_gr_w σ k x b w
    refine ⟨zz_vs_w a1 (by rw [← ht]; exact (zz_vk_c.mp a3).1) (fun q hq' e _ => ?_), a2.mono g, (zz_vk_c.mp (zz_vk_c.mp a3).2).2.mono g, g, zz_fr_w σ hsd _ _ _⟩
    rcases hu with ⟨-, -, hn⟩ | ⟨-, hn⟩
    · exact absurd (by omega) (hn q hq')
    · exact hn ⟨q, hq', by omega⟩
  · obtain ⟨i1, i2⟩ := hid a1 a3
    have e : zz_cv ad (u, x) = .ref (ad k x) := by
      rcases hu with ⟨rfl, h0, -⟩ | ⟨rfl, -⟩
      · exact zz_cv_r ad hq.2.2.2 h0
      · exact zz_cv_w ad (by omega)
    rw [List.map_cons, List.map_cons, e]
    refine zz_put C hK a1 hH hlo hq h3 hb hw ht hf hfin hz i1 i2 hd fun H' locs' hH' hlo' => ?_
    have k2 := kk ad H' locs' ls zz_Ex.rf hH' hL hlo'
    rw [show zz_nc (zz_w σ k x b w) - zz_nc σ = 0 from Nat.sub_self _, show zz_ns (zz_w σ k x b w) - zz_ns σ = 0 from Nat.sub_self _] at k2
    exact k2
end ZHEAP
