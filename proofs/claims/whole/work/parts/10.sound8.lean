/-! CALLS: a method's contract, and how it is used -/
theorem zz_tb_good {w : Jvm.Cond} (h : w ∈ zz_tb) : (w.onTables && w.keeps) = true ∨ ∃ ty, w = .arrayClass ty := good_of_word (List.mem_filter.mp h).2
def zz_Pc (D : va_G) (n0 : Nat) (ad : Nat → Int → Nat) (σ : zz_S) (vs : List zz_V) : Array Value → State → Prop := fun a U => a = (vs.map (zz_cv ad)).toArray ∧ zz_K D U ∧ zz_Hd D n0 ad σ U U.heap
def zz_Qc (M : zz_M) (D : va_G) (n0 : Nat) (ad : Nat → Int → Nat) (σ : zz_S) (r : Int) (τ : zz_S) : Array Value → State → Outcome → State → Prop := fun _ _ o t => ∃ ad', zz_Ex σ ad ad' ∧ zz_Hd D n0 ad' τ t t.heap ∧ o = .returned (zz_rv M ad' r).head?
def zz_rm (M : zz_M) (σ τ : zz_S) : Room := { frames := zm_h M, cells := zz_nc τ - zz_nc σ, slots := zz_ns τ - zz_ns σ, locals := 26 * zm_h M }
def zz_MOK (y : MethodName) (M : zz_M) (pt : List Nat) (vs : List Int) (σ : zz_S) (r : Int) (τ : zz_S) : Prop := vs.length = pt.length → zz_vs σ → zz_vk σ (pt.zip vs) → zz_go M σ r τ ∧
  ∀ (l : Launch) (D : va_G) (n0 : Nat) (ad : Nat → Int → Nat), Met l y (Jvm.Cond.code y (zm_b M) (zm_l M) (zm_ret M) :: zz_tb) (zz_rm M σ τ) (zz_Pc D n0 ad σ (pt.zip vs)) (zz_Qc M D n0 ad σ r τ) (zz_nc τ - zz_nc σ) (zz_ns τ - zz_ns σ) (fun q => n0 ≤ q)
theorem zz_Pc_blind {D : va_G} {n0 : Nat} {ad : Nat → Int → Nat} {σ : zz_S} {vs : List zz_V} : FrameBlind (zz_Pc D n0 ad σ vs) := fun a U g mk ⟨q1, q2, q3⟩ => ⟨q1, q2.calling, zz_Hd.moved (u := U) (U := U.calling g mk a) (Vm.Alike.refl U.vm) q3⟩
/-- the kinds of answers -/
def zz_rr (M : zz_M) : Prop := (zm_rt M = 999 ∧ zm_ret M = none) ∨ (zm_rt M = 0 ∧ zm_ret M = some .int) ∨ (zm_rt M = 0 ∧ zm_ret M = some .boolean ∧ zm_rb M = true) ∨ (2 ≤ zm_rt M ∧ zm_rt M ≤ 900 ∧ ∃ n, zm_ret M = some (.object n))
def zz_lv0 : Nat → List zz_V → List (Nat × zz_V)
  | _, [] => []
  | i, v :: r => (i, v) :: zz_lv0 (i + 1) r
theorem zz_lv0_lk : ∀ (vs : List zz_V) (i j : Nat), zz_lk (zz_lv0 i vs) j = if i ≤ j then (vs[j - i]?).getD (1, 0) else (1, 0)
  | [], i, j => by simp [zz_lv0, zz_lk]
  | v :: vs, i, j => by
    show cond (Nat.beq i j) v (zz_lk (zz_lv0 (i + 1) vs) j) = _
    by_cases e : i = j
    · subst e
      simp
    · rw [zz_nb e, zz_lv0_lk vs (i + 1) j]
      show (if i + 1 ≤ j then _ else _) = _
      by_cases h : i + 1 ≤ j
      · rw [if_pos h, if_pos (by omega), show j - i = (j - (i + 1)) + 1 by omega, List.getElem?_cons_succ]
      · rw [if_neg h, if_neg (by omega)]
theorem zz_args_lv {ad : Nat → Int → Nat} : ∀ (vs : List zz_V) (i : Nat), (∀ v ∈ vs, v.1 ≠ 1) → ∀ q, q ∈ lv_args i (vs.map (zz_cv ad)) ↔ ∃ j : Nat, ∃ v, vs[j]? = some v ∧ q = (i + j, zz_cv ad v)
  | [], i, _, q => by simp [lv_args]
  | v :: vs, i, h, q => by
    have hc : (zz_cv ad v).category = 1 := zz_cat ad (h v List.mem_cons_self)
    rw [List.map_cons, lv_args, if_neg (by rw [hc]; decide), List.mem_cons, zz_args_lv vs (i + 1) (fun w hw => h w (List.mem_cons_of_mem _ hw))]
    constructor
    · rintro (rfl | ⟨j, w, h1, h2⟩)
      · exact ⟨0, v, rfl, rfl⟩
      · exact ⟨j + 1, w, h1, by rw [h2, show i + 1 + j = i + (j + 1) by omega]⟩
    · rintro ⟨j, w, h1, h2⟩
      cases j with
      | zero =>
        cases h1
        exact Or.inl h2
      | succ j => exact Or.inr ⟨j, w, h1, by rw [h2, show i + 1 + j = i + (j + 1) by omega]⟩
theorem zz_sl_len {ad : Nat → Int → Nat} : ∀ (vs : List zz_V), (∀ v ∈ vs, v.1 ≠ 1) → (lg_sl (vs.map (zz_cv ad))).length = vs.length
  | [], _ => rfl
  | v :: vs, h => by
    have hc : (zz_cv ad v).category = 1 := zz_cat ad (h v List.mem_cons_self)
    have ih := zz_sl_len (ad := ad) vs (fun w hw => h w (List.mem_cons_of_mem _ hw))
    unfold lg_sl at ih ⊢
    rw [List.map_cons, List.flatMap_cons, if_neg (by rw [hc]; decide), List.length_append, ih]
    simp [Nat.add_comm]
theorem zz_ofW {l : Launch} {y : MethodName} {ws ws' : List Jvm.Cond} {rm : Room} {Pc : Array Value → State → Prop} {Qc : Array Value → State → Outcome → State → Prop} {mc ms : Nat} {free : Addr → Prop} {cc : ByteArray} {maxL : Nat} {ret : Option FieldType}
    (hy : plainFor y = true) (hw : ws = Jvm.Cond.code y cc maxL ret :: ws')
    (body : ∀ p e s m args below meth c s₁, BodyLoose p l y (headSpec ws rm) cc maxL ret e s m args below meth c s₁ → c.maxLocals = maxL → Pc args s →
      W p l e (headSpec ws rm).room s m args below meth c s.heap [] 0 0 (MQ below Qc args s mc ms free) (entryFrame m args maxL)) : Met l y ws rm Pc Qc mc ms free := by
  refine MetFree.of_bodySF (code := cc) (maxLocals := maxL) (ret := ret) hy ?_ ?_
  · intro args s m h hn
    obtain ⟨meth, c, h1, h2, h3, h4, h5, h6, -, -⟩ := Cond.code_spec hn (atoms_spec (ws := ws) h _ (by rw [hw]; exact List.mem_cons_self))
    exact ⟨meth, c, h1, h2, h3, h4, h5, h6⟩
  · intro p e s m args below meth c s₁ B hml hP _
    have hh0 : s₁.heap = s.heap := by rw [B.state]; rfl
    obtain ⟨t, a1, o, b1, b2, b3⟩ := body p e s m args below meth c s₁ B hml hP s₁ hh0 (Stand.of_body B)
    exact ⟨t, o, a1, b1, b2, ⟨b3.1, b3.2⟩⟩
/-- the contract, out of what holds at the method's first place -/
theorem zz_MOK_of {y : MethodName} {M : zz_M} {pt : List Nat} {vs : List Int} {σ τ : zz_S} {r : Int} (hy : plainFor y = true) (hown : y.cls = zm_own M) (hth : zm_th M ≠ 0 → y.name = "<init>") (hrr : zz_rr M) (hpt : ∀ t ∈ pt, t ≠ 1) (hpl : pt.length ≤ zm_l M) (h : vs.length = pt.length → zz_At M 0 (zz_lv0 0 (pt.zip vs)) [] σ r τ) : zz_MOK y M pt vs σ r τ := by
  intro hlen a1 a2
  have hne : ∀ v ∈ pt.zip vs, v.1 ≠ 1 := fun v hv => hpt _ (List.of_mem_zip hv).1
  have a3 : zz_vl σ (zz_lv0 0 (pt.zip vs)) := by
    intro j
    rw [zz_lv0_lk, if_pos (Nat.zero_le _)]
    cases e : (pt.zip vs)[j - 0]? with
    | none => exact zz_ok_l.mpr ⟨by omega, by omega⟩
    | some v => exact a2 v (List.mem_of_getElem? e)
  obtain ⟨hg, hW⟩ := h hlen a1 a3 (fun v hv => by cases hv)
  refine ⟨hg, fun l D n0 ad => ?_⟩
  refine zz_ofW (cc := zm_b M) (maxL := zm_l M) (ret := zm_ret M) hy rfl ?_
  intro p e s m args below meth c s₁ B hml hv
  obtain ⟨rfl, hK, hH⟩ := hv
  have hts := atoms_spec (ws := Jvm.Cond.code y (zm_b M) (zm_l M) (zm_ret M) :: zz_tb) B.pre
  have hlocks : meth.locks = false := B.notSynchronized
  have C : zz_Cx M p (zz_rm M σ τ) s m (((pt.zip vs).map (zz_cv ad)).toArray) meth c := ⟨B.exec, B.bytes, hml, by rw [← hown]; exact findClass_of_methodNamed B.named, fun w hw => hts w (List.mem_cons_of_mem _ hw), B.returns, hlocks, Nat.le_refl _, Nat.le_refl _, fun z => (name_of_methodNamed B.named B.method).1.trans (hth z)⟩
  have hll : (lg_sl ((pt.zip vs).map (zz_cv ad))).length ≤ zm_l M := by
    rw [zz_sl_len _ hne, List.length_zip]
    omega
  have hl := lv_entry ((pt.zip vs).map (zz_cv ad)) (n := zm_l M) hll
  rw [lg_entry_eq]
  generalize (lg_sl ((pt.zip vs).map (zz_cv ad)) ++ List.replicate (zm_l M - (lg_sl ((pt.zip vs).map (zz_cv ad))).length) Slot.unset).toArray = ls at hl ⊢
  have hL : zz_L ls (zm_l M) ad (zz_lv0 0 (pt.zip vs)) := by
    refine ⟨⟨hl.1, hl.2.1, fun q hq => by cases hq⟩, fun j hj => ?_⟩
    rw [zz_lv0_lk, if_pos (Nat.zero_le _)] at hj ⊢
    cases e : (pt.zip vs)[j - 0]? with
    | none =>
      rw [e] at hj
      exact absurd rfl hj
    | some v =>
      have := hl.2.2 (0 + (j - 0), zz_cv ad v) ((zz_args_lv _ 0 hne _).mpr ⟨j - 0, v, e, rfl⟩)
      rw [show 0 + (j - 0) = j by omega] at this
      exact this
  have k := hW p l e (zz_rm M σ τ) s m _ below meth c C D n0 ad s.heap [] 0 0 ls (MQ below (zz_Qc M D n0 ad σ r τ) (((pt.zip vs).map (zz_cv ad)).toArray) s (zz_nc τ - zz_nc σ) (zz_ns τ - zz_ns σ) (fun q => n0 ≤ q)) hK hH hL (fun q hq => by cases hq) (by rw [Nat.zero_add]; exact Nat.le_refl _) (by rw [Nat.zero_add]; exact Nat.le_refl _)
  refine k fun ad' H' locs' ls' pc' hex hH' hlo' hrd => ?_
  rw [Nat.zero_add, Nat.zero_add]
  have hq : ∀ t : State, t.heap = H' → s.WarmedH t.vm → zz_Qc M D n0 ad σ r τ (((pt.zip vs).map (zz_cv ad)).toArray) s (.returned (zz_rv M ad' r).head?) t := fun t ht hWm => ⟨ad', hex, by rw [ht]; exact hH'.moved hWm.alike, rfl⟩
  have hr := B.returns
  unfold zz_rd at hrd
  unfold zz_rv at hq ⊢
  rcases hrr with ⟨e1, e2⟩ | ⟨e1, e2⟩ | ⟨e1, e2, e3⟩ | ⟨e1, e2, n, e3⟩
  · rw [e1, if_pos rfl] at hrd
    rw [e1, if_pos rfl] at hq ⊢
    rw [e2] at hr
    exact W.vret B.exec B.bytes hr hq hlo' hrd
  · rw [e1, if_neg (by decide), if_pos rfl] at hrd
    rw [e1, if_neg (by decide)] at hq ⊢
    rw [e2] at hr
    exact W.iret (v := Int32.ofInt r) B.exec B.bytes hr hq hlo' hrd
  · rw [e1, if_neg (by decide), if_pos rfl] at hrd
    rw [e1, if_neg (by decide)] at hq ⊢
    rw [e2] at hr
    exact W.zret (v := Int32.ofInt r) (ty := .boolean) B.exec B.bytes hr (by rcases hg.2.2.1 e3 with rfl | rfl <;> rfl) hq hlo' hrd
  · rw [if_neg (by omega), if_neg (by omega)] at hrd
    rw [if_neg (by omega)] at hq ⊢
    rw [e3] at hr
    refine W.aret (v := zz_cv ad' (zm_rt M, r)) B.exec B.bytes hr (Or.inl ⟨n, rfl⟩) ?_ hq hlo' hrd
    by_cases hx : r = 0
    · exact Or.inl (by rw [hx]; exact zz_cv_0 ad' e1)
    · exact Or.inr (zz_cv_ref ad' e1 hx)
section ZCALL
variable {M M' : zz_M} {pc : Nat} {lv : List (Nat × zz_V)} {sk rest : List zz_V} {σ σ2 τ : zz_S} {r q : Int} {y : MethodName} {pt : List Nat} {vs : List Int}
theorem zz_after {p : Program} {l : Launch} {e : Env} {R : Room} {s : State} {m : MethodId} {args : Array Value} {below : List Frame} {meth : Method} {c : Code} {H : Heap} {locs : List Loc} {cells slots mc ms : Nat} {Q : State → Prop} {ls : Array Slot} {st0 rs : List Value} {D : va_G} {n0 : Nat} {ad : Nat → Int → Nat} {a : Array Value}
    (hr : va_Run p l e R s m args below meth c H locs cells slots mc ms (F0 m pc ls st0) rs (zz_Qc M' D n0 ad σ q σ2 a) (fun x => n0 ≤ x)) (hlo : ∀ x ∈ locs, n0 ≤ x.base)
    (kk : ∀ (ad' : Nat → Int → Nat) (H' : Heap) (locs' : List Loc), zz_Ex σ ad ad' → zz_Hd D n0 ad' σ2 s H' → (∀ x ∈ locs', n0 ≤ x.base) → W p l e R s m args below meth c H' locs' (cells + mc) (slots + ms) Q (F0 m (pc + 3) ls ((zz_rv M' ad' q).head?.toList ++ rs))) : W p l e R s m args below meth c H locs cells slots Q (F0 m pc ls st0) := by
  intro T hT X
  obtain ⟨v, st₀, t, T', L, h0, X', hL, e1, e2, ⟨ad', x1, x2, x3⟩, st⟩ := hr T hT X
  cases x3
  have hal : t.vm.Alike s.vm := by rw [← e2]; exact X'.warmed.alike.symm
  obtain ⟨t2, a1, b1⟩ := kk ad' T'.heap (locs ++ L) x1 (by rw [e1]; exact x2.moved hal) (fun x hx => by
    rcases List.mem_append.mp hx with hx | hx
    · exact hlo x hx
    · exact hL x hx) T' rfl X'
  exact ⟨t2, st t2 a1, b1⟩
/-- what a call says, whatever its kind: the arguments lie on the stack, the callee's contract holds, and the machine runs it -/
theorem zs_call {s2 : List zz_V} (hM : zz_MOK y M' pt vs σ q σ2) (hlen : vs.length = pt.length) (hsd : zm_sd M' = zm_sd M ∨ zm_sd M = 2) (hrr : zz_rr M')
    (hsk : zz_vs σ → zz_vk σ sk → zz_vk σ (pt.zip vs) ∧ zz_vk σ rest)
    (hs2 : zz_vs σ → zz_vk σ sk → zz_go M' σ q σ2 → zz_vk σ2 s2 ∧ ∀ ad ad', zz_Ex σ ad ad' → s2.map (zz_cv ad') = (zz_rv M' ad' q).head?.toList ++ rest.map (zz_cv ad))
    (run : zz_vs σ → zz_vk σ sk → zz_go M' σ q σ2 → ∀ (p : Program) (l : Launch) (e : Env) (R : Room) (s : State) (m : MethodId) (args : Array Value) (below : List Frame) (meth : Method) (c : Code), zz_Cx M p R s m args meth c → ∀ (D : va_G) (n0 : Nat) (ad : Nat → Int → Nat) (H : Heap) (locs : List Loc) (cells slots : Nat) (ls : Array Slot), zz_K D s → zz_Hd D n0 ad σ s H → ls.size = zm_l M → cells + (zz_nc σ2 - zz_nc σ) ≤ R.cells → slots + (zz_ns σ2 - zz_ns σ) ≤ R.slots →
      ∃ a, va_Run p l e R s m args below meth c H locs cells slots (zz_nc σ2 - zz_nc σ) (zz_ns σ2 - zz_ns σ) (F0 m pc ls (sk.map (zz_cv ad))) (rest.map (zz_cv ad)) (zz_Qc M' D n0 ad σ q σ2 a) (fun x => n0 ≤ x))
    (h : zz_At M (pc + 3) lv s2 σ2 r τ) : zz_At M pc lv sk σ r τ := by
  refine zz_At.step (fun a1 a2 a3 => ?_) (fun a1 a2 a3 p l e R s m args below meth c C D n0 ad H locs cells slots ls Q hK hH hL hlo hcl hsl kk => ?_) h
  · obtain ⟨hz, -⟩ := hM hlen a1 (hsk a1 a3).1
    refine ⟨hz.1, a2.mono hz.2.2.2.1, (hs2 a1 a3 hz).1, hz.2.2.2.1, ?_⟩
    rcases hsd with hsd | hsd
    · rw [← hsd]
      exact hz.2.2.2.2
    · exact Or.inl hsd
  · obtain ⟨hz, -⟩ := hM hlen a1 (hsk a1 a3).1
    obtain ⟨a, hrun⟩ := run a1 a3 hz p l e R s m args below meth c C D n0 ad H locs cells slots ls hK hH hL.1.1 hcl hsl
    refine zz_after hrun hlo fun ad' H' locs' hex hH' hlo' => ?_
    have k2 := kk ad' H' locs' ls hex hH' (hL.ex a1 a2 hex) hlo'
    rw [(hs2 a1 a3 hz).2 ad ad' hex] at k2
    exact k2
end ZCALL
