/-! THE CLAIM OUT OF ONE WALK OF THE LAW'S BODY. Your part is whole_start (and what it stands on); all else here is the same for every law, but numbers. -/
def R_law : String := "CinemaClockLaw"
def lw_P (b : Addr) (xs : List Int32) (args : Array Value) (s : State) : Prop := args = #[.ref b] ∧ s.IntsAt b xs ∧ xs.length ≤ 2560 ∧ (Jvm.Cond.and given_1 narrow_1).before args s = true
def lw_Q (_ : Array Value) (s : State) (o : Outcome) (t : State) : Prop := o = .returned (some (.int 1)) ∧ Framed s o t [] 600000 7302250
def lw_Z (below : List Frame) (a : Array Value) (s : State) : State → Prop := fun t => ∃ o, t.status = .running ∧ Ended t below o ∧ lw_Q a s o t
/-- the law's own end, with 1 on the stack, nothing written that was there before, its room as the claim has it -/
theorem lw_ret {p : Program} {l : Launch} {e : Env} {s : State} {m : MethodId} {below : List Frame} {meth : Method} {c : Code} {b : Nat} (hx : p.tables.exec = Jvm.exec) (hb : c.code = code) (hr : meth.sig.returnType = ret) (hlocks : meth.locks = false) {pc : Nat} {H : Heap} {ls : Array Slot} (hdg : decode code pc = .ok (.ireturn, 1)) : W p l e room_1 s m #[Value.ref b] below meth c H [] 600000 7302250 (lw_Z below #[Value.ref b] s) (F0 m pc ls [.int 1]) := by
  intro T hT X
  obtain ⟨fs, hret, hrun, hended, hW, hframe⟩ := X.leave (v := some (.int 1)) (hlocks := hlocks) (fun h => by rw [hr] at h; cases h)
  have hmeth' : T.vm.method? m = some meth := X.method'
  refine ⟨T.setFrames fs, ?_, .returned (some (.int 1)), hrun, hended, rfl, ⟨_, rfl⟩, hW, hframe⟩
  jvm_step X.here [X.here.top, hx, hb, hdg, hmeth', hr, ret, narrow_b1]
  (try refine ⟨rfl, ?_⟩); (try refine ⟨rfl, ?_⟩)
  first | (intro acts; rw [hret _ acts rfl rfl rfl]) | rw [hret _ _ rfl rfl rfl]
  exact Steps.refl _
/-- what holds at the law's entry: the machine, the code, the tables' words (any of lw_tbl by 'hts w (by decide +kernel)'), the script of L ints xs at the cell b, what the Statement gives of the start (any of its parts by flat_of_before) -/
def lw_At (p : Program) (s : State) (m : MethodId) (meth : Method) (c : Code) (b L : Nat) (xs : Nat → Int32) : Prop :=
  p.tables.exec = Jvm.exec ∧ c.code = code ∧ meth.sig.returnType = ret ∧ c.maxLocals = 4 ∧ s.vm.findClass R_law = some m.cls ∧ (∀ w ∈ lw_tbl, w.before #[Value.ref b] s = true) ∧ va_X b L xs s s.heap ∧ b < s.heap.size ∧ meth.locks = false ∧ (Jvm.Cond.and given_1 narrow_1).before #[Value.ref b] s = true

/-! THE START: the law's first state, and the law's walk out of its block -/
def zz_mst : List Int := [0, 31, 59, 90, 120, 151, 181, 212, 243, 273, 304, 334, 365]
def zz_las : List Int := [59, 23, 23, 6, 6, 31, 0, 5, 12]
def zz_s0 (L : Nat) (xs : Nat → Int32) : zz_S := ((0, 0), (fun k => if k ≤ 2 then 1 else 0, fun k => if k ≤ 2 then 1 else 0), fun k _ j => if k = 0 then (if j = -1 then (L : Int) else (xs j.toNat).toInt) else if k = 1 then zz_mst.getD j.toNat 0 else if k = 2 then zz_las.getD j.toNat 0 else 0)
theorem zz_rngs {l : List Int} (h : ∀ x ∈ l, -2147483648 ≤ x ∧ x < 2147483648) : ∀ j, -2147483648 ≤ l.getD j 0 ∧ l.getD j 0 < 2147483648 := by
  induction l with
  | nil => exact fun j => ⟨by show (-2147483648 : Int) ≤ 0; decide, by show (0 : Int) < 2147483648; decide⟩
  | cons a l ih =>
    intro j
    cases j with
    | zero => exact h a List.mem_cons_self
    | succ j => exact ih (fun x hx => h x (List.mem_cons_of_mem _ hx)) j
theorem zz_s0_vs {L : Nat} {xs : Nat → Int32} (hL : L ≤ 2560) : zz_vs (zz_s0 L xs) := by
  refine ⟨fun k i j h1 h2 => ?_, fun k q hq i h1 h2 => ?_, fun k => ?_, ?_, ?_, fun k _ => rfl, ?_⟩
  · have hk : k ≤ 2 := by
      by_cases h : k ≤ 2
      · exact h
      · have : zz_c (zz_s0 L xs) k = 0 := if_neg h
        omega
    have ht : zz_tg k j = 0 := by
      rcases (show k = 0 ∨ k = 1 ∨ k = 2 by omega) with rfl | rfl | rfl <;> rfl
    rw [ht]
    refine zz_ok_i.mpr ?_
    rcases (show k = 0 ∨ k = 1 ∨ k = 2 by omega) with rfl | rfl | rfl
    · show -2147483648 ≤ (if j = -1 then (L : Int) else (xs j.toNat).toInt) ∧ (if j = -1 then (L : Int) else (xs j.toNat).toInt) < 2147483648
      split
      · omega
      · exact zz_rng _
    · exact zz_rngs (l := zz_mst) (by decide +kernel) _
    · exact zz_rngs (l := zz_las) (by decide +kernel) _
  · have hk : k ≤ 2 := by
      by_cases h : k ≤ 2
      · exact h
      · have : zz_m (zz_s0 L xs) k = 0 := if_neg h
        omega
    rcases (show k = 0 ∨ k = 1 ∨ k = 2 by omega) with rfl | rfl | rfl <;> cases hq
  · show 0 ≤ (if k ≤ 2 then (1 : Int) else 0) ∧ (if k ≤ 2 then (1 : Int) else 0) ≤ (if k ≤ 2 then (1 : Int) else 0)
    split <;> omega
  · exact Int.le_refl 1
  · exact Int.le_refl 1
  · have h1 : (0 : Int) + 3 = zz_su (fun k => if k ≤ 2 then (1 : Int) else 0) 92 := by decide +kernel
    have h2 : (0 : Int) + 22 = zz_su (fun k => (if k ≤ 2 then (1 : Int) else 0) * (zz_len k : Int)) 92 := by decide +kernel
    exact ⟨h1, h2⟩
theorem zz_lensmall {args : Array Value} {s : State} {t : Term} {v : Int32} {a : Addr} {cell : Cell} (hv : (Term.length t).eval args s none [] s = some (.int v)) (ht : t.eval args s none [] s = some (.ref a)) (hc : s.heap[a]? = some cell) : cell.slots.size < 2 ^ 31 := by
  obtain ⟨b, cell', ht', harr, -⟩ := Term.length_spec hv
  cases ht.symm.trans ht'
  obtain ⟨hcell, -⟩ := State.arrayAt?_spec harr
  cases hc.symm.trans hcell
  simp only [Term.eval, ht, harr, Option.bind_eq_bind, Option.bind_some] at hv
  by_cases hlt : cell.slots.size < 2147483648
  · exact hlt
  · simp [hlt] at hv
set_option maxRecDepth 100000 in
theorem zz_tab_MONTH_STARTS {args : Array Value} {s : State} (hs : ∀ w ∈ flatC (Jvm.Cond.and given_1 narrow_1), w.before args s = true) : ∃ (t : Nat) (cell : Cell), (Term.static "CinemaClock$Calendar" "MONTH_STARTS" "[I").eval args s none [] s = some (.ref t) ∧ s.heap[t]? = some cell ∧ s.isArrayOf cell .int ∧ cell.vm ≠ .unknown ∧ cell.slots.size = 13 ∧ ∀ j : Nat, j < 13 → cell.slots[j]? = some (.int (Int32.ofInt (zz_mst.getD j 0))) := by
  have hlen := va_eqt (hs (.eq (.length (.static "CinemaClock$Calendar" "MONTH_STARTS" "[I")) (.int 13)) (by decide +kernel))
  obtain ⟨t, ht, cell, h1, h2, h3, h4, h5, h6, -⟩ := va_Tof (A := fun _ => False) (N := 13) (f := fun j => .int (Int32.ofInt (zz_mst.getD j 0))) (by decide) (hs (.arrayOf (.static "CinemaClock$Calendar" "MONTH_STARTS" "[I") .int) (by decide +kernel)) hlen (fun j hj => by
    match j, hj with
    | 0, _ => exact va_eqt (hs (.eq (.elem (.static "CinemaClock$Calendar" "MONTH_STARTS" "[I") (.int 0)) (.int 0)) (by decide +kernel))
    | 1, _ => exact va_eqt (hs (.eq (.elem (.static "CinemaClock$Calendar" "MONTH_STARTS" "[I") (.int 1)) (.int 31)) (by decide +kernel))
    | 2, _ => exact va_eqt (hs (.eq (.elem (.static "CinemaClock$Calendar" "MONTH_STARTS" "[I") (.int 2)) (.int 59)) (by decide +kernel))
    | 3, _ => exact va_eqt (hs (.eq (.elem (.static "CinemaClock$Calendar" "MONTH_STARTS" "[I") (.int 3)) (.int 90)) (by decide +kernel))
    | 4, _ => exact va_eqt (hs (.eq (.elem (.static "CinemaClock$Calendar" "MONTH_STARTS" "[I") (.int 4)) (.int 120)) (by decide +kernel))
    | 5, _ => exact va_eqt (hs (.eq (.elem (.static "CinemaClock$Calendar" "MONTH_STARTS" "[I") (.int 5)) (.int 151)) (by decide +kernel))
    | 6, _ => exact va_eqt (hs (.eq (.elem (.static "CinemaClock$Calendar" "MONTH_STARTS" "[I") (.int 6)) (.int 181)) (by decide +kernel))
    | 7, _ => exact va_eqt (hs (.eq (.elem (.static "CinemaClock$Calendar" "MONTH_STARTS" "[I") (.int 7)) (.int 212)) (by decide +kernel))
    | 8, _ => exact va_eqt (hs (.eq (.elem (.static "CinemaClock$Calendar" "MONTH_STARTS" "[I") (.int 8)) (.int 243)) (by decide +kernel))
    | 9, _ => exact va_eqt (hs (.eq (.elem (.static "CinemaClock$Calendar" "MONTH_STARTS" "[I") (.int 9)) (.int 273)) (by decide +kernel))
    | 10, _ => exact va_eqt (hs (.eq (.elem (.static "CinemaClock$Calendar" "MONTH_STARTS" "[I") (.int 10)) (.int 304)) (by decide +kernel))
    | 11, _ => exact va_eqt (hs (.eq (.elem (.static "CinemaClock$Calendar" "MONTH_STARTS" "[I") (.int 11)) (.int 334)) (by decide +kernel))
    | 12, _ => exact va_eqt (hs (.eq (.elem (.static "CinemaClock$Calendar" "MONTH_STARTS" "[I") (.int 12)) (.int 365)) (by decide +kernel))
    | j + 13, hj => exact absurd hj (by omega)) (fun _ _ h => h)
  have hsm := zz_lensmall hlen ht h1
  refine ⟨t, cell, ht, h1, h2, h3, ?_, h6⟩
  have e1 : (Int32.ofNat cell.slots.size) = Int32.ofNat 13 := h5
  have e2 := congrArg Int32.toInt e1
  rw [Int32.toInt_ofNat_of_lt (by exact hsm), Int32.toInt_ofNat_of_lt (by decide)] at e2
  omega
set_option maxRecDepth 100000 in
theorem zz_tab_LAST_A {args : Array Value} {s : State} (hs : ∀ w ∈ flatC (Jvm.Cond.and given_1 narrow_1), w.before args s = true) : ∃ (t : Nat) (cell : Cell), (Term.static "CinemaClock$Calendar" "LAST_A" "[I").eval args s none [] s = some (.ref t) ∧ s.heap[t]? = some cell ∧ s.isArrayOf cell .int ∧ cell.vm ≠ .unknown ∧ cell.slots.size = 9 ∧ ∀ j : Nat, j < 9 → cell.slots[j]? = some (.int (Int32.ofInt (zz_las.getD j 0))) := by
  have hlen := va_eqt (hs (.eq (.length (.static "CinemaClock$Calendar" "LAST_A" "[I")) (.int 9)) (by decide +kernel))
  obtain ⟨t, ht, cell, h1, h2, h3, h4, h5, h6, -⟩ := va_Tof (A := fun _ => False) (N := 9) (f := fun j => .int (Int32.ofInt (zz_las.getD j 0))) (by decide) (hs (.arrayOf (.static "CinemaClock$Calendar" "LAST_A" "[I") .int) (by decide +kernel)) hlen (fun j hj => by
    match j, hj with
    | 0, _ => exact va_eqt (hs (.eq (.elem (.static "CinemaClock$Calendar" "LAST_A" "[I") (.int 0)) (.int 59)) (by decide +kernel))
    | 1, _ => exact va_eqt (hs (.eq (.elem (.static "CinemaClock$Calendar" "LAST_A" "[I") (.int 1)) (.int 23)) (by decide +kernel))
    | 2, _ => exact va_eqt (hs (.eq (.elem (.static "CinemaClock$Calendar" "LAST_A" "[I") (.int 2)) (.int 23)) (by decide +kernel))
    | 3, _ => exact va_eqt (hs (.eq (.elem (.static "CinemaClock$Calendar" "LAST_A" "[I") (.int 3)) (.int 6)) (by decide +kernel))
    | 4, _ => exact va_eqt (hs (.eq (.elem (.static "CinemaClock$Calendar" "LAST_A" "[I") (.int 4)) (.int 6)) (by decide +kernel))
    | 5, _ => exact va_eqt (hs (.eq (.elem (.static "CinemaClock$Calendar" "LAST_A" "[I") (.int 5)) (.int 31)) (by decide +kernel))
    | 6, _ => exact va_eqt (hs (.eq (.elem (.static "CinemaClock$Calendar" "LAST_A" "[I") (.int 6)) (.int 0)) (by decide +kernel))
    | 7, _ => exact va_eqt (hs (.eq (.elem (.static "CinemaClock$Calendar" "LAST_A" "[I") (.int 7)) (.int 5)) (by decide +kernel))
    | 8, _ => exact va_eqt (hs (.eq (.elem (.static "CinemaClock$Calendar" "LAST_A" "[I") (.int 8)) (.int 12)) (by decide +kernel))
    | j + 9, hj => exact absurd hj (by omega)) (fun _ _ h => h)
  have hsm := zz_lensmall hlen ht h1
  refine ⟨t, cell, ht, h1, h2, h3, ?_, h6⟩
  have e1 : (Int32.ofNat cell.slots.size) = Int32.ofNat 9 := h5
  have e2 := congrArg Int32.toInt e1
  rw [Int32.toInt_ofNat_of_lt (by exact hsm), Int32.toInt_ofNat_of_lt (by decide)] at e2
  omega
/-- the machine at the law's entry, by the abstract start -/
theorem zz_start {p : Program} {e : Env} {s : State} {m : MethodId} {below : List Frame} {meth : Method} {c : Code} (l : Launch) {b L : Nat} {xs : Nat → Int32} (hL : L ≤ 2560) (C0 : lw_At p s m meth c b L xs) {τ : zz_S} (hlaw : l_law (zz_s0 L xs) = some (1, τ)) (hnc : zz_nc τ ≤ 600000) (hns : zz_ns τ ≤ 7302250) : W p l e room_1 s m #[Value.ref b] below meth c s.heap [] 0 0 (lw_Z below #[Value.ref b] s) (entryFrame m ([Value.ref b] : List Value).toArray 4) := by
  obtain ⟨hx, hb, hr, hml, hown, hts, hX, hbl, hlocks, hgv⟩ := C0
  have hs := flat_of_before _ hgv
  obtain ⟨t1, m1, a1, a2, a3, a4, a5, a6⟩ := zz_tab_MONTH_STARTS hs
  obtain ⟨t2, m2, b1, b2, b3, b4, b5, b6⟩ := zz_tab_LAST_A hs
  have H : ∀ k : Nat, ∃ d : ClassId × (Nat → Nat), ∀ q : vw_C, zz_vw[k]? = some q → u_Kn s q.1 q.2.1 q.2.2 d.1 d.2 := by
    intro k
    cases hq : zz_vw[k]? with
    | none => exact ⟨(0, fun _ => 0), fun q h => by cases h⟩
    | some q =>
      obtain ⟨w1, -, -, w4, -⟩ := zz_cw k q hq
      obtain ⟨cC, iS, h⟩ := u_known (C := q.1) (T := q.2.1) (N := q.2.2) (n := q.2.2) hts (fun w hw => (List.mem_filter.mp (w1 w hw)).1) (hts _ (List.mem_filter.mp w4).1)
      exact ⟨(cC, iS), fun q' h' => by cases h'; exact h⟩
  obtain ⟨f, hf⟩ := Classical.axiomOfChoice H
  have hK : zz_K (fun k => (f k).1, fun k => (f k).2) s := by
    refine ⟨fun k q hq => hf k q hq, ⟨va_AO.of (hts (.arrayOver (.object RX6)) (by decide +kernel)), va_AO.of (hts (.arrayOver (.object RX5)) (by decide +kernel))⟩, fun q hq => ?_⟩
    have hm : ∀ q ∈ zz_nm, zz_nl q ∈ lw_tbl := by decide +kernel
    exact va_Nw.of rfl (hts _ (hm q hq))
  have hvs := zz_s0_vs (xs := xs) hL
  have hA : ∀ a : Nat, a < s.heap.size → ¬ (fun q : Nat => s.heap.size ≤ q) a := fun a h z => by have : s.heap.size ≤ a := z; omega
  have hH : zz_Hd (fun k => (f k).1, fun k => (f k).2) s.heap.size (fun k _ => if k = 0 then b else if k = 1 then t1 else t2) (zz_s0 L xs) s s.heap := by
    refine ⟨Nat.le_refl _, fun k i h1 h2 => ?_, fun k i k' i' h1 h2 h3 h4 h5 => ?_, ?_, ?_⟩
    · have hk : k ≤ 2 := by
        by_cases h : k ≤ 2
        · exact h
        · have : zz_c (zz_s0 L xs) k = 0 := if_neg h
          omega
      refine ⟨?_, fun _ => ?_, fun h => by omega⟩
      · rcases (show k = 0 ∨ k = 1 ∨ k = 2 by omega) with rfl | rfl | rfl
        · obtain ⟨scr, g1, g2, g3, g4, g5⟩ := hX
          refine ⟨scr, g1, Or.inr ⟨by decide, ⟨g2, g3, fun z => absurd z (by decide)⟩, ?_, fun j hj => ?_⟩⟩
          · rw [g4]
            rfl
          · rw [g5 j (by omega)]
            show some (Value.int (xs j)) = some (Value.int (Int32.ofInt (if ((j : Int)) = -1 then (L : Int) else (xs ((j : Int)).toNat).toInt)))
            rw [if_neg (by omega), Int.toNat_natCast, zz_of32]
        · exact ⟨m1, a2, Or.inr ⟨by decide, ⟨a3, a4, fun z => absurd z (by decide)⟩, by rw [a5]; rfl, fun j hj => by
            rw [a6 j (by omega)]
            show _ = some (Value.int (Int32.ofInt (zz_mst.getD ((j : Int)).toNat 0)))
            rw [Int.toNat_natCast]⟩⟩
        · exact ⟨m2, b2, Or.inr ⟨by decide, ⟨b3, b4, fun z => absurd z (by decide)⟩, by rw [b5]; rfl, fun j hj => by
            rw [b6 j (by omega)]
            show _ = some (Value.int (Int32.ofInt (zz_las.getD ((j : Int)).toNat 0)))
            rw [Int.toNat_natCast]⟩⟩
      · rcases (show k = 0 ∨ k = 1 ∨ k = 2 by omega) with rfl | rfl | rfl
        · exact hbl
        · exact (Array.getElem?_eq_some_iff.mp a2).1
        · exact (Array.getElem?_eq_some_iff.mp b2).1
    · have : zz_c (zz_s0 L xs) k = 0 := if_neg (by omega)
      omega
    · exact va_Zref (hts (.laysStatic "CinemaClock$Calendar" "MONTH_STARTS" "[I") (by decide +kernel)) (hts (.initialized "CinemaClock$Calendar") (by decide +kernel)) a1 hA
    · exact va_Zref (hts (.laysStatic "CinemaClock$Calendar" "LAST_A" "[I") (by decide +kernel)) (hts (.initialized "CinemaClock$Calendar") (by decide +kernel)) b1 hA
  have C : zz_Cx zM_l_law p room_1 s m #[Value.ref b] meth c := ⟨hx, hb, hml, hown, fun w hw => hts w (List.mem_filter.mp hw).1, hr, hlocks, Nat.le_of_ble_eq_true rfl, Nat.le_of_ble_eq_true rfl, fun z => absurd rfl z⟩
  have hl := lv_entry ([.ref b]) (n := 4) (Nat.le_of_ble_eq_true rfl)
  rw [lg_entry_eq]
  generalize (lg_sl ([.ref b]) ++ List.replicate (4 - (lg_sl ([.ref b])).length) Slot.unset).toArray = ls at hl ⊢
  have hl : lv_has ls 4 [(0, .ref b)] := hl
  have hat := zo_l_law [] (zz_s0 L xs) 1 τ hlaw
  have hvl : zz_vl (zz_s0 L xs) [(0, 2, 1)] := by
    intro i
    rcases zz_lk_mem [(0, 2, 1)] i with h | h
    · rw [h]
      exact zz_ok_l.mpr ⟨by omega, by omega⟩
    · have h := List.mem_singleton.mp h
      cases i with
      | zero => exact (zz_ok_r (t := 2) (by omega) (by omega)).mpr ⟨by omega, Int.le_refl 1⟩
      | succ i => simp at h
  have hLs : zz_L ls 4 (fun k _ => if k = 0 then b else if k = 1 then t1 else t2) [(0, 2, 1)] := by
    refine ⟨⟨hl.1, hl.2.1, fun q hq => by cases hq⟩, fun i hi => ?_⟩
    rcases zz_lk_mem [(0, 2, 1)] i with h | h
    · rw [h] at hi
      exact absurd rfl hi
    · have h := List.mem_singleton.mp h
      cases i with
      | zero => exact hl.2.2 (0, .ref b) List.mem_cons_self
      | succ i => simp at h
  obtain ⟨hgo, hW⟩ := hat hvs hvl (fun v hv => by cases hv)
  refine hW p l e room_1 s m #[Value.ref b] below meth c C _ _ _ s.heap [] 0 0 ls (lw_Z below #[Value.ref b] s) hK hH hLs (fun q hq => by cases hq) (by show 0 + (zz_nc τ - 0) ≤ 600000; omega) (by show 0 + (zz_ns τ - 0) ≤ 7302250; omega) ?_
  intro ad' H' locs' ls' pc' hex hH' hlo' hrd
  refine va_forget hlo' ?_
  refine W.widen (k := 600000) (n := 7302250) (by show 0 + (zz_nc τ - 0) ≤ 600000; omega) (by show 0 + (zz_ns τ - 0) ≤ 7302250; omega) ?_
  exact lw_ret hx hb hr hlocks hrd
