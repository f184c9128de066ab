section
def zz_len : Nat → Nat := fun k => [0, 13, 9, 20, 4, 4, 4, 20, 8, 3, 11, 60, 2000, 8, 8, 8, 8, 8, 60, 100, 100, 100, 300, 300, 300, 40, 40, 40, 6, 4, 4, 0, 0, 0, 0, 0, 0, 0, 0, 0, 67, 8, 8, 8, 60, 60, 60, 60, 60, 60, 60, 60, 60, 60, 60, 60, 60, 60, 60, 60, 60, 60, 60, 60, 60, 240, 240, 240, 60, 240, 240, 40, 40, 40, 8, 2000, 2000, 2000, 2000, 2000, 2000, 2000, 2000, 2000, 2000, 100, 100, 100, 300, 300, 300, 60].getD k 0
/-- 0 an object, 1 ints, 2 booleans, 3 references -/
def zz_ar : Nat → Nat := fun k => [1, 1, 1, 0, 0, 0, 0, 0, 0, 0, 0, 3, 3, 3, 1, 1, 2, 1, 1, 3, 1, 2, 1, 1, 1, 1, 1, 1, 1, 1, 1, 9, 9, 9, 9, 9, 9, 9, 9, 9, 0, 1, 1, 1, 1, 1, 1, 1, 1, 1, 1, 1, 1, 1, 1, 1, 1, 1, 1, 1, 1, 1, 2, 2, 1, 1, 1, 1, 1, 1, 1, 1, 1, 1, 1, 1, 1, 1, 1, 1, 1, 1, 1, 1, 1, 1, 1, 2, 1, 1, 1, 2].getD k 0
def zz_et : Nat → Nat := fun k => [0, 0, 0, 0, 0, 0, 0, 0, 0, 0, 0, 9, 12, 12, 0, 0, 0, 0, 0, 9, 0, 0, 0, 0, 0, 0, 0, 0, 0, 0, 0, 0, 0, 0, 0, 0, 0, 0, 0, 0, 0, 0, 0, 0, 0, 0, 0, 0, 0, 0, 0, 0, 0, 0, 0, 0, 0, 0, 0, 0, 0, 0, 0, 0, 0, 0, 0, 0, 0, 0, 0, 0, 0, 0, 0, 0, 0, 0, 0, 0, 0, 0, 0, 0, 0, 0, 0, 0, 0, 0, 0, 0].getD k 0
def zz_ty : Nat → List Nat := fun k => match k with
  | 3 => [13, 14, 15, 6, 7, 8, 16, 17, 18, 19, 20, 0, 0, 0, 0, 0, 0, 0, 0, 0]
  | 4 => [21, 22, 23, 0]
  | 5 => [24, 25, 26, 0]
  | 6 => [27, 28, 29, 0]
  | 7 => [0, 0, 0, 0, 30, 10, 11, 0, 0, 0, 0, 0, 0, 0, 0, 0, 0, 0, 0, 0]
  | 8 => [0, 1, 0, 0, 0, 0, 0, 0]
  | 9 => [31, 32, 0]
  | 10 => [0, 9, 0, 0, 0, 0, 0, 0, 0, 0, 0]
  | 40 => [0, 0, 0, 0, 0, 43, 44, 0, 45, 0, 46, 47, 48, 49, 50, 51, 52, 53, 54, 55, 56, 57, 58, 59, 60, 61, 62, 63, 64, 65, 66, 67, 68, 69, 70, 71, 72, 0, 73, 74, 75, 76, 0, 77, 78, 79, 80, 81, 82, 83, 84, 85, 86, 0, 87, 88, 89, 0, 90, 91, 92, 93, 0, 0, 0, 0, 0]
  | _ => []
def zz_own : Nat → List (Nat × Nat) := fun k => match k with
  | 3 => [(0, 11), (1, 12), (2, 13), (3, 4), (4, 5), (5, 6), (6, 14), (7, 15), (8, 16), (9, 17), (10, 18)]
  | 4 => [(0, 19), (1, 20), (2, 21)]
  | 5 => [(0, 22), (1, 23), (2, 24)]
  | 6 => [(0, 25), (1, 26), (2, 27)]
  | 7 => [(4, 28), (5, 8), (6, 9)]
  | 9 => [(0, 29), (1, 30)]
  | 40 => [(5, 41), (6, 42), (8, 43), (10, 44), (11, 45), (12, 46), (13, 47), (14, 48), (15, 49), (16, 50), (17, 51), (18, 52), (19, 53), (20, 54), (21, 55), (22, 56), (23, 57), (24, 58), (25, 59), (26, 60), (27, 61), (28, 62), (29, 63), (30, 64), (31, 65), (32, 66), (33, 67), (34, 68), (35, 69), (36, 70), (38, 71), (39, 72), (40, 73), (41, 74), (43, 75), (44, 76), (45, 77), (46, 78), (47, 79), (48, 80), (49, 81), (50, 82), (51, 83), (52, 84), (54, 85), (55, 86), (56, 87), (58, 88), (59, 89), (60, 90), (61, 91)]
  | _ => []
/-- which half of the heap a kind belongs to: 0 the class, 1 the reference, 3 neither (only read) -/
def zz_sd (k : Nat) : Nat := cond (Nat.ble k 2) 3 (cond (Nat.ble k 30) 0 1)
/-! THE ABSTRACT MACHINE: a typed heap (kind, number, slot) of whole numbers, and an evaluator of the instructions over it.
    A state: how many cells and slots were made; how many objects of a kind there are, and how many of them are complete; what the slots hold. -/
abbrev zz_S : Type := (Nat × Nat) × ((Nat → Int) × (Nat → Int)) × (Nat → Int → Int → Int)
abbrev zz_V : Type := Nat × Int
abbrev zz_R : Type := Option (Int × zz_S)
abbrev zz_E : Type := Nat × Bool × Instr × Nat × Nat × (Nat × Nat × Nat × Nat) × Int × List Nat
def zz_nc (σ : zz_S) : Nat := σ.1.1
def zz_ns (σ : zz_S) : Nat := σ.1.2
def zz_c (σ : zz_S) (k : Nat) : Int := σ.2.1.1 k
def zz_m (σ : zz_S) (k : Nat) : Int := σ.2.1.2 k
def zz_h (σ : zz_S) (k : Nat) (i j : Int) : Int := σ.2.2 k i j
def zz_w (σ : zz_S) (k : Nat) (i j v : Int) : zz_S := (σ.1, σ.2.1, fun k' i' j' => if k' = k ∧ i' = i ∧ j' = j then v else σ.2.2 k' i' j')
/-- a new array (b = 1: complete at once) or object (b = 0) of the kind k with n slots -/
def zz_n (σ : zz_S) (k : Nat) (b : Int) (n : Nat) : zz_S := ((σ.1.1 + 1, σ.1.2 + n), (fun k' => if k' = k then σ.2.1.1 k + 1 else σ.2.1.1 k', fun k' => if k' = k then σ.2.1.2 k + b else σ.2.1.2 k'), fun k' i' j' => if k' = k ∧ i' = σ.2.1.1 k + 1 then 0 else σ.2.2 k' i' j')
/-- the youngest object of a kind is complete -/
def zz_f (σ : zz_S) (k : Nat) : zz_S := (σ.1, (σ.2.1.1, fun k' => if k' = k then σ.2.1.2 k + 1 else σ.2.1.2 k'), σ.2.2)
-- numbers
def zz_r (z : Int) : Int := (Int32.ofInt z).toInt
def zz_and (x y : Int) : Int := (Int32.ofInt x &&& Int32.ofInt y).toInt
def zz_or (x y : Int) : Int := (Int32.ofInt x ||| Int32.ofInt y).toInt
def zz_xor (x y : Int) : Int := (Int32.ofInt x ^^^ Int32.ofInt y).toInt
def zz_shl (x y : Int) : Int := (Int32.ofInt x <<< (Int32.ofInt y &&& 31)).toInt
def zz_shr (x y : Int) : Int := (Int32.ofInt x >>> (Int32.ofInt y &&& 31)).toInt
def zz_div (x y : Int) : Int := (Int32.ofInt x / Int32.ofInt y).toInt
def zz_rem (x y : Int) : Int := (Int32.ofInt x - Int32.ofInt x / Int32.ofInt y * Int32.ofInt y).toInt
def zz_land (x y : Int) : Int := (Int64.ofInt x &&& Int64.ofInt y).toInt
def zz_lshl (x y : Int) : Int := (Int64.ofInt x <<< ((Int32.ofInt y).toInt64 &&& 63)).toInt
def zz_lshr (x y : Int) : Int := (Int64.ofInt x >>> ((Int32.ofInt y).toInt64 &&& 63)).toInt
def zz_lc (x y : Int) : Int := if x < y then -1 else if x = y then 0 else 1
/-- length of an array: of the script (kind 0) it stands in its place -1 -/
def zz_al (σ : zz_S) (k : Nat) (x : Int) : Int := if k = 0 then zz_h σ 0 1 (-1) else (zz_len k : Int)
abbrev zz_b (σ : zz_S) (k : Nat) (x j : Int) : Prop := 0 ≤ j ∧ j < zz_al σ k x
abbrev zz_o (v : Int) : Prop := v = 0 ∨ v = 1
-- stack and locals
def zz_i1 (sk : List zz_V) (f : Int → List zz_V → zz_R) : zz_R := match sk with
  | [] => none
  | (t, x) :: r => cond (Nat.beq t 0) (f x r) none
def zz_i2 (sk : List zz_V) (f : Int → Int → List zz_V → zz_R) : zz_R := zz_i1 sk fun y r => zz_i1 r fun x r => f x y r
def zz_a1 (u : Nat) (sk : List zz_V) (f : Int → List zz_V → zz_R) : zz_R := match sk with
  | [] => none
  | (t, x) :: r => cond (Nat.beq t u) (f x r) none
def zz_lk : List (Nat × zz_V) → Nat → zz_V
  | [], _ => (1, 0)
  | (j, v) :: r, i => cond (Nat.beq j i) v (zz_lk r i)
def zz_sw (J : Nat → zz_R) (x : Int) (d : Nat) : Int → List Nat → zz_R
  | _, [] => J d
  | k, o :: os => if x = k then J o else zz_sw J x d (k + 1) os
def zz_sk : List zz_E → Nat → List zz_E
  | [], _ => []
  | e :: es, q => cond (Nat.beq e.1 q) (e :: es) (zz_sk es q)
/-- the arguments that lie on the stack, the last one on top, by their tags (from the last to the first) -/
def zz_ta : List Nat → List zz_V → List Int → Option (List Int × List zz_V)
  | [], sk, vs => some (vs, sk)
  | _ :: _, [], _ => none
  | u :: us, (t, x) :: sk, vs => cond (Nat.beq t u || (Nat.beq t 3000 && (Nat.ble 2 u && Nat.ble u 999))) (zz_ta us sk (x :: vs)) none
/-- an object is complete: its raw references become plain ones -/
def zz_un (t : Nat) : List zz_V → List zz_V
  | [] => []
  | (u, x) :: r => (cond (Nat.beq u t) (t - 998) u, x) :: zz_un t r
def zz_ow (σ : zz_S) (k : Nat) (x : Int) : List (Nat × Nat) → Bool
  | [] => true
  | q :: r => decide (zz_h σ k x q.1 = x) && zz_ow σ k x r
/-- what is stored in a slot with the tag t (z: a boolean one) -/
def zz_st (t : Nat) (z : Int) (u : Nat) (w : Int) (K : zz_R) : zz_R := cond (Nat.beq u t) (if z = 1 then (if zz_o w then K else none) else K) none
/-- THE EVALUATOR. CE: the methods; KE: the places at which it stops; cs: the whole code; rt, rb: the tag of the answer, and whether it is a boolean; th: in a constructor the kind of what is made, else 0; sd: which half of the heap may be written. -/
def zz_ev (CE : Nat → List Int → zz_S → zz_R) (KE : Nat → List (Nat × zz_V) → List zz_V → zz_S → zz_R) (cs : List zz_E) (rt : Nat) (rb : Bool) (th sd : Nat) : Nat → Bool → List zz_E → List (Nat × zz_V) → List zz_V → zz_S → zz_R
  | 0, _, _, _, _, _ => none
  | _ + 1, _, [], _, _, _ => none
  | n + 1, fst, (pc, ct, ins, _, _, (a, b, t, o), v, tg) :: es, ls, sk, σ =>
    cond (ct && !fst) (KE pc ls sk σ) (match ins with
    | .aconst_null => zz_ev CE KE cs rt rb th sd n false es ls ((3000, 0) :: sk) σ
    | .iconst i => zz_ev CE KE cs rt rb th sd n false es ls ((0, i) :: sk) σ
    | .bipush i => zz_ev CE KE cs rt rb th sd n false es ls ((0, i) :: sk) σ
    | .sipush i => zz_ev CE KE cs rt rb th sd n false es ls ((0, i) :: sk) σ
    | .lconst _ => zz_ev CE KE cs rt rb th sd n false es ls ((1, v) :: sk) σ
    | .ldc _ => zz_ev CE KE cs rt rb th sd n false es ls ((0, v) :: sk) σ
    | .ldc_w _ => zz_ev CE KE cs rt rb th sd n false es ls ((0, v) :: sk) σ
    | .ldc2_w _ => zz_ev CE KE cs rt rb th sd n false es ls ((1, v) :: sk) σ
    | .iload i => (match zz_lk ls i with | (u, x) => cond (Nat.beq u 0) (zz_ev CE KE cs rt rb th sd n false es ls ((0, x) :: sk) σ) none)
    | .iload_n i => (match zz_lk ls i.val with | (u, x) => cond (Nat.beq u 0) (zz_ev CE KE cs rt rb th sd n false es ls ((0, x) :: sk) σ) none)
    | .aload i => (match zz_lk ls i with | (u, x) => cond (Nat.ble 2 u) (zz_ev CE KE cs rt rb th sd n false es ls ((u, x) :: sk) σ) none)
    | .aload_n i => (match zz_lk ls i.val with | (u, x) => cond (Nat.ble 2 u) (zz_ev CE KE cs rt rb th sd n false es ls ((u, x) :: sk) σ) none)
    | .istore i => zz_i1 sk fun x r => zz_ev CE KE cs rt rb th sd n false es ((i, 0, x) :: ls) r σ
    | .istore_n i => zz_i1 sk fun x r => zz_ev CE KE cs rt rb th sd n false es ((i.val, 0, x) :: ls) r σ
    | .astore i => (match sk with | [] => none | (u, x) :: r => cond (Nat.ble 2 u) (zz_ev CE KE cs rt rb th sd n false es ((i, u, x) :: ls) r σ) none)
    | .astore_n i => (match sk with | [] => none | (u, x) :: r => cond (Nat.ble 2 u) (zz_ev CE KE cs rt rb th sd n false es ((i.val, u, x) :: ls) r σ) none)
    | .iinc i c => (match zz_lk ls i with | (u, x) => cond (Nat.beq u 0) (zz_ev CE KE cs rt rb th sd n false es ((i, 0, zz_r (x + c)) :: ls) sk σ) none)
    | .iadd => zz_i2 sk fun x y r => zz_ev CE KE cs rt rb th sd n false es ls ((0, zz_r (x + y)) :: r) σ
    | .isub => zz_i2 sk fun x y r => zz_ev CE KE cs rt rb th sd n false es ls ((0, zz_r (x - y)) :: r) σ
    | .imul => zz_i2 sk fun x y r => zz_ev CE KE cs rt rb th sd n false es ls ((0, zz_r (x * y)) :: r) σ
    | .idiv => zz_i2 sk fun x y r => if y = 0 then none else zz_ev CE KE cs rt rb th sd n false es ls ((0, zz_div x y) :: r) σ
    | .irem => zz_i2 sk fun x y r => if y = 0 then none else zz_ev CE KE cs rt rb th sd n false es ls ((0, zz_rem x y) :: r) σ
    | .iand => zz_i2 sk fun x y r => zz_ev CE KE cs rt rb th sd n false es ls ((0, zz_and x y) :: r) σ
    | .ior => zz_i2 sk fun x y r => zz_ev CE KE cs rt rb th sd n false es ls ((0, zz_or x y) :: r) σ
    | .ixor => zz_i2 sk fun x y r => zz_ev CE KE cs rt rb th sd n false es ls ((0, zz_xor x y) :: r) σ
    | .ishl => zz_i2 sk fun x y r => zz_ev CE KE cs rt rb th sd n false es ls ((0, zz_shl x y) :: r) σ
    | .ishr => zz_i2 sk fun x y r => zz_ev CE KE cs rt rb th sd n false es ls ((0, zz_shr x y) :: r) σ
    | .land => zz_a1 1 sk fun y r => zz_a1 1 r fun x r => zz_ev CE KE cs rt rb th sd n false es ls ((1, zz_land x y) :: r) σ
    | .lshl => zz_i1 sk fun y r => zz_a1 1 r fun x r => zz_ev CE KE cs rt rb th sd n false es ls ((1, zz_lshl x y) :: r) σ
    | .lshr => zz_i1 sk fun y r => zz_a1 1 r fun x r => zz_ev CE KE cs rt rb th sd n false es ls ((1, zz_lshr x y) :: r) σ
    | .lcmp => zz_a1 1 sk fun y r => zz_a1 1 r fun x r => zz_ev CE KE cs rt rb th sd n false es ls ((0, zz_lc x y) :: r) σ
    | .dup => (match sk with | (t1, x1) :: r => cond (Nat.beq t1 1) none (zz_ev CE KE cs rt rb th sd n false es ls ((t1, x1) :: (t1, x1) :: r) σ) | _ => none)
    | .dup_x1 => (match sk with | (t1, x1) :: (t2, x2) :: r => cond (Nat.beq t1 1 || Nat.beq t2 1) none (zz_ev CE KE cs rt rb th sd n false es ls ((t1, x1) :: (t2, x2) :: (t1, x1) :: r) σ) | _ => none)
    | .dup_x2 => (match sk with | (t1, x1) :: (t2, x2) :: (t3, x3) :: r => cond (Nat.beq t1 1 || (Nat.beq t2 1 || Nat.beq t3 1)) none (zz_ev CE KE cs rt rb th sd n false es ls ((t1, x1) :: (t2, x2) :: (t3, x3) :: (t1, x1) :: r) σ) | _ => none)
    | .dup2 => (match sk with | (t1, x1) :: (t2, x2) :: r => cond (Nat.beq t1 1 || Nat.beq t2 1) none (zz_ev CE KE cs rt rb th sd n false es ls ((t1, x1) :: (t2, x2) :: (t1, x1) :: (t2, x2) :: r) σ) | _ => none)
    | .goto _ => zz_ev CE KE cs rt rb th sd n false (zz_sk cs a) ls sk σ
    | .ifCond .eq _ => zz_i1 sk fun x r => if x = 0 then zz_ev CE KE cs rt rb th sd n false (zz_sk cs a) ls r σ else zz_ev CE KE cs rt rb th sd n false es ls r σ
    | .ifCond .ne _ => zz_i1 sk fun x r => if x = 0 then zz_ev CE KE cs rt rb th sd n false es ls r σ else zz_ev CE KE cs rt rb th sd n false (zz_sk cs a) ls r σ
    | .ifCond .lt _ => zz_i1 sk fun x r => if x < 0 then zz_ev CE KE cs rt rb th sd n false (zz_sk cs a) ls r σ else zz_ev CE KE cs rt rb th sd n false es ls r σ
    | .ifCond .ge _ => zz_i1 sk fun x r => if x < 0 then zz_ev CE KE cs rt rb th sd n false es ls r σ else zz_ev CE KE cs rt rb th sd n false (zz_sk cs a) ls r σ
    | .ifCond .le _ => zz_i1 sk fun x r => if x ≤ 0 then zz_ev CE KE cs rt rb th sd n false (zz_sk cs a) ls r σ else zz_ev CE KE cs rt rb th sd n false es ls r σ
    | .ifCond .gt _ => zz_i1 sk fun x r => if x ≤ 0 then zz_ev CE KE cs rt rb th sd n false es ls r σ else zz_ev CE KE cs rt rb th sd n false (zz_sk cs a) ls r σ
    | .if_icmp .eq _ => zz_i2 sk fun x y r => if x = y then zz_ev CE KE cs rt rb th sd n false (zz_sk cs a) ls r σ else zz_ev CE KE cs rt rb th sd n false es ls r σ
    | .if_icmp .ne _ => zz_i2 sk fun x y r => if x = y then zz_ev CE KE cs rt rb th sd n false es ls r σ else zz_ev CE KE cs rt rb th sd n false (zz_sk cs a) ls r σ
    | .if_icmp .lt _ => zz_i2 sk fun x y r => if x < y then zz_ev CE KE cs rt rb th sd n false (zz_sk cs a) ls r σ else zz_ev CE KE cs rt rb th sd n false es ls r σ
    | .if_icmp .ge _ => zz_i2 sk fun x y r => if x < y then zz_ev CE KE cs rt rb th sd n false es ls r σ else zz_ev CE KE cs rt rb th sd n false (zz_sk cs a) ls r σ
    | .if_icmp .le _ => zz_i2 sk fun x y r => if x ≤ y then zz_ev CE KE cs rt rb th sd n false (zz_sk cs a) ls r σ else zz_ev CE KE cs rt rb th sd n false es ls r σ
    | .if_icmp .gt _ => zz_i2 sk fun x y r => if x ≤ y then zz_ev CE KE cs rt rb th sd n false es ls r σ else zz_ev CE KE cs rt rb th sd n false (zz_sk cs a) ls r σ
    | .if_acmp .eq _ => (match sk with | (u, y) :: (w, x) :: r => cond (Nat.beq u w && (Nat.ble 2 u && Nat.ble u 999)) (if x = y then zz_ev CE KE cs rt rb th sd n false (zz_sk cs a) ls r σ else zz_ev CE KE cs rt rb th sd n false es ls r σ) none | _ => none)
    | .if_acmp .ne _ => (match sk with | (u, y) :: (w, x) :: r => cond (Nat.beq u w && (Nat.ble 2 u && Nat.ble u 999)) (if x = y then zz_ev CE KE cs rt rb th sd n false es ls r σ else zz_ev CE KE cs rt rb th sd n false (zz_sk cs a) ls r σ) none | _ => none)
    | .ifnull _ => (match sk with | (u, x) :: r => cond (Nat.ble 2 u && Nat.ble u 999) (if x = 0 then zz_ev CE KE cs rt rb th sd n false (zz_sk cs a) ls r σ else zz_ev CE KE cs rt rb th sd n false es ls r σ) none | _ => none)
    | .ifnonnull _ => (match sk with | (u, x) :: r => cond (Nat.ble 2 u && Nat.ble u 999) (if x = 0 then zz_ev CE KE cs rt rb th sd n false es ls r σ else zz_ev CE KE cs rt rb th sd n false (zz_sk cs a) ls r σ) none | _ => none)
    | .tableswitch _ _ _ _ => zz_i1 sk fun x r => zz_sw (fun q => zz_ev CE KE cs rt rb th sd n false (zz_sk cs q) ls r σ) x a v tg
    | .getfield _ => (match sk with
      | (u, x) :: r => cond (Nat.beq u (2 + a)) (if x = 0 then none else cond (Nat.beq o 1) (zz_ev CE KE cs rt rb th sd n false es ls ((t, x) :: r) σ) (zz_ev CE KE cs rt rb th sd n false es ls ((t, zz_h σ a x b) :: r) σ))
          (cond (Nat.beq u (1000 + a)) (cond (Nat.beq o 1) (if zz_h σ a x b = x then zz_ev CE KE cs rt rb th sd n false es ls ((t, x) :: r) σ else none) (zz_ev CE KE cs rt rb th sd n false es ls ((t, zz_h σ a x b) :: r) σ)) none)
      | _ => none)
    | .putfield _ => (match sk with
      | (u', w) :: (u, x) :: r => zz_st t v u' w (cond (Nat.beq (zz_sd a) sd) (cond (Nat.beq u (2 + a) && !Nat.beq o 1) (if x = 0 then none else zz_ev CE KE cs rt rb th sd n false es ls r (zz_w σ a x b w))
          (cond (Nat.beq u (1000 + a)) (if Nat.beq o 1 = true ∧ w ≠ x then none else zz_ev CE KE cs rt rb th sd n false es ls r (zz_w σ a x b w)) none)) none)
      | _ => none)
    | .getstatic _ => zz_ev CE KE cs rt rb th sd n false es ls ((2 + a, 1) :: sk) σ
    | .iaload => zz_i1 sk fun j r => zz_a1 (2 + a) r fun x r => if x = 0 then none else if zz_b σ a x j then zz_ev CE KE cs rt rb th sd n false es ls ((0, zz_h σ a x j) :: r) σ else none
    | .baload => zz_i1 sk fun j r => zz_a1 (2 + a) r fun x r => if x = 0 then none else if zz_b σ a x j then zz_ev CE KE cs rt rb th sd n false es ls ((0, zz_h σ a x j) :: r) σ else none
    | .aaload => zz_i1 sk fun j r => zz_a1 (2 + a) r fun x r => if x = 0 then none else if zz_b σ a x j then zz_ev CE KE cs rt rb th sd n false es ls ((t, zz_h σ a x j) :: r) σ else none
    | .iastore => zz_i1 sk fun w r => zz_i1 r fun j r => zz_a1 (2 + a) r fun x r => cond (Nat.beq (zz_sd a) sd) (if x = 0 then none else if zz_b σ a x j then zz_ev CE KE cs rt rb th sd n false es ls r (zz_w σ a x j w) else none) none
    | .bastore => zz_i1 sk fun w r => zz_i1 r fun j r => zz_a1 (2 + a) r fun x r => cond (Nat.beq (zz_sd a) sd) (if x = 0 then none else if zz_b σ a x j then if zz_o w then zz_ev CE KE cs rt rb th sd n false es ls r (zz_w σ a x j w) else none else none) none
    | .aastore => zz_a1 t sk fun w r => zz_i1 r fun j r => zz_a1 (2 + a) r fun x r => cond (Nat.beq (zz_sd a) sd) (if x = 0 then none else if zz_b σ a x j then if w = 0 then none else zz_ev CE KE cs rt rb th sd n false es ls r (zz_w σ a x j w) else none) none
    | .arraylength => zz_a1 (2 + a) sk fun x r => if x = 0 then none else zz_ev CE KE cs rt rb th sd n false es ls ((0, zz_al σ a x) :: r) σ
    | .new _ => cond (Nat.beq (zz_sd a) sd || Nat.beq sd 2) (zz_ev CE KE cs rt rb th sd n false es ls ((1000 + a, zz_c σ a + 1) :: sk) (zz_n σ a 0 (zz_len a))) none
    | .newarray _ => zz_i1 sk fun x r => cond (Nat.beq (zz_sd a) sd) (if x = (zz_len a : Int) then zz_ev CE KE cs rt rb th sd n false es ls ((2 + a, zz_c σ a + 1) :: r) (zz_n σ a 1 (zz_len a)) else none) none
    | .anewarray _ => zz_i1 sk fun x r => cond (Nat.beq (zz_sd a) sd) (if x = (zz_len a : Int) then zz_ev CE KE cs rt rb th sd n false es ls ((2 + a, zz_c σ a + 1) :: r) (zz_n σ a 1 (zz_len a)) else none) none
    | .invokestatic _ => (match zz_ta tg sk [] with
      | some (vs, r) => cond (Nat.ble r.length 4) ((CE a vs σ).bind fun q => cond (Nat.beq t 999) (zz_ev CE KE cs rt rb th sd n false es ls r q.2) (zz_ev CE KE cs rt rb th sd n false es ls ((t, q.1) :: r) q.2)) none
      | none => none)
    | .invokevirtual _ => (match zz_ta tg sk [] with
      | some (x :: vs, r) => cond (Nat.ble r.length 4) (if x = 0 then none else (CE a (x :: vs) σ).bind fun q => cond (Nat.beq t 999) (zz_ev CE KE cs rt rb th sd n false es ls r q.2) (zz_ev CE KE cs rt rb th sd n false es ls ((t, q.1) :: r) q.2)) none
      | _ => none)
    | .invokespecial _ => cond (Nat.beq a 0)
        (match sk with | (u, _) :: r => cond (Nat.ble 1000 u && Nat.ble r.length 4) (zz_ev CE KE cs rt rb th sd n false es ls r σ) none | [] => none)
        (match zz_ta tg sk [] with
        | some (x :: vs, r) => cond (Nat.ble r.length 4) ((CE a (x :: vs) σ).bind fun q => zz_ev CE KE cs rt rb th sd n false es ls (zz_un (1000 + b) r) q.2) none
        | _ => none)
    | .ireturn => zz_i1 sk fun x _ => cond (Nat.beq rt 0) (cond rb (if zz_o x then some (x, σ) else none) (some (x, σ))) none
    | .areturn => (match sk with | (u, x) :: _ => cond (Nat.beq u rt || Nat.beq u 3000) (some (x, σ)) none | [] => none)
    | .return_ => cond (Nat.beq rt 999) (cond (Nat.beq th 0) (some (0, σ)) (match zz_lk ls 0 with | (u, x) => cond (Nat.beq u (1000 + th)) (if zz_ow σ th x (zz_own th) = true ∧ zz_m σ th + 1 = x then some (0, zz_f σ th) else none) none)) none
    | _ => none)
def zz_CE : List (Nat × (List Int → zz_S → zz_R)) → Nat → List Int → zz_S → zz_R
  | [], _, _, _ => none
  | p :: L, i, vs, σ => cond (Nat.beq p.1 i) (p.2 vs σ) (zz_CE L i vs σ)
/-- the live locals of a place at which the evaluator stops: local, tag, whether it is the only one of its kind -/
def zz_kc : List (Nat × Nat × Bool) → List (Nat × zz_V) → (List Int → zz_R) → zz_R
  | [], _, f => f []
  | (i, t, s) :: sp, ls, f => match zz_lk ls i with
    | (u, x) => cond (Nat.beq u t || (Nat.beq u 3000 && (Nat.ble 2 t && Nat.ble t 999))) (cond s (if x = 1 then zz_kc sp ls f else none) (zz_kc sp ls (fun r => f (x :: r)))) none
def zz_KE : List (Nat × List (Nat × Nat × Bool) × (List Int → zz_S → zz_R)) → Nat → List (Nat × zz_V) → List zz_V → zz_S → zz_R
  | [], _, _, _, _ => none
  | p :: L, pc, ls, sk, σ => cond (Nat.beq p.1 pc) (match sk with | [] => zz_kc p.2.1 ls (fun vs => p.2.2 vs σ) | _ => none) (zz_KE L pc ls sk σ)
theorem zz_fu_ex : ∃ n : Nat, 1000000000 ≤ n := ⟨1000000000, Nat.le_refl _⟩
/-- the fuel of a loop: large, and nothing that can be counted down by unfolding -/
noncomputable def zz_fu : Nat := Classical.choose zz_fu_ex

def zk_xD_new : List zz_E := [(0, false, .aload_n 0, 1, 0, (0, 0, 0, 0), 0, []),
  (1, false, .invokespecial 3, 3, 99, (0, 0, 0, 0), 0, []),
  (4, false, .aload_n 0, 1, 0, (0, 0, 0, 0), 0, []),
  (5, false, .bipush 100, 2, 0, (0, 0, 0, 0), 0, []),
  (7, false, .anewarray 9, 3, 100, (19, 0, 0, 0), 0, []),
  (10, false, .putfield 11, 3, 101, (4, 0, 21, 1), 0, []),
  (13, false, .aload_n 0, 1, 0, (0, 0, 0, 0), 0, []),
  (14, false, .bipush 100, 2, 0, (0, 0, 0, 0), 0, []),
  (16, false, .newarray .int, 2, 0, (20, 0, 0, 0), 0, []),
  (18, false, .putfield 17, 3, 103, (4, 1, 22, 1), 0, []),
  (21, false, .aload_n 0, 1, 0, (0, 0, 0, 0), 0, []),
  (22, false, .bipush 100, 2, 0, (0, 0, 0, 0), 0, []),
  (24, false, .newarray .boolean, 2, 0, (21, 0, 0, 0), 0, []),
  (26, false, .putfield 21, 3, 105, (4, 2, 23, 1), 0, []),
  (29, false, .aload_n 0, 1, 0, (0, 0, 0, 0), 0, []),
  (30, false, .iconst 0, 1, 0, (0, 0, 0, 0), 0, []),
  (31, false, .putfield 25, 3, 107, (4, 3, 0, 0), 0, []),
  (34, false, .return_, 1, 0, (0, 0, 0, 0), 0, [])]
noncomputable def xD_new (v0 : Int) (σ : zz_S) : zz_R := (let s1 := zz_n σ 19 1 100; (if true = true ∧ (zz_c σ 19 + 1) ≠ v0 then none else (let s2 := zz_w s1 4 v0 0 (zz_c σ 19 + 1); (let s3 := zz_n s2 20 1 100; (if true = true ∧ (zz_c s2 20 + 1) ≠ v0 then none else (let s4 := zz_w s3 4 v0 1 (zz_c s2 20 + 1); (let s5 := zz_n s4 21 1 100; (if true = true ∧ (zz_c s4 21 + 1) ≠ v0 then none else (let s6 := zz_w s5 4 v0 2 (zz_c s4 21 + 1); (let s7 := zz_w s6 4 v0 3 0; (if zz_ow s7 4 v0 (zz_own 4) = true ∧ zz_m s7 4 + 1 = v0 then (some (0, zz_f s7 4)) else none)))))))))))
set_option maxRecDepth 100000 in
set_option maxHeartbeats 4000000 in
theorem ze_xD_new (v0 : Int) (σ : zz_S) : xD_new v0 σ = zz_ev (zz_CE []) (zz_KE []) zk_xD_new 999 false 4 0 400 true (zz_sk zk_xD_new 0) [(0, 1004, v0)] [] σ := rfl
noncomputable def zw_xD_new : List Int → zz_S → zz_R := fun vs σ => match vs with
  | [a0] => xD_new a0 σ
  | _ => none
def zk_xB_new : List zz_E := [(0, false, .aload_n 0, 1, 0, (0, 0, 0, 0), 0, []),
  (1, false, .invokespecial 3, 3, 125, (0, 0, 0, 0), 0, []),
  (4, false, .aload_n 0, 1, 0, (0, 0, 0, 0), 0, []),
  (5, false, .sipush 300, 3, 0, (0, 0, 0, 0), 0, []),
  (8, false, .newarray .int, 2, 0, (22, 0, 0, 0), 0, []),
  (10, false, .putfield 9, 3, 126, (5, 0, 24, 1), 0, []),
  (13, false, .aload_n 0, 1, 0, (0, 0, 0, 0), 0, []),
  (14, false, .sipush 300, 3, 0, (0, 0, 0, 0), 0, []),
  (17, false, .newarray .int, 2, 0, (23, 0, 0, 0), 0, []),
  (19, false, .putfield 15, 3, 128, (5, 1, 25, 1), 0, []),
  (22, false, .aload_n 0, 1, 0, (0, 0, 0, 0), 0, []),
  (23, false, .sipush 300, 3, 0, (0, 0, 0, 0), 0, []),
  (26, false, .newarray .int, 2, 0, (24, 0, 0, 0), 0, []),
  (28, false, .putfield 18, 3, 130, (5, 2, 26, 1), 0, []),
  (31, false, .aload_n 0, 1, 0, (0, 0, 0, 0), 0, []),
  (32, false, .iconst 0, 1, 0, (0, 0, 0, 0), 0, []),
  (33, false, .putfield 21, 3, 132, (5, 3, 0, 0), 0, []),
  (36, false, .return_, 1, 0, (0, 0, 0, 0), 0, [])]
noncomputable def xB_new (v0 : Int) (σ : zz_S) : zz_R := (let s1 := zz_n σ 22 1 300; (if true = true ∧ (zz_c σ 22 + 1) ≠ v0 then none else (let s2 := zz_w s1 5 v0 0 (zz_c σ 22 + 1); (let s3 := zz_n s2 23 1 300; (if true = true ∧ (zz_c s2 23 + 1) ≠ v0 then none else (let s4 := zz_w s3 5 v0 1 (zz_c s2 23 + 1); (let s5 := zz_n s4 24 1 300; (if true = true ∧ (zz_c s4 24 + 1) ≠ v0 then none else (let s6 := zz_w s5 5 v0 2 (zz_c s4 24 + 1); (let s7 := zz_w s6 5 v0 3 0; (if zz_ow s7 5 v0 (zz_own 5) = true ∧ zz_m s7 5 + 1 = v0 then (some (0, zz_f s7 5)) else none)))))))))))
set_option maxRecDepth 100000 in
set_option maxHeartbeats 4000000 in
theorem ze_xB_new (v0 : Int) (σ : zz_S) : xB_new v0 σ = zz_ev (zz_CE []) (zz_KE []) zk_xB_new 999 false 5 0 400 true (zz_sk zk_xB_new 0) [(0, 1005, v0)] [] σ := rfl
noncomputable def zw_xB_new : List Int → zz_S → zz_R := fun vs σ => match vs with
  | [a0] => xB_new a0 σ
  | _ => none
def zk_xP_new : List zz_E := [(0, false, .aload_n 0, 1, 0, (0, 0, 0, 0), 0, []),
  (1, false, .invokespecial 3, 3, 148, (0, 0, 0, 0), 0, []),
  (4, false, .aload_n 0, 1, 0, (0, 0, 0, 0), 0, []),
  (5, false, .bipush 40, 2, 0, (0, 0, 0, 0), 0, []),
  (7, false, .newarray .int, 2, 0, (25, 0, 0, 0), 0, []),
  (9, false, .putfield 9, 3, 149, (6, 0, 27, 1), 0, []),
  (12, false, .aload_n 0, 1, 0, (0, 0, 0, 0), 0, []),
  (13, false, .bipush 40, 2, 0, (0, 0, 0, 0), 0, []),
  (15, false, .newarray .int, 2, 0, (26, 0, 0, 0), 0, []),
  (17, false, .putfield 15, 3, 150, (6, 1, 28, 1), 0, []),
  (20, false, .aload_n 0, 1, 0, (0, 0, 0, 0), 0, []),
  (21, false, .bipush 40, 2, 0, (0, 0, 0, 0), 0, []),
  (23, false, .newarray .int, 2, 0, (27, 0, 0, 0), 0, []),
  (25, false, .putfield 18, 3, 151, (6, 2, 29, 1), 0, []),
  (28, false, .aload_n 0, 1, 0, (0, 0, 0, 0), 0, []),
  (29, false, .iconst 0, 1, 0, (0, 0, 0, 0), 0, []),
  (30, false, .putfield 21, 3, 152, (6, 3, 0, 0), 0, []),
  (33, false, .return_, 1, 0, (0, 0, 0, 0), 0, [])]
noncomputable def xP_new (v0 : Int) (σ : zz_S) : zz_R := (let s1 := zz_n σ 25 1 40; (if true = true ∧ (zz_c σ 25 + 1) ≠ v0 then none else (let s2 := zz_w s1 6 v0 0 (zz_c σ 25 + 1); (let s3 := zz_n s2 26 1 40; (if true = true ∧ (zz_c s2 26 + 1) ≠ v0 then none else (let s4 := zz_w s3 6 v0 1 (zz_c s2 26 + 1); (let s5 := zz_n s4 27 1 40; (if true = true ∧ (zz_c s4 27 + 1) ≠ v0 then none else (let s6 := zz_w s5 6 v0 2 (zz_c s4 27 + 1); (let s7 := zz_w s6 6 v0 3 0; (if zz_ow s7 6 v0 (zz_own 6) = true ∧ zz_m s7 6 + 1 = v0 then (some (0, zz_f s7 6)) else none)))))))))))
set_option maxRecDepth 100000 in
set_option maxHeartbeats 4000000 in
theorem ze_xP_new (v0 : Int) (σ : zz_S) : xP_new v0 σ = zz_ev (zz_CE []) (zz_KE []) zk_xP_new 999 false 6 0 400 true (zz_sk zk_xP_new 0) [(0, 1006, v0)] [] σ := rfl
noncomputable def zw_xP_new : List Int → zz_S → zz_R := fun vs σ => match vs with
  | [a0] => xP_new a0 σ
  | _ => none
def zk_x_new : List zz_E := [(0, false, .aload_n 0, 1, 0, (0, 0, 0, 0), 0, []),
  (1, false, .invokespecial 1, 3, 87, (0, 0, 0, 0), 0, []),
  (4, false, .aload_n 0, 1, 0, (0, 0, 0, 0), 0, []),
  (5, false, .bipush 60, 2, 0, (0, 0, 0, 0), 0, []),
  (7, false, .anewarray 9, 3, 90, (11, 0, 0, 0), 0, []),
  (10, false, .putfield 11, 3, 163, (3, 0, 13, 1), 0, []),
  (13, false, .aload_n 0, 1, 0, (0, 0, 0, 0), 0, []),
  (14, false, .sipush 2000, 3, 0, (0, 0, 0, 0), 0, []),
  (17, false, .anewarray 15, 3, 92, (12, 0, 0, 0), 0, []),
  (20, false, .putfield 17, 3, 164, (3, 1, 14, 1), 0, []),
  (23, false, .aload_n 0, 1, 0, (0, 0, 0, 0), 0, []),
  (24, false, .bipush 8, 2, 0, (0, 0, 0, 0), 0, []),
  (26, false, .anewarray 15, 3, 92, (13, 0, 0, 0), 0, []),
  (29, false, .putfield 21, 3, 165, (3, 2, 15, 1), 0, []),
  (32, false, .aload_n 0, 1, 0, (0, 0, 0, 0), 0, []),
  (33, false, .new 24, 3, 94, (4, 0, 0, 0), 0, []),
  (36, false, .dup, 1, 0, (0, 0, 0, 0), 0, []),
  (37, false, .invokespecial 26, 3, 96, (75, 4, 999, 1), 0, [1004]),
  (40, false, .putfield 27, 3, 166, (3, 3, 6, 1), 0, []),
  (43, false, .aload_n 0, 1, 0, (0, 0, 0, 0), 0, []),
  (44, false, .new 31, 3, 120, (5, 0, 0, 0), 0, []),
  (47, false, .dup, 1, 0, (0, 0, 0, 0), 0, []),
  (48, false, .invokespecial 33, 3, 122, (81, 5, 999, 1), 0, [1005]),
  (51, false, .putfield 34, 3, 167, (3, 4, 7, 1), 0, []),
  (54, false, .aload_n 0, 1, 0, (0, 0, 0, 0), 0, []),
  (55, false, .new 38, 3, 143, (6, 0, 0, 0), 0, []),
  (58, false, .dup, 1, 0, (0, 0, 0, 0), 0, []),
  (59, false, .invokespecial 40, 3, 145, (83, 6, 999, 1), 0, [1006]),
  (62, false, .putfield 41, 3, 168, (3, 5, 8, 1), 0, []),
  (65, false, .aload_n 0, 1, 0, (0, 0, 0, 0), 0, []),
  (66, false, .bipush 8, 2, 0, (0, 0, 0, 0), 0, []),
  (68, false, .newarray .int, 2, 0, (14, 0, 0, 0), 0, []),
  (70, false, .putfield 45, 3, 169, (3, 6, 16, 1), 0, []),
  (73, false, .aload_n 0, 1, 0, (0, 0, 0, 0), 0, []),
  (74, false, .bipush 8, 2, 0, (0, 0, 0, 0), 0, []),
  (76, false, .newarray .int, 2, 0, (15, 0, 0, 0), 0, []),
  (78, false, .putfield 49, 3, 170, (3, 7, 17, 1), 0, []),
  (81, false, .aload_n 0, 1, 0, (0, 0, 0, 0), 0, []),
  (82, false, .bipush 8, 2, 0, (0, 0, 0, 0), 0, []),
  (84, false, .newarray .boolean, 2, 0, (16, 0, 0, 0), 0, []),
  (86, false, .putfield 52, 3, 171, (3, 8, 18, 1), 0, []),
  (89, false, .aload_n 0, 1, 0, (0, 0, 0, 0), 0, []),
  (90, false, .bipush 8, 2, 0, (0, 0, 0, 0), 0, []),
  (92, false, .newarray .int, 2, 0, (17, 0, 0, 0), 0, []),
  (94, false, .putfield 56, 3, 172, (3, 9, 19, 1), 0, []),
  (97, false, .aload_n 0, 1, 0, (0, 0, 0, 0), 0, []),
  (98, false, .bipush 60, 2, 0, (0, 0, 0, 0), 0, []),
  (100, false, .newarray .int, 2, 0, (18, 0, 0, 0), 0, []),
  (102, false, .putfield 59, 3, 173, (3, 10, 20, 1), 0, []),
  (105, false, .aload_n 0, 1, 0, (0, 0, 0, 0), 0, []),
  (106, false, .iconst 0, 1, 0, (0, 0, 0, 0), 0, []),
  (107, false, .putfield 62, 3, 174, (3, 11, 0, 0), 0, []),
  (110, false, .aload_n 0, 1, 0, (0, 0, 0, 0), 0, []),
  (111, false, .iconst 0, 1, 0, (0, 0, 0, 0), 0, []),
  (112, false, .putfield 66, 3, 175, (3, 12, 0, 0), 0, []),
  (115, false, .aload_n 0, 1, 0, (0, 0, 0, 0), 0, []),
  (116, false, .iconst 0, 1, 0, (0, 0, 0, 0), 0, []),
  (117, false, .putfield 69, 3, 176, (3, 13, 0, 0), 0, []),
  (120, false, .aload_n 0, 1, 0, (0, 0, 0, 0), 0, []),
  (121, false, .iconst 0, 1, 0, (0, 0, 0, 0), 0, []),
  (122, false, .putfield 72, 3, 177, (3, 14, 0, 0), 0, []),
  (125, false, .aload_n 0, 1, 0, (0, 0, 0, 0), 0, []),
  (126, false, .iconst 1, 1, 0, (0, 0, 0, 0), 0, []),
  (127, false, .putfield 75, 3, 178, (3, 15, 0, 0), 0, []),
  (130, false, .aload_n 0, 1, 0, (0, 0, 0, 0), 0, []),
  (131, false, .iconst 0, 1, 0, (0, 0, 0, 0), 0, []),
  (132, false, .putfield 78, 3, 179, (3, 16, 0, 0), 0, []),
  (135, false, .aload_n 0, 1, 0, (0, 0, 0, 0), 0, []),
  (136, false, .iconst 0, 1, 0, (0, 0, 0, 0), 0, []),
  (137, false, .putfield 81, 3, 180, (3, 17, 0, 0), 0, []),
  (140, false, .aload_n 0, 1, 0, (0, 0, 0, 0), 0, []),
  (141, false, .iconst (-1), 1, 0, (0, 0, 0, 0), 0, []),
  (142, false, .putfield 84, 3, 181, (3, 18, 0, 0), 0, []),
  (145, false, .aload_n 0, 1, 0, (0, 0, 0, 0), 0, []),
  (146, false, .iconst 0, 1, 0, (0, 0, 0, 0), 0, []),
  (147, false, .putfield 87, 3, 182, (3, 19, 0, 0), 1, []),
  (150, false, .return_, 1, 0, (0, 0, 0, 0), 0, [])]
noncomputable def x_new (v0 : Int) (σ : zz_S) : zz_R := (let s1 := zz_n σ 11 1 60; (if true = true ∧ (zz_c σ 11 + 1) ≠ v0 then none else (let s2 := zz_w s1 3 v0 0 (zz_c σ 11 + 1); (let s3 := zz_n s2 12 1 2000; (if true = true ∧ (zz_c s2 12 + 1) ≠ v0 then none else (let s4 := zz_w s3 3 v0 1 (zz_c s2 12 + 1); (let s5 := zz_n s4 13 1 8; (if true = true ∧ (zz_c s4 13 + 1) ≠ v0 then none else (let s6 := zz_w s5 3 v0 2 (zz_c s4 13 + 1); (let s7 := zz_n s6 4 0 4; ((xD_new (zz_c s6 4 + 1) s7).bind fun q8 => (if true = true ∧ (zz_c s6 4 + 1) ≠ v0 then none else (let s9 := zz_w q8.2 3 v0 3 (zz_c s6 4 + 1); (let s10 := zz_n s9 5 0 4; ((xB_new (zz_c s9 5 + 1) s10).bind fun q11 => (if true = true ∧ (zz_c s9 5 + 1) ≠ v0 then none else (let s12 := zz_w q11.2 3 v0 4 (zz_c s9 5 + 1); (let s13 := zz_n s12 6 0 4; ((xP_new (zz_c s12 6 + 1) s13).bind fun q14 => (if true = true ∧ (zz_c s12 6 + 1) ≠ v0 then none else (let s15 := zz_w q14.2 3 v0 5 (zz_c s12 6 + 1); (let s16 := zz_n s15 14 1 8; (if true = true ∧ (zz_c s15 14 + 1) ≠ v0 then none else (let s17 := zz_w s16 3 v0 6 (zz_c s15 14 + 1); (let s18 := zz_n s17 15 1 8; (if true = true ∧ (zz_c s17 15 + 1) ≠ v0 then none else (let s19 := zz_w s18 3 v0 7 (zz_c s17 15 + 1); (let s20 := zz_n s19 16 1 8; (if true = true ∧ (zz_c s19 16 + 1) ≠ v0 then none else (let s21 := zz_w s20 3 v0 8 (zz_c s19 16 + 1); (let s22 := zz_n s21 17 1 8; (if true = true ∧ (zz_c s21 17 + 1) ≠ v0 then none else (let s23 := zz_w s22 3 v0 9 (zz_c s21 17 + 1); (let s24 := zz_n s23 18 1 60; (if true = true ∧ (zz_c s23 18 + 1) ≠ v0 then none else (let s25 := zz_w s24 3 v0 10 (zz_c s23 18 + 1); (let s26 := zz_w s25 3 v0 11 0; (let s27 := zz_w s26 3 v0 12 0; (let s28 := zz_w s27 3 v0 13 0; (let s29 := zz_w s28 3 v0 14 0; (let s30 := zz_w s29 3 v0 15 1; (let s31 := zz_w s30 3 v0 16 0; (let s32 := zz_w s31 3 v0 17 0; (let s33 := zz_w s32 3 v0 18 (-1); (let s34 := zz_w s33 3 v0 19 0; (if zz_ow s34 3 v0 (zz_own 3) = true ∧ zz_m s34 3 + 1 = v0 then (some (0, zz_f s34 3)) else none))))))))))))))))))))))))))))))))))))))))))))))
set_option maxRecDepth 100000 in
set_option maxHeartbeats 4000000 in
theorem ze_x_new (v0 : Int) (σ : zz_S) : x_new v0 σ = zz_ev (zz_CE [(75, zw_xD_new), (81, zw_xB_new), (83, zw_xP_new)]) (zz_KE []) zk_x_new 999 false 3 0 400 true (zz_sk zk_x_new 0) [(0, 1003, v0)] [] σ := rfl
noncomputable def zw_x_new : List Int → zz_S → zz_R := fun vs σ => match vs with
  | [a0] => x_new a0 σ
  | _ => none
def zk_x_isWithin : List zz_E := [(0, false, .iload_n 0, 1, 0, (0, 0, 0, 0), 0, []),
  (1, false, .iload_n 1, 1, 0, (0, 0, 0, 0), 0, []),
  (2, false, .if_icmp .lt 12, 3, 0, (14, 0, 0, 0), 0, []),
  (5, false, .iload_n 0, 1, 0, (0, 0, 0, 0), 0, []),
  (6, false, .iload_n 2, 1, 0, (0, 0, 0, 0), 0, []),
  (7, false, .if_icmp .gt 7, 3, 0, (14, 0, 0, 0), 0, []),
  (10, false, .iconst 1, 1, 0, (0, 0, 0, 0), 0, []),
  (11, false, .goto 4, 3, 0, (15, 0, 0, 0), 0, []),
  (14, false, .iconst 0, 1, 0, (0, 0, 0, 0), 0, []),
  (15, false, .ireturn, 1, 0, (0, 0, 0, 0), 0, [])]
noncomputable def x_isWithin (v0 v1 v2 : Int) (σ : zz_S) : zz_R := (if v0 < v1 then (some (0, σ)) else (if v0 ≤ v2 then (some (1, σ)) else (some (0, σ))))
set_option maxRecDepth 100000 in
set_option maxHeartbeats 4000000 in
theorem ze_x_isWithin (v0 v1 v2 : Int) (σ : zz_S) : x_isWithin v0 v1 v2 σ = zz_ev (zz_CE []) (zz_KE []) zk_x_isWithin 0 true 0 0 400 true (zz_sk zk_x_isWithin 0) [(0, 0, v0), (1, 0, v1), (2, 0, v2)] [] σ := rfl
noncomputable def zw_x_isWithin : List Int → zz_S → zz_R := fun vs σ => match vs with
  | [a0, a1, a2] => x_isWithin a0 a1 a2 σ
  | _ => none
def zk_x_workers : List zz_E := [(0, false, .iload_n 1, 1, 0, (0, 0, 0, 0), 0, []),
  (1, false, .iconst 1, 1, 0, (0, 0, 0, 0), 0, []),
  (2, false, .bipush 8, 2, 0, (0, 0, 0, 0), 0, []),
  (4, false, .invokestatic 91, 3, 228, (72, 3, 0, 0), 0, [0, 0, 0]),
  (7, false, .ifCond .ne 6, 3, 0, (13, 0, 0, 0), 0, []),
  (10, false, .bipush (-2), 2, 0, (0, 0, 0, 0), 0, []),
  (12, false, .ireturn, 1, 0, (0, 0, 0, 0), 0, []),
  (13, false, .aload_n 0, 1, 0, (0, 0, 0, 0), 0, []),
  (14, false, .getfield 69, 3, 176, (3, 13, 0, 0), 0, []),
  (17, false, .ifCond .le 6, 3, 0, (23, 0, 0, 0), 0, []),
  (20, false, .bipush (-3), 2, 0, (0, 0, 0, 0), 0, []),
  (22, false, .ireturn, 1, 0, (0, 0, 0, 0), 0, []),
  (23, false, .aload_n 0, 1, 0, (0, 0, 0, 0), 0, []),
  (24, false, .iload_n 1, 1, 0, (0, 0, 0, 0), 0, []),
  (25, false, .putfield 75, 3, 178, (3, 15, 0, 0), 0, []),
  (28, false, .iconst 0, 1, 0, (0, 0, 0, 0), 0, []),
  (29, false, .istore_n 2, 1, 0, (0, 0, 0, 0), 0, []),
  (30, true, .iload_n 2, 1, 0, (0, 0, 0, 0), 0, []),
  (31, false, .bipush 8, 2, 0, (0, 0, 0, 0), 0, []),
  (33, false, .if_icmp .ge 16, 3, 0, (49, 0, 0, 0), 0, []),
  (36, false, .aload_n 0, 1, 0, (0, 0, 0, 0), 0, []),
  (37, false, .getfield 49, 3, 170, (3, 7, 17, 1), 0, []),
  (40, false, .iload_n 2, 1, 0, (0, 0, 0, 0), 0, []),
  (41, false, .iconst 0, 1, 0, (0, 0, 0, 0), 0, []),
  (42, false, .iastore, 1, 0, (15, 0, 0, 0), 0, []),
  (43, false, .iinc 2 1, 3, 0, (0, 0, 0, 0), 0, []),
  (46, false, .goto (-16), 3, 0, (30, 0, 0, 0), 0, []),
  (49, false, .iload_n 1, 1, 0, (0, 0, 0, 0), 0, []),
  (50, false, .ireturn, 1, 0, (0, 0, 0, 0), 0, [])]
noncomputable def x_workers_30 : Nat → Int → Int → zz_S → zz_R
  | 0, _, _, _ => none
  | n + 1, v1, v2, σ => (if v2 < 8 then (if zz_b σ 15 1 v2 then (let s1 := zz_w σ 15 1 v2 0; (x_workers_30 n v1 (zz_r (v2 + 1)) s1)) else none) else (some (v1, σ)))
set_option maxRecDepth 100000 in
set_option maxHeartbeats 4000000 in
theorem ze_x_workers_30 (n : Nat) (v1 v2 : Int) (σ : zz_S) : x_workers_30 (n + 1) v1 v2 σ = zz_ev (zz_CE []) (zz_KE [(30, [(0, 5, true), (1, 0, false), (2, 0, false)], fun vs σ => match vs with | [b0, b1] => x_workers_30 n b0 b1 σ | _ => none)]) zk_x_workers 0 false 0 0 400 true (zz_sk zk_x_workers 30) [(0, 5, 1), (1, 0, v1), (2, 0, v2)] [] σ := rfl
noncomputable def x_workers (v1 : Int) (σ : zz_S) : zz_R := ((x_isWithin v1 1 8 σ).bind fun q1 => (if q1.1 = 0 then (some ((-2), q1.2)) else (if (zz_h q1.2 3 1 13) ≤ 0 then (let s2 := zz_w q1.2 3 1 15 v1; (x_workers_30 zz_fu v1 0 s2)) else (some ((-3), q1.2)))))
set_option maxRecDepth 100000 in
set_option maxHeartbeats 4000000 in
theorem ze_x_workers (v1 : Int) (σ : zz_S) : x_workers v1 σ = zz_ev (zz_CE [(72, zw_x_isWithin)]) (zz_KE [(30, [(0, 5, true), (1, 0, false), (2, 0, false)], fun vs σ => match vs with | [b0, b1] => x_workers_30 zz_fu b0 b1 σ | _ => none)]) zk_x_workers 0 false 0 0 400 true (zz_sk zk_x_workers 0) [(0, 5, 1), (1, 0, v1)] [] σ := rfl
noncomputable def zw_x_workers : List Int → zz_S → zz_R := fun vs σ => match vs with
  | [a0, a1] => if a0 = 1 then x_workers a1 σ else none
  | _ => none
def zk_x_group : List zz_E := [(0, false, .iload_n 1, 1, 0, (0, 0, 0, 0), 0, []),
  (1, false, .iconst 1, 1, 0, (0, 0, 0, 0), 0, []),
  (2, false, .bipush 8, 2, 0, (0, 0, 0, 0), 0, []),
  (4, false, .invokestatic 91, 3, 228, (72, 3, 0, 0), 0, [0, 0, 0]),
  (7, false, .ifCond .ne 6, 3, 0, (13, 0, 0, 0), 0, []),
  (10, false, .bipush (-2), 2, 0, (0, 0, 0, 0), 0, []),
  (12, false, .ireturn, 1, 0, (0, 0, 0, 0), 0, []),
  (13, false, .aload_n 0, 1, 0, (0, 0, 0, 0), 0, []),
  (14, false, .getfield 72, 3, 177, (3, 14, 0, 0), 0, []),
  (17, false, .bipush 8, 2, 0, (0, 0, 0, 0), 0, []),
  (19, false, .if_icmp .lt 6, 3, 0, (25, 0, 0, 0), 0, []),
  (22, false, .bipush (-4), 2, 0, (0, 0, 0, 0), 0, []),
  (24, false, .ireturn, 1, 0, (0, 0, 0, 0), 0, []),
  (25, false, .aload_n 0, 1, 0, (0, 0, 0, 0), 0, []),
  (26, false, .getfield 45, 3, 169, (3, 6, 16, 1), 0, []),
  (29, false, .aload_n 0, 1, 0, (0, 0, 0, 0), 0, []),
  (30, false, .getfield 72, 3, 177, (3, 14, 0, 0), 0, []),
  (33, false, .iload_n 1, 1, 0, (0, 0, 0, 0), 0, []),
  (34, false, .iastore, 1, 0, (14, 0, 0, 0), 0, []),
  (35, false, .aload_n 0, 1, 0, (0, 0, 0, 0), 0, []),
  (36, false, .dup, 1, 0, (0, 0, 0, 0), 0, []),
  (37, false, .getfield 72, 3, 177, (3, 14, 0, 0), 0, []),
  (40, false, .iconst 1, 1, 0, (0, 0, 0, 0), 0, []),
  (41, false, .iadd, 1, 0, (0, 0, 0, 0), 0, []),
  (42, false, .putfield 72, 3, 177, (3, 14, 0, 0), 0, []),
  (45, false, .aload_n 0, 1, 0, (0, 0, 0, 0), 0, []),
  (46, false, .getfield 72, 3, 177, (3, 14, 0, 0), 0, []),
  (49, false, .iconst 1, 1, 0, (0, 0, 0, 0), 0, []),
  (50, false, .isub, 1, 0, (0, 0, 0, 0), 0, []),
  (51, false, .ireturn, 1, 0, (0, 0, 0, 0), 0, [])]
noncomputable def x_group (v1 : Int) (σ : zz_S) : zz_R := ((x_isWithin v1 1 8 σ).bind fun q1 => (if q1.1 = 0 then (some ((-2), q1.2)) else (if (zz_h q1.2 3 1 14) < 8 then (if zz_b q1.2 14 1 (zz_h q1.2 3 1 14) then (let s2 := zz_w q1.2 14 1 (zz_h q1.2 3 1 14) v1; (let s3 := zz_w s2 3 1 14 (zz_r ((zz_h s2 3 1 14) + 1)); (some ((zz_r ((zz_h s3 3 1 14) - 1)), s3)))) else none) else (some ((-4), q1.2)))))
set_option maxRecDepth 100000 in
set_option maxHeartbeats 4000000 in
theorem ze_x_group (v1 : Int) (σ : zz_S) : x_group v1 σ = zz_ev (zz_CE [(72, zw_x_isWithin)]) (zz_KE []) zk_x_group 0 false 0 0 400 true (zz_sk zk_x_group 0) [(0, 5, 1), (1, 0, v1)] [] σ := rfl
noncomputable def zw_x_group : List Int → zz_S → zz_R := fun vs σ => match vs with
  | [a0, a1] => if a0 = 1 then x_group a1 σ else none
  | _ => none
def zk_xC_new : List zz_E := [(0, false, .aload_n 0, 1, 0, (0, 0, 0, 0), 0, []),
  (1, false, .invokespecial 3, 3, 251, (0, 0, 0, 0), 0, []),
  (4, false, .aload_n 0, 1, 0, (0, 0, 0, 0), 0, []),
  (5, false, .iconst 0, 1, 0, (0, 0, 0, 0), 0, []),
  (6, false, .putfield 9, 3, 253, (8, 0, 0, 0), 0, []),
  (9, false, .aload_n 0, 1, 0, (0, 0, 0, 0), 0, []),
  (10, false, .ldc2_w 15, 3, 252, (0, 0, 0, 0), (-1), []),
  (13, false, .putfield 17, 3, 255, (8, 1, 1, 0), 0, []),
  (16, false, .aload_n 0, 1, 0, (0, 0, 0, 0), 0, []),
  (17, false, .iconst (-1), 1, 0, (0, 0, 0, 0), 0, []),
  (18, false, .putfield 21, 3, 256, (8, 2, 0, 0), 0, []),
  (21, false, .aload_n 0, 1, 0, (0, 0, 0, 0), 0, []),
  (22, false, .iconst (-1), 1, 0, (0, 0, 0, 0), 0, []),
  (23, false, .putfield 24, 3, 257, (8, 3, 0, 0), 0, []),
  (26, false, .aload_n 0, 1, 0, (0, 0, 0, 0), 0, []),
  (27, false, .iconst (-1), 1, 0, (0, 0, 0, 0), 0, []),
  (28, false, .putfield 27, 3, 258, (8, 4, 0, 0), 0, []),
  (31, false, .aload_n 0, 1, 0, (0, 0, 0, 0), 0, []),
  (32, false, .iconst (-1), 1, 0, (0, 0, 0, 0), 0, []),
  (33, false, .putfield 30, 3, 259, (8, 5, 0, 0), 0, []),
  (36, false, .aload_n 0, 1, 0, (0, 0, 0, 0), 0, []),
  (37, false, .iconst (-1), 1, 0, (0, 0, 0, 0), 0, []),
  (38, false, .putfield 33, 3, 260, (8, 6, 0, 0), 0, []),
  (41, false, .aload_n 0, 1, 0, (0, 0, 0, 0), 0, []),
  (42, false, .iconst 0, 1, 0, (0, 0, 0, 0), 0, []),
  (43, false, .putfield 36, 3, 261, (8, 7, 0, 0), 1, []),
  (46, false, .return_, 1, 0, (0, 0, 0, 0), 0, [])]
noncomputable def xC_new (v0 : Int) (σ : zz_S) : zz_R := (let s1 := zz_w σ 8 v0 0 0; (let s2 := zz_w s1 8 v0 1 (-1); (let s3 := zz_w s2 8 v0 2 (-1); (let s4 := zz_w s3 8 v0 3 (-1); (let s5 := zz_w s4 8 v0 4 (-1); (let s6 := zz_w s5 8 v0 5 (-1); (let s7 := zz_w s6 8 v0 6 (-1); (let s8 := zz_w s7 8 v0 7 0; (if zz_ow s8 8 v0 (zz_own 8) = true ∧ zz_m s8 8 + 1 = v0 then (some (0, zz_f s8 8)) else none)))))))))
set_option maxRecDepth 100000 in
set_option maxHeartbeats 4000000 in
theorem ze_xC_new (v0 : Int) (σ : zz_S) : xC_new v0 σ = zz_ev (zz_CE []) (zz_KE []) zk_xC_new 999 false 8 0 400 true (zz_sk zk_xC_new 0) [(0, 1008, v0)] [] σ := rfl
noncomputable def zw_xC_new : List Int → zz_S → zz_R := fun vs σ => match vs with
  | [a0] => xC_new a0 σ
  | _ => none
def zk_xN_new : List zz_E := [(0, false, .aload_n 0, 1, 0, (0, 0, 0, 0), 0, []),
  (1, false, .invokespecial 3, 3, 284, (0, 0, 0, 0), 0, []),
  (4, false, .aload_n 0, 1, 0, (0, 0, 0, 0), 0, []),
  (5, false, .iconst 4, 1, 0, (0, 0, 0, 0), 0, []),
  (6, false, .newarray .int, 2, 0, (29, 0, 0, 0), 0, []),
  (8, false, .putfield 9, 3, 285, (9, 0, 31, 1), 0, []),
  (11, false, .aload_n 0, 1, 0, (0, 0, 0, 0), 0, []),
  (12, false, .iconst 4, 1, 0, (0, 0, 0, 0), 0, []),
  (13, false, .newarray .int, 2, 0, (30, 0, 0, 0), 0, []),
  (15, false, .putfield 15, 3, 287, (9, 1, 32, 1), 0, []),
  (18, false, .aload_n 0, 1, 0, (0, 0, 0, 0), 0, []),
  (19, false, .iconst 0, 1, 0, (0, 0, 0, 0), 0, []),
  (20, false, .putfield 18, 3, 288, (9, 2, 0, 0), 0, []),
  (23, false, .return_, 1, 0, (0, 0, 0, 0), 0, [])]
noncomputable def xN_new (v0 : Int) (σ : zz_S) : zz_R := (let s1 := zz_n σ 29 1 4; (if true = true ∧ (zz_c σ 29 + 1) ≠ v0 then none else (let s2 := zz_w s1 9 v0 0 (zz_c σ 29 + 1); (let s3 := zz_n s2 30 1 4; (if true = true ∧ (zz_c s2 30 + 1) ≠ v0 then none else (let s4 := zz_w s3 9 v0 1 (zz_c s2 30 + 1); (let s5 := zz_w s4 9 v0 2 0; (if zz_ow s5 9 v0 (zz_own 9) = true ∧ zz_m s5 9 + 1 = v0 then (some (0, zz_f s5 9)) else none))))))))
set_option maxRecDepth 100000 in
set_option maxHeartbeats 4000000 in
theorem ze_xN_new (v0 : Int) (σ : zz_S) : xN_new v0 σ = zz_ev (zz_CE []) (zz_KE []) zk_xN_new 999 false 9 0 400 true (zz_sk zk_xN_new 0) [(0, 1009, v0)] [] σ := rfl
noncomputable def zw_xN_new : List Int → zz_S → zz_R := fun vs σ => match vs with
  | [a0] => xN_new a0 σ
  | _ => none
def zk_xT_new : List zz_E := [(0, false, .aload_n 0, 1, 0, (0, 0, 0, 0), 0, []),
  (1, false, .invokespecial 3, 3, 245, (0, 0, 0, 0), 0, []),
  (4, false, .aload_n 0, 1, 0, (0, 0, 0, 0), 0, []),
  (5, false, .bipush 6, 2, 0, (0, 0, 0, 0), 0, []),
  (7, false, .newarray .int, 2, 0, (28, 0, 0, 0), 0, []),
  (9, false, .dup, 1, 0, (0, 0, 0, 0), 0, []),
  (10, false, .iconst 0, 1, 0, (0, 0, 0, 0), 0, []),
  (11, false, .iconst 1, 1, 0, (0, 0, 0, 0), 0, []),
  (12, false, .iastore, 1, 0, (28, 0, 0, 0), 0, []),
  (13, false, .dup, 1, 0, (0, 0, 0, 0), 0, []),
  (14, false, .iconst 1, 1, 0, (0, 0, 0, 0), 0, []),
  (15, false, .iconst 0, 1, 0, (0, 0, 0, 0), 0, []),
  (16, false, .iastore, 1, 0, (28, 0, 0, 0), 0, []),
  (17, false, .dup, 1, 0, (0, 0, 0, 0), 0, []),
  (18, false, .iconst 2, 1, 0, (0, 0, 0, 0), 0, []),
  (19, false, .iconst (-1), 1, 0, (0, 0, 0, 0), 0, []),
  (20, false, .iastore, 1, 0, (28, 0, 0, 0), 0, []),
  (21, false, .dup, 1, 0, (0, 0, 0, 0), 0, []),
  (22, false, .iconst 3, 1, 0, (0, 0, 0, 0), 0, []),
  (23, false, .iconst 0, 1, 0, (0, 0, 0, 0), 0, []),
  (24, false, .iastore, 1, 0, (28, 0, 0, 0), 0, []),
  (25, false, .dup, 1, 0, (0, 0, 0, 0), 0, []),
  (26, false, .iconst 4, 1, 0, (0, 0, 0, 0), 0, []),
  (27, false, .iconst 0, 1, 0, (0, 0, 0, 0), 0, []),
  (28, false, .iastore, 1, 0, (28, 0, 0, 0), 0, []),
  (29, false, .dup, 1, 0, (0, 0, 0, 0), 0, []),
  (30, false, .iconst 5, 1, 0, (0, 0, 0, 0), 0, []),
  (31, false, .iconst 0, 1, 0, (0, 0, 0, 0), 0, []),
  (32, false, .iastore, 1, 0, (28, 0, 0, 0), 0, []),
  (33, false, .putfield 9, 3, 306, (7, 4, 30, 1), 0, []),
  (36, false, .aload_n 0, 1, 0, (0, 0, 0, 0), 0, []),
  (37, false, .new 15, 3, 246, (8, 0, 0, 0), 0, []),
  (40, false, .dup, 1, 0, (0, 0, 0, 0), 0, []),
  (41, false, .invokespecial 17, 3, 248, (93, 8, 999, 1), 0, [1008]),
  (44, false, .putfield 18, 3, 310, (7, 5, 10, 1), 0, []),
  (47, false, .aload_n 0, 1, 0, (0, 0, 0, 0), 0, []),
  (48, false, .new 22, 3, 279, (9, 0, 0, 0), 0, []),
  (51, false, .dup, 1, 0, (0, 0, 0, 0), 0, []),
  (52, false, .invokespecial 24, 3, 281, (103, 9, 999, 1), 0, [1009]),
  (55, false, .putfield 25, 3, 312, (7, 6, 11, 1), 0, []),
  (58, false, .aload_n 0, 1, 0, (0, 0, 0, 0), 0, []),
  (59, false, .iconst 0, 1, 0, (0, 0, 0, 0), 0, []),
  (60, false, .putfield 29, 3, 314, (7, 7, 0, 0), 0, []),
  (63, false, .aload_n 0, 1, 0, (0, 0, 0, 0), 0, []),
  (64, false, .iconst 0, 1, 0, (0, 0, 0, 0), 0, []),
  (65, false, .putfield 33, 3, 316, (7, 8, 0, 0), 0, []),
  (68, false, .aload_n 0, 1, 0, (0, 0, 0, 0), 0, []),
  (69, false, .iconst 0, 1, 0, (0, 0, 0, 0), 0, []),
  (70, false, .putfield 36, 3, 318, (7, 9, 0, 0), 0, []),
  (73, false, .aload_n 0, 1, 0, (0, 0, 0, 0), 0, []),
  (74, false, .iconst 0, 1, 0, (0, 0, 0, 0), 0, []),
  (75, false, .putfield 39, 3, 320, (7, 10, 0, 0), 0, []),
  (78, false, .aload_n 0, 1, 0, (0, 0, 0, 0), 0, []),
  (79, false, .iconst 0, 1, 0, (0, 0, 0, 0), 0, []),
  (80, false, .putfield 42, 3, 324, (7, 12, 0, 0), 0, []),
  (83, false, .aload_n 0, 1, 0, (0, 0, 0, 0), 0, []),
  (84, false, .iconst 0, 1, 0, (0, 0, 0, 0), 0, []),
  (85, false, .putfield 45, 3, 326, (7, 13, 0, 0), 0, []),
  (88, false, .aload_n 0, 1, 0, (0, 0, 0, 0), 0, []),
  (89, false, .iconst 0, 1, 0, (0, 0, 0, 0), 0, []),
  (90, false, .putfield 48, 3, 329, (7, 14, 0, 0), 0, []),
  (93, false, .aload_n 0, 1, 0, (0, 0, 0, 0), 0, []),
  (94, false, .iconst 0, 1, 0, (0, 0, 0, 0), 0, []),
  (95, false, .putfield 51, 3, 331, (7, 15, 0, 0), 0, []),
  (98, false, .aload_n 0, 1, 0, (0, 0, 0, 0), 0, []),
  (99, false, .iconst 0, 1, 0, (0, 0, 0, 0), 0, []),
  (100, false, .putfield 54, 3, 333, (7, 16, 0, 0), 0, []),
  (103, false, .aload_n 0, 1, 0, (0, 0, 0, 0), 0, []),
  (104, false, .iconst 0, 1, 0, (0, 0, 0, 0), 0, []),
  (105, false, .putfield 57, 3, 336, (7, 17, 0, 0), 0, []),
  (108, false, .aload_n 0, 1, 0, (0, 0, 0, 0), 0, []),
  (109, false, .iconst (-1), 1, 0, (0, 0, 0, 0), 0, []),
  (110, false, .putfield 60, 3, 338, (7, 18, 0, 0), 0, []),
  (113, false, .aload_n 0, 1, 0, (0, 0, 0, 0), 0, []),
  (114, false, .iconst (-1), 1, 0, (0, 0, 0, 0), 0, []),
  (115, false, .putfield 63, 3, 339, (7, 19, 0, 0), 0, []),
  (118, false, .aload_n 0, 1, 0, (0, 0, 0, 0), 0, []),
  (119, false, .iload_n 1, 1, 0, (0, 0, 0, 0), 0, []),
  (120, false, .putfield 66, 3, 297, (7, 0, 0, 0), 0, []),
  (123, false, .aload_n 0, 1, 0, (0, 0, 0, 0), 0, []),
  (124, false, .iload_n 2, 1, 0, (0, 0, 0, 0), 0, []),
  (125, false, .putfield 69, 3, 300, (7, 1, 0, 0), 0, []),
  (128, false, .aload_n 0, 1, 0, (0, 0, 0, 0), 0, []),
  (129, false, .iload_n 3, 1, 0, (0, 0, 0, 0), 0, []),
  (130, false, .putfield 72, 3, 302, (7, 2, 0, 0), 0, []),
  (133, false, .aload_n 0, 1, 0, (0, 0, 0, 0), 0, []),
  (134, false, .iload 4, 2, 0, (0, 0, 0, 0), 0, []),
  (136, false, .putfield 75, 3, 304, (7, 3, 0, 0), 0, []),
  (139, false, .aload_n 0, 1, 0, (0, 0, 0, 0), 0, []),
  (140, false, .iload_n 2, 1, 0, (0, 0, 0, 0), 0, []),
  (141, false, .iconst 2, 1, 0, (0, 0, 0, 0), 0, []),
  (142, false, .if_icmp .ne 7, 3, 0, (149, 0, 0, 0), 0, []),
  (145, false, .iload_n 3, 1, 0, (0, 0, 0, 0), 0, []),
  (146, false, .goto 4, 3, 0, (150, 0, 0, 0), 0, []),
  (149, false, .iconst (-1), 1, 0, (0, 0, 0, 0), 0, []),
  (150, false, .putfield 78, 3, 322, (7, 11, 0, 0), 0, []),
  (153, false, .return_, 1, 0, (0, 0, 0, 0), 0, [])]
noncomputable def xT_new (v0 v1 v2 v3 v4 : Int) (σ : zz_S) : zz_R := (let s1 := zz_n σ 28 1 6; (if (zz_c σ 28 + 1) = 0 then none else (if zz_b s1 28 (zz_c σ 28 + 1) 0 then (let s2 := zz_w s1 28 (zz_c σ 28 + 1) 0 1; (if (zz_c σ 28 + 1) = 0 then none else (if zz_b s2 28 (zz_c σ 28 + 1) 1 then (let s3 := zz_w s2 28 (zz_c σ 28 + 1) 1 0; (if (zz_c σ 28 + 1) = 0 then none else (if zz_b s3 28 (zz_c σ 28 + 1) 2 then (let s4 := zz_w s3 28 (zz_c σ 28 + 1) 2 (-1); (if (zz_c σ 28 + 1) = 0 then none else (if zz_b s4 28 (zz_c σ 28 + 1) 3 then (let s5 := zz_w s4 28 (zz_c σ 28 + 1) 3 0; (if (zz_c σ 28 + 1) = 0 then none else (if zz_b s5 28 (zz_c σ 28 + 1) 4 then (let s6 := zz_w s5 28 (zz_c σ 28 + 1) 4 0; (if (zz_c σ 28 + 1) = 0 then none else (if zz_b s6 28 (zz_c σ 28 + 1) 5 then (let s7 := zz_w s6 28 (zz_c σ 28 + 1) 5 0; (if true = true ∧ (zz_c σ 28 + 1) ≠ v0 then none else (let s8 := zz_w s7 7 v0 4 (zz_c σ 28 + 1); (let s9 := zz_n s8 8 0 8; ((xC_new (zz_c s8 8 + 1) s9).bind fun q10 => (if true = true ∧ (zz_c s8 8 + 1) ≠ v0 then none else (let s11 := zz_w q10.2 7 v0 5 (zz_c s8 8 + 1); (let s12 := zz_n s11 9 0 3; ((xN_new (zz_c s11 9 + 1) s12).bind fun q13 => (if true = true ∧ (zz_c s11 9 + 1) ≠ v0 then none else (let s14 := zz_w q13.2 7 v0 6 (zz_c s11 9 + 1); (let s15 := zz_w s14 7 v0 7 0; (let s16 := zz_w s15 7 v0 8 0; (let s17 := zz_w s16 7 v0 9 0; (let s18 := zz_w s17 7 v0 10 0; (let s19 := zz_w s18 7 v0 12 0; (let s20 := zz_w s19 7 v0 13 0; (let s21 := zz_w s20 7 v0 14 0; (let s22 := zz_w s21 7 v0 15 0; (let s23 := zz_w s22 7 v0 16 0; (let s24 := zz_w s23 7 v0 17 0; (let s25 := zz_w s24 7 v0 18 (-1); (let s26 := zz_w s25 7 v0 19 (-1); (let s27 := zz_w s26 7 v0 0 v1; (let s28 := zz_w s27 7 v0 1 v2; (let s29 := zz_w s28 7 v0 2 v3; (let s30 := zz_w s29 7 v0 3 v4; (if v2 = 2 then (let s31 := zz_w s30 7 v0 11 v3; (if zz_ow s31 7 v0 (zz_own 7) = true ∧ zz_m s31 7 + 1 = v0 then (some (0, zz_f s31 7)) else none)) else (let s32 := zz_w s30 7 v0 11 (-1); (if zz_ow s32 7 v0 (zz_own 7) = true ∧ zz_m s32 7 + 1 = v0 then (some (0, zz_f s32 7)) else none)))))))))))))))))))))))))))))) else none))) else none))) else none))) else none))) else none))) else none)))
set_option maxRecDepth 100000 in
set_option maxHeartbeats 4000000 in
theorem ze_xT_new (v0 v1 v2 v3 v4 : Int) (σ : zz_S) : xT_new v0 v1 v2 v3 v4 σ = zz_ev (zz_CE [(93, zw_xC_new), (103, zw_xN_new)]) (zz_KE []) zk_xT_new 999 false 7 0 400 true (zz_sk zk_xT_new 0) [(0, 1007, v0), (1, 0, v1), (2, 0, v2), (3, 0, v3), (4, 0, v4)] [] σ := rfl
noncomputable def zw_xT_new : List Int → zz_S → zz_R := fun vs σ => match vs with
  | [a0, a1, a2, a3, a4] => xT_new a0 a1 a2 a3 a4 σ
  | _ => none
def zk_x_task : List zz_E := [(0, false, .iload_n 1, 1, 0, (0, 0, 0, 0), 0, []),
  (1, false, .iconst 0, 1, 0, (0, 0, 0, 0), 0, []),
  (2, false, .iconst 4, 1, 0, (0, 0, 0, 0), 0, []),
  (3, false, .invokestatic 91, 3, 228, (72, 3, 0, 0), 0, [0, 0, 0]),
  (6, false, .ifCond .ne 6, 3, 0, (12, 0, 0, 0), 0, []),
  (9, false, .bipush (-2), 2, 0, (0, 0, 0, 0), 0, []),
  (11, false, .ireturn, 1, 0, (0, 0, 0, 0), 0, []),
  (12, false, .iload_n 1, 1, 0, (0, 0, 0, 0), 0, []),
  (13, false, .iconst 2, 1, 0, (0, 0, 0, 0), 0, []),
  (14, false, .if_icmp .gt 19, 3, 0, (33, 0, 0, 0), 0, []),
  (17, false, .iload_n 2, 1, 0, (0, 0, 0, 0), 0, []),
  (18, false, .aload_n 0, 1, 0, (0, 0, 0, 0), 0, []),
  (19, false, .getfield 78, 3, 179, (3, 16, 0, 0), 0, []),
  (22, false, .ldc 95, 2, 239, (0, 0, 0, 0), 400000, []),
  (24, false, .invokestatic 91, 3, 228, (72, 3, 0, 0), 0, [0, 0, 0]),
  (27, false, .ifCond .ne 6, 3, 0, (33, 0, 0, 0), 0, []),
  (30, false, .bipush (-2), 2, 0, (0, 0, 0, 0), 0, []),
  (32, false, .ireturn, 1, 0, (0, 0, 0, 0), 0, []),
  (33, true, .iload_n 1, 1, 0, (0, 0, 0, 0), 0, []),
  (34, false, .iconst 1, 1, 0, (0, 0, 0, 0), 0, []),
  (35, false, .if_icmp .eq 8, 3, 0, (43, 0, 0, 0), 0, []),
  (38, false, .iload_n 1, 1, 0, (0, 0, 0, 0), 0, []),
  (39, false, .iconst 2, 1, 0, (0, 0, 0, 0), 0, []),
  (40, false, .if_icmp .ne 16, 3, 0, (56, 0, 0, 0), 0, []),
  (43, false, .iload_n 3, 1, 0, (0, 0, 0, 0), 0, []),
  (44, false, .iconst 1, 1, 0, (0, 0, 0, 0), 0, []),
  (45, false, .ldc 96, 2, 240, (0, 0, 0, 0), 100000, []),
  (47, false, .invokestatic 91, 3, 228, (72, 3, 0, 0), 0, [0, 0, 0]),
  (50, false, .ifCond .ne 6, 3, 0, (56, 0, 0, 0), 0, []),
  (53, false, .bipush (-2), 2, 0, (0, 0, 0, 0), 0, []),
  (55, false, .ireturn, 1, 0, (0, 0, 0, 0), 0, []),
  (56, true, .aload_n 0, 1, 0, (0, 0, 0, 0), 0, []),
  (57, false, .getfield 62, 3, 174, (3, 11, 0, 0), 0, []),
  (60, false, .bipush 60, 2, 0, (0, 0, 0, 0), 0, []),
  (62, false, .if_icmp .lt 6, 3, 0, (68, 0, 0, 0), 0, []),
  (65, false, .bipush (-4), 2, 0, (0, 0, 0, 0), 0, []),
  (67, false, .ireturn, 1, 0, (0, 0, 0, 0), 0, []),
  (68, false, .aload_n 0, 1, 0, (0, 0, 0, 0), 0, []),
  (69, false, .getfield 11, 3, 163, (3, 0, 13, 1), 0, []),
  (72, false, .aload_n 0, 1, 0, (0, 0, 0, 0), 0, []),
  (73, false, .getfield 62, 3, 174, (3, 11, 0, 0), 0, []),
  (76, false, .new 9, 3, 90, (7, 0, 0, 0), 0, []),
  (79, false, .dup, 1, 0, (0, 0, 0, 0), 0, []),
  (80, false, .aload_n 0, 1, 0, (0, 0, 0, 0), 0, []),
  (81, false, .getfield 62, 3, 174, (3, 11, 0, 0), 0, []),
  (84, false, .iload_n 1, 1, 0, (0, 0, 0, 0), 0, []),
  (85, false, .iload_n 2, 1, 0, (0, 0, 0, 0), 0, []),
  (86, false, .iload_n 3, 1, 0, (0, 0, 0, 0), 0, []),
  (87, false, .invokespecial 97, 3, 242, (87, 7, 999, 0), 0, [0, 0, 0, 0, 1007]),
  (90, false, .aastore, 1, 0, (11, 0, 9, 0), 0, []),
  (91, false, .aload_n 0, 1, 0, (0, 0, 0, 0), 0, []),
  (92, false, .dup, 1, 0, (0, 0, 0, 0), 0, []),
  (93, false, .getfield 62, 3, 174, (3, 11, 0, 0), 0, []),
  (96, false, .iconst 1, 1, 0, (0, 0, 0, 0), 0, []),
  (97, false, .iadd, 1, 0, (0, 0, 0, 0), 0, []),
  (98, false, .putfield 62, 3, 174, (3, 11, 0, 0), 0, []),
  (101, false, .aload_n 0, 1, 0, (0, 0, 0, 0), 0, []),
  (102, false, .getfield 62, 3, 174, (3, 11, 0, 0), 0, []),
  (105, false, .iconst 1, 1, 0, (0, 0, 0, 0), 0, []),
  (106, false, .isub, 1, 0, (0, 0, 0, 0), 0, []),
  (107, false, .ireturn, 1, 0, (0, 0, 0, 0), 0, [])]
noncomputable def x_task_56 (v1 v2 v3 : Int) (σ : zz_S) : zz_R := (if (zz_h σ 3 1 11) < 60 then (let s1 := zz_n σ 7 0 20; ((xT_new (zz_c σ 7 + 1) (zz_h s1 3 1 11) v1 v2 v3 s1).bind fun q2 => (if zz_b q2.2 11 1 (zz_h σ 3 1 11) then (if (zz_c σ 7 + 1) = 0 then none else (let s3 := zz_w q2.2 11 1 (zz_h σ 3 1 11) (zz_c σ 7 + 1); (let s4 := zz_w s3 3 1 11 (zz_r ((zz_h s3 3 1 11) + 1)); (some ((zz_r ((zz_h s4 3 1 11) - 1)), s4))))) else none))) else (some ((-4), σ)))
set_option maxRecDepth 100000 in
set_option maxHeartbeats 4000000 in
theorem ze_x_task_56 (v1 v2 v3 : Int) (σ : zz_S) : x_task_56 v1 v2 v3 σ = zz_ev (zz_CE [(87, zw_xT_new)]) (zz_KE []) zk_x_task 0 false 0 0 400 true (zz_sk zk_x_task 56) [(0, 5, 1), (1, 0, v1), (2, 0, v2), (3, 0, v3)] [] σ := rfl
noncomputable def x_task_33 (v1 v2 v3 : Int) (σ : zz_S) : zz_R := (if v1 = 1 then ((x_isWithin v3 1 100000 σ).bind fun q1 => (if q1.1 = 0 then (some ((-2), q1.2)) else (x_task_56 v1 v2 v3 q1.2))) else (if v1 = 2 then ((x_isWithin v3 1 100000 σ).bind fun q2 => (if q2.1 = 0 then (some ((-2), q2.2)) else (x_task_56 v1 v2 v3 q2.2))) else (x_task_56 v1 v2 v3 σ)))
set_option maxRecDepth 100000 in
set_option maxHeartbeats 4000000 in
theorem ze_x_task_33 (v1 v2 v3 : Int) (σ : zz_S) : x_task_33 v1 v2 v3 σ = zz_ev (zz_CE [(72, zw_x_isWithin)]) (zz_KE [(56, [(0, 5, true), (1, 0, false), (2, 0, false), (3, 0, false)], fun vs σ => match vs with | [b0, b1, b2] => x_task_56 b0 b1 b2 σ | _ => none)]) zk_x_task 0 false 0 0 400 true (zz_sk zk_x_task 33) [(0, 5, 1), (1, 0, v1), (2, 0, v2), (3, 0, v3)] [] σ := rfl
noncomputable def x_task (v1 v2 v3 : Int) (σ : zz_S) : zz_R := ((x_isWithin v1 0 4 σ).bind fun q1 => (if q1.1 = 0 then (some ((-2), q1.2)) else (if v1 ≤ 2 then ((x_isWithin v2 (zz_h q1.2 3 1 16) 400000 q1.2).bind fun q2 => (if q2.1 = 0 then (some ((-2), q2.2)) else (x_task_33 v1 v2 v3 q2.2))) else (x_task_33 v1 v2 v3 q1.2))))
set_option maxRecDepth 100000 in
set_option maxHeartbeats 4000000 in
theorem ze_x_task (v1 v2 v3 : Int) (σ : zz_S) : x_task v1 v2 v3 σ = zz_ev (zz_CE [(72, zw_x_isWithin)]) (zz_KE [(33, [(0, 5, true), (1, 0, false), (2, 0, false), (3, 0, false)], fun vs σ => match vs with | [b0, b1, b2] => x_task_33 b0 b1 b2 σ | _ => none)]) zk_x_task 0 false 0 0 400 true (zz_sk zk_x_task 0) [(0, 5, 1), (1, 0, v1), (2, 0, v2), (3, 0, v3)] [] σ := rfl
noncomputable def zw_x_task : List Int → zz_S → zz_R := fun vs σ => match vs with
  | [a0, a1, a2, a3] => if a0 = 1 then x_task a1 a2 a3 σ else none
  | _ => none
def zk_x_taskAt : List zz_E := [(0, false, .iload_n 1, 1, 0, (0, 0, 0, 0), 0, []),
  (1, false, .iconst 0, 1, 0, (0, 0, 0, 0), 0, []),
  (2, false, .aload_n 0, 1, 0, (0, 0, 0, 0), 0, []),
  (3, false, .getfield 62, 3, 174, (3, 11, 0, 0), 0, []),
  (6, false, .iconst 1, 1, 0, (0, 0, 0, 0), 0, []),
  (7, false, .isub, 1, 0, (0, 0, 0, 0), 0, []),
  (8, false, .invokestatic 91, 3, 228, (72, 3, 0, 0), 0, [0, 0, 0]),
  (11, false, .ifCond .eq 12, 3, 0, (23, 0, 0, 0), 0, []),
  (14, false, .aload_n 0, 1, 0, (0, 0, 0, 0), 0, []),
  (15, false, .getfield 11, 3, 163, (3, 0, 13, 1), 0, []),
  (18, false, .iload_n 1, 1, 0, (0, 0, 0, 0), 0, []),
  (19, false, .aaload, 1, 0, (11, 0, 9, 0), 0, []),
  (20, false, .goto 4, 3, 0, (24, 0, 0, 0), 0, []),
  (23, false, .aconst_null, 1, 0, (0, 0, 0, 0), 0, []),
  (24, false, .areturn, 1, 0, (0, 0, 0, 0), 0, [])]
noncomputable def x_taskAt (v1 : Int) (σ : zz_S) : zz_R := ((x_isWithin v1 0 (zz_r ((zz_h σ 3 1 11) - 1)) σ).bind fun q1 => (if q1.1 = 0 then (some (0, q1.2)) else (if zz_b q1.2 11 1 v1 then (some ((zz_h q1.2 11 1 v1), q1.2)) else none)))
set_option maxRecDepth 100000 in
set_option maxHeartbeats 4000000 in
theorem ze_x_taskAt (v1 : Int) (σ : zz_S) : x_taskAt v1 σ = zz_ev (zz_CE [(72, zw_x_isWithin)]) (zz_KE []) zk_x_taskAt 9 false 0 0 400 true (zz_sk zk_x_taskAt 0) [(0, 5, 1), (1, 0, v1)] [] σ := rfl
noncomputable def zw_x_taskAt : List Int → zz_S → zz_R := fun vs σ => match vs with
  | [a0, a1] => if a0 = 1 then x_taskAt a1 σ else none
  | _ => none
def zk_x_leastTold : List zz_E := [(0, false, .iload_n 0, 1, 0, (0, 0, 0, 0), 0, []),
  (1, false, .ifCond .ne 5, 3, 0, (6, 0, 0, 0), 0, []),
  (4, false, .iconst 1, 1, 0, (0, 0, 0, 0), 0, []),
  (5, false, .ireturn, 1, 0, (0, 0, 0, 0), 0, []),
  (6, false, .iload_n 0, 1, 0, (0, 0, 0, 0), 0, []),
  (7, false, .iconst 2, 1, 0, (0, 0, 0, 0), 0, []),
  (8, false, .if_icmp .ne 7, 3, 0, (15, 0, 0, 0), 0, []),
  (11, false, .iconst (-1), 1, 0, (0, 0, 0, 0), 0, []),
  (12, false, .goto 4, 3, 0, (16, 0, 0, 0), 0, []),
  (15, false, .iconst 0, 1, 0, (0, 0, 0, 0), 0, []),
  (16, false, .ireturn, 1, 0, (0, 0, 0, 0), 0, [])]
noncomputable def x_leastTold (v0 : Int) (σ : zz_S) : zz_R := (if v0 = 0 then (some (1, σ)) else (if v0 = 2 then (some ((-1), σ)) else (some (0, σ))))
set_option maxRecDepth 100000 in
set_option maxHeartbeats 4000000 in
theorem ze_x_leastTold (v0 : Int) (σ : zz_S) : x_leastTold v0 σ = zz_ev (zz_CE []) (zz_KE []) zk_x_leastTold 0 false 0 0 400 true (zz_sk zk_x_leastTold 0) [(0, 0, v0)] [] σ := rfl
noncomputable def zw_x_leastTold : List Int → zz_S → zz_R := fun vs σ => match vs with
  | [a0] => x_leastTold a0 σ
  | _ => none
def zk_x_mostTold : List zz_E := [(0, false, .iload_n 1, 1, 0, (0, 0, 0, 0), 0, []),
  (1, false, .tableswitch 40 0 2 #[27, 30, 33], 27, 0, (41, 0, 0, 0), 0, [28, 31, 34]),
  (28, false, .bipush 120, 2, 0, (0, 0, 0, 0), 0, []),
  (30, false, .ireturn, 1, 0, (0, 0, 0, 0), 0, []),
  (31, false, .bipush 9, 2, 0, (0, 0, 0, 0), 0, []),
  (33, false, .ireturn, 1, 0, (0, 0, 0, 0), 0, []),
  (34, false, .aload_n 0, 1, 0, (0, 0, 0, 0), 0, []),
  (35, false, .getfield 72, 3, 177, (3, 14, 0, 0), 0, []),
  (38, false, .iconst 1, 1, 0, (0, 0, 0, 0), 0, []),
  (39, false, .isub, 1, 0, (0, 0, 0, 0), 0, []),
  (40, false, .ireturn, 1, 0, (0, 0, 0, 0), 0, []),
  (41, false, .iconst 2, 1, 0, (0, 0, 0, 0), 0, []),
  (42, false, .ireturn, 1, 0, (0, 0, 0, 0), 0, [])]
noncomputable def x_mostTold (v1 : Int) (σ : zz_S) : zz_R := (if v1 = 0 then (some (120, σ)) else (if v1 = 1 then (some (9, σ)) else (if v1 = 2 then (some ((zz_r ((zz_h σ 3 1 14) - 1)), σ)) else (some (2, σ)))))
set_option maxRecDepth 100000 in
set_option maxHeartbeats 4000000 in
theorem ze_x_mostTold (v1 : Int) (σ : zz_S) : x_mostTold v1 σ = zz_ev (zz_CE []) (zz_KE []) zk_x_mostTold 0 false 0 0 400 true (zz_sk zk_x_mostTold 0) [(0, 5, 1), (1, 0, v1)] [] σ := rfl
noncomputable def zw_x_mostTold : List Int → zz_S → zz_R := fun vs σ => match vs with
  | [a0, a1] => if a0 = 1 then x_mostTold a1 σ else none
  | _ => none
def zk_x_set : List zz_E := [(0, false, .aload_n 0, 1, 0, (0, 0, 0, 0), 0, []),
  (1, false, .iload_n 1, 1, 0, (0, 0, 0, 0), 0, []),
  (2, false, .invokevirtual 100, 3, 385, (73, 2, 9, 0), 0, [0, 5]),
  (5, false, .astore 4, 2, 0, (0, 0, 0, 0), 0, []),
  (7, false, .aload 4, 2, 0, (0, 0, 0, 0), 0, []),
  (9, false, .ifnull 12, 3, 0, (21, 0, 0, 0), 0, []),
  (12, false, .iload_n 2, 1, 0, (0, 0, 0, 0), 0, []),
  (13, false, .iconst 0, 1, 0, (0, 0, 0, 0), 0, []),
  (14, false, .iconst 5, 1, 0, (0, 0, 0, 0), 0, []),
  (15, false, .invokestatic 91, 3, 228, (72, 3, 0, 0), 0, [0, 0, 0]),
  (18, false, .ifCond .ne 6, 3, 0, (24, 0, 0, 0), 0, []),
  (21, false, .bipush (-2), 2, 0, (0, 0, 0, 0), 0, []),
  (23, false, .ireturn, 1, 0, (0, 0, 0, 0), 0, []),
  (24, false, .iload_n 3, 1, 0, (0, 0, 0, 0), 0, []),
  (25, false, .iload_n 2, 1, 0, (0, 0, 0, 0), 0, []),
  (26, false, .invokestatic 104, 3, 389, (15, 1, 0, 0), 0, [0]),
  (29, false, .aload_n 0, 1, 0, (0, 0, 0, 0), 0, []),
  (30, false, .iload_n 2, 1, 0, (0, 0, 0, 0), 0, []),
  (31, false, .invokevirtual 108, 3, 392, (16, 2, 0, 0), 0, [0, 5]),
  (34, false, .invokestatic 91, 3, 228, (72, 3, 0, 0), 0, [0, 0, 0]),
  (37, false, .ifCond .ne 6, 3, 0, (43, 0, 0, 0), 0, []),
  (40, false, .bipush (-2), 2, 0, (0, 0, 0, 0), 0, []),
  (42, false, .ireturn, 1, 0, (0, 0, 0, 0), 0, []),
  (43, false, .aload 4, 2, 0, (0, 0, 0, 0), 0, []),
  (45, false, .getfield 111, 3, 308, (7, 4, 30, 1), 0, []),
  (48, false, .iload_n 2, 1, 0, (0, 0, 0, 0), 0, []),
  (49, false, .iaload, 1, 0, (28, 0, 0, 0), 0, []),
  (50, false, .istore 5, 2, 0, (0, 0, 0, 0), 0, []),
  (52, false, .aload 4, 2, 0, (0, 0, 0, 0), 0, []),
  (54, false, .getfield 111, 3, 308, (7, 4, 30, 1), 0, []),
  (57, false, .iload_n 2, 1, 0, (0, 0, 0, 0), 0, []),
  (58, false, .iload_n 3, 1, 0, (0, 0, 0, 0), 0, []),
  (59, false, .iastore, 1, 0, (28, 0, 0, 0), 0, []),
  (60, false, .iload 5, 2, 0, (0, 0, 0, 0), 0, []),
  (62, false, .ireturn, 1, 0, (0, 0, 0, 0), 0, [])]
noncomputable def x_set (v1 v2 v3 : Int) (σ : zz_S) : zz_R := ((x_taskAt v1 σ).bind fun q1 => (if q1.1 = 0 then (some ((-2), q1.2)) else ((x_isWithin v2 0 5 q1.2).bind fun q2 => (if q2.1 = 0 then (some ((-2), q2.2)) else ((x_leastTold v2 q2.2).bind fun q3 => ((x_mostTold v2 q3.2).bind fun q4 => ((x_isWithin v3 q3.1 q4.1 q4.2).bind fun q5 => (if q5.1 = 0 then (some ((-2), q5.2)) else (if q1.1 = 0 then none else (if q1.1 = 0 then none else (if zz_b q5.2 28 q1.1 v2 then (if q1.1 = 0 then none else (if q1.1 = 0 then none else (if zz_b q5.2 28 q1.1 v2 then (let s6 := zz_w q5.2 28 q1.1 v2 v3; (some ((zz_h q5.2 28 q1.1 v2), s6))) else none))) else none)))))))))))
set_option maxRecDepth 100000 in
set_option maxHeartbeats 4000000 in
theorem ze_x_set (v1 v2 v3 : Int) (σ : zz_S) : x_set v1 v2 v3 σ = zz_ev (zz_CE [(15, zw_x_leastTold), (16, zw_x_mostTold), (72, zw_x_isWithin), (73, zw_x_taskAt)]) (zz_KE []) zk_x_set 0 false 0 0 400 true (zz_sk zk_x_set 0) [(0, 5, 1), (1, 0, v1), (2, 0, v2), (3, 0, v3)] [] σ := rfl
noncomputable def zw_x_set : List Int → zz_S → zz_R := fun vs σ => match vs with
  | [a0, a1, a2, a3] => if a0 = 1 then x_set a1 a2 a3 σ else none
  | _ => none
def zk_xC_isForm : List zz_E := [(0, false, .iload_n 0, 1, 0, (0, 0, 0, 0), 0, []),
  (1, false, .iconst 0, 1, 0, (0, 0, 0, 0), 0, []),
  (2, false, .getstatic 40, 3, 403, (2, 0, 0, 0), 0, []),
  (5, false, .arraylength, 1, 0, (2, 0, 0, 0), 0, []),
  (6, false, .iconst 1, 1, 0, (0, 0, 0, 0), 0, []),
  (7, false, .isub, 1, 0, (0, 0, 0, 0), 0, []),
  (8, false, .invokestatic 44, 3, 405, (72, 3, 0, 1), 0, [0, 0, 0]),
  (11, false, .ifCond .ne 5, 3, 0, (16, 0, 0, 0), 0, []),
  (14, false, .iconst 0, 1, 0, (0, 0, 0, 0), 0, []),
  (15, false, .ireturn, 1, 0, (0, 0, 0, 0), 0, []),
  (16, false, .iload_n 0, 1, 0, (0, 0, 0, 0), 0, []),
  (17, false, .bipush 6, 2, 0, (0, 0, 0, 0), 0, []),
  (19, false, .if_icmp .eq 33, 3, 0, (52, 0, 0, 0), 0, []),
  (22, false, .iload_n 1, 1, 0, (0, 0, 0, 0), 0, []),
  (23, false, .iload_n 0, 1, 0, (0, 0, 0, 0), 0, []),
  (24, false, .iconst 5, 1, 0, (0, 0, 0, 0), 0, []),
  (25, false, .if_icmp .eq 9, 3, 0, (34, 0, 0, 0), 0, []),
  (28, false, .iload_n 0, 1, 0, (0, 0, 0, 0), 0, []),
  (29, false, .bipush 7, 2, 0, (0, 0, 0, 0), 0, []),
  (31, false, .if_icmp .lt 7, 3, 0, (38, 0, 0, 0), 0, []),
  (34, false, .iconst 1, 1, 0, (0, 0, 0, 0), 0, []),
  (35, false, .goto 4, 3, 0, (39, 0, 0, 0), 0, []),
  (38, false, .iconst 0, 1, 0, (0, 0, 0, 0), 0, []),
  (39, false, .getstatic 40, 3, 403, (2, 0, 0, 0), 0, []),
  (42, false, .iload_n 0, 1, 0, (0, 0, 0, 0), 0, []),
  (43, false, .iaload, 1, 0, (2, 0, 0, 0), 0, []),
  (44, false, .invokestatic 44, 3, 405, (72, 3, 0, 1), 0, [0, 0, 0]),
  (47, false, .ifCond .ne 5, 3, 0, (52, 0, 0, 0), 0, []),
  (50, false, .iconst 0, 1, 0, (0, 0, 0, 0), 0, []),
  (51, false, .ireturn, 1, 0, (0, 0, 0, 0), 0, []),
  (52, true, .iload_n 0, 1, 0, (0, 0, 0, 0), 0, []),
  (53, false, .iconst 2, 1, 0, (0, 0, 0, 0), 0, []),
  (54, false, .if_icmp .ne 11, 3, 0, (65, 0, 0, 0), 0, []),
  (57, false, .iload_n 2, 1, 0, (0, 0, 0, 0), 0, []),
  (58, false, .iload_n 1, 1, 0, (0, 0, 0, 0), 0, []),
  (59, false, .bipush 23, 2, 0, (0, 0, 0, 0), 0, []),
  (61, false, .invokestatic 44, 3, 405, (72, 3, 0, 1), 0, [0, 0, 0]),
  (64, false, .ireturn, 1, 0, (0, 0, 0, 0), 0, []),
  (65, false, .iload_n 0, 1, 0, (0, 0, 0, 0), 0, []),
  (66, false, .iconst 4, 1, 0, (0, 0, 0, 0), 0, []),
  (67, false, .if_icmp .eq 9, 3, 0, (76, 0, 0, 0), 0, []),
  (70, false, .iload_n 0, 1, 0, (0, 0, 0, 0), 0, []),
  (71, false, .bipush 7, 2, 0, (0, 0, 0, 0), 0, []),
  (73, false, .if_icmp .ne 13, 3, 0, (86, 0, 0, 0), 0, []),
  (76, true, .iload_n 2, 1, 0, (0, 0, 0, 0), 0, []),
  (77, false, .iconst 0, 1, 0, (0, 0, 0, 0), 0, []),
  (78, false, .bipush 6, 2, 0, (0, 0, 0, 0), 0, []),
  (80, false, .invokestatic 44, 3, 405, (72, 3, 0, 1), 0, [0, 0, 0]),
  (83, false, .ifCond .eq 7, 3, 0, (90, 0, 0, 0), 0, []),
  (86, false, .iconst 1, 1, 0, (0, 0, 0, 0), 0, []),
  (87, false, .goto 4, 3, 0, (91, 0, 0, 0), 0, []),
  (90, false, .iconst 0, 1, 0, (0, 0, 0, 0), 0, []),
  (91, false, .ireturn, 1, 0, (0, 0, 0, 0), 0, [])]
noncomputable def xC_isForm_76 (v2 : Int) (σ : zz_S) : zz_R := ((x_isWithin v2 0 6 σ).bind fun q1 => (if q1.1 = 0 then (some (0, q1.2)) else (some (1, q1.2))))
set_option maxRecDepth 100000 in
set_option maxHeartbeats 4000000 in
theorem ze_xC_isForm_76 (v2 : Int) (σ : zz_S) : xC_isForm_76 v2 σ = zz_ev (zz_CE [(72, zw_x_isWithin)]) (zz_KE []) zk_xC_isForm 0 true 0 0 400 true (zz_sk zk_xC_isForm 76) [(2, 0, v2)] [] σ := rfl
noncomputable def xC_isForm_52 (v0 v1 v2 : Int) (σ : zz_S) : zz_R := (if v0 = 2 then ((x_isWithin v2 v1 23 σ).bind fun q1 => (if zz_o q1.1 then (some (q1.1, q1.2)) else none)) else (if v0 = 4 then (xC_isForm_76 v2 σ) else (if v0 = 7 then (xC_isForm_76 v2 σ) else (some (1, σ)))))
set_option maxRecDepth 100000 in
set_option maxHeartbeats 4000000 in
theorem ze_xC_isForm_52 (v0 v1 v2 : Int) (σ : zz_S) : xC_isForm_52 v0 v1 v2 σ = zz_ev (zz_CE [(72, zw_x_isWithin)]) (zz_KE [(76, [(2, 0, false)], fun vs σ => match vs with | [b0] => xC_isForm_76 b0 σ | _ => none)]) zk_xC_isForm 0 true 0 0 400 true (zz_sk zk_xC_isForm 52) [(0, 0, v0), (1, 0, v1), (2, 0, v2)] [] σ := rfl
noncomputable def xC_isForm (v0 v1 v2 : Int) (σ : zz_S) : zz_R := ((x_isWithin v0 0 (zz_r ((zz_al σ 2 1) - 1)) σ).bind fun q1 => (if q1.1 = 0 then (some (0, q1.2)) else (if v0 = 6 then (xC_isForm_52 v0 v1 v2 q1.2) else (if v0 = 5 then (if zz_b q1.2 2 1 v0 then ((x_isWithin v1 1 (zz_h q1.2 2 1 v0) q1.2).bind fun q2 => (if q2.1 = 0 then (some (0, q2.2)) else (xC_isForm_52 v0 v1 v2 q2.2))) else none) else (if v0 < 7 then (if zz_b q1.2 2 1 v0 then ((x_isWithin v1 0 (zz_h q1.2 2 1 v0) q1.2).bind fun q3 => (if q3.1 = 0 then (some (0, q3.2)) else (xC_isForm_52 v0 v1 v2 q3.2))) else none) else (if zz_b q1.2 2 1 v0 then ((x_isWithin v1 1 (zz_h q1.2 2 1 v0) q1.2).bind fun q4 => (if q4.1 = 0 then (some (0, q4.2)) else (xC_isForm_52 v0 v1 v2 q4.2))) else none))))))
set_option maxRecDepth 100000 in
set_option maxHeartbeats 4000000 in
theorem ze_xC_isForm (v0 v1 v2 : Int) (σ : zz_S) : xC_isForm v0 v1 v2 σ = zz_ev (zz_CE [(72, zw_x_isWithin)]) (zz_KE [(52, [(0, 0, false), (1, 0, false), (2, 0, false)], fun vs σ => match vs with | [b0, b1, b2] => xC_isForm_52 b0 b1 b2 σ | _ => none)]) zk_xC_isForm 0 true 0 0 400 true (zz_sk zk_xC_isForm 0) [(0, 0, v0), (1, 0, v1), (2, 0, v2)] [] σ := rfl
noncomputable def zw_xC_isForm : List Int → zz_S → zz_R := fun vs σ => match vs with
  | [a0, a1, a2] => xC_isForm a0 a1 a2 σ
  | _ => none
def zk_xC_ring : List zz_E := [(0, false, .iconst 0, 1, 0, (0, 0, 0, 0), 0, []),
  (1, false, .istore_n 3, 1, 0, (0, 0, 0, 0), 0, []),
  (2, false, .iconst 0, 1, 0, (0, 0, 0, 0), 0, []),
  (3, false, .istore 4, 2, 0, (0, 0, 0, 0), 0, []),
  (5, true, .iload 4, 2, 0, (0, 0, 0, 0), 0, []),
  (7, false, .iload_n 2, 1, 0, (0, 0, 0, 0), 0, []),
  (8, false, .if_icmp .ge 65, 3, 0, (73, 0, 0, 0), 0, []),
  (11, false, .iload_n 0, 1, 0, (0, 0, 0, 0), 0, []),
  (12, false, .iload_n 1, 1, 0, (0, 0, 0, 0), 0, []),
  (13, false, .if_icmp .gt 23, 3, 0, (36, 0, 0, 0), 0, []),
  (16, false, .iload 4, 2, 0, (0, 0, 0, 0), 0, []),
  (18, false, .iload_n 0, 1, 0, (0, 0, 0, 0), 0, []),
  (19, false, .if_icmp .lt 13, 3, 0, (32, 0, 0, 0), 0, []),
  (22, false, .iload 4, 2, 0, (0, 0, 0, 0), 0, []),
  (24, false, .iload_n 1, 1, 0, (0, 0, 0, 0), 0, []),
  (25, false, .if_icmp .gt 7, 3, 0, (32, 0, 0, 0), 0, []),
  (28, false, .iconst 1, 1, 0, (0, 0, 0, 0), 0, []),
  (29, false, .goto 24, 3, 0, (53, 0, 0, 0), 0, []),
  (32, true, .iconst 0, 1, 0, (0, 0, 0, 0), 0, []),
  (33, false, .goto 20, 3, 0, (53, 0, 0, 0), 0, []),
  (36, false, .iload 4, 2, 0, (0, 0, 0, 0), 0, []),
  (38, false, .iload_n 0, 1, 0, (0, 0, 0, 0), 0, []),
  (39, false, .if_icmp .ge 9, 3, 0, (48, 0, 0, 0), 0, []),
  (42, false, .iload 4, 2, 0, (0, 0, 0, 0), 0, []),
  (44, false, .iload_n 1, 1, 0, (0, 0, 0, 0), 0, []),
  (45, false, .if_icmp .gt 7, 3, 0, (52, 0, 0, 0), 0, []),
  (48, true, .iconst 1, 1, 0, (0, 0, 0, 0), 0, []),
  (49, false, .goto 4, 3, 0, (53, 0, 0, 0), 0, []),
  (52, false, .iconst 0, 1, 0, (0, 0, 0, 0), 0, []),
  (53, false, .istore 5, 2, 0, (0, 0, 0, 0), 0, []),
  (55, false, .iload 5, 2, 0, (0, 0, 0, 0), 0, []),
  (57, false, .ifCond .eq 10, 3, 0, (67, 0, 0, 0), 0, []),
  (60, false, .iload_n 3, 1, 0, (0, 0, 0, 0), 0, []),
  (61, false, .iconst 1, 1, 0, (0, 0, 0, 0), 0, []),
  (62, false, .iload 4, 2, 0, (0, 0, 0, 0), 0, []),
  (64, false, .ishl, 1, 0, (0, 0, 0, 0), 0, []),
  (65, false, .ior, 1, 0, (0, 0, 0, 0), 0, []),
  (66, false, .istore_n 3, 1, 0, (0, 0, 0, 0), 0, []),
  (67, false, .iinc 4 1, 3, 0, (0, 0, 0, 0), 0, []),
  (70, false, .goto (-65), 3, 0, (5, 0, 0, 0), 0, []),
  (73, false, .iload_n 3, 1, 0, (0, 0, 0, 0), 0, []),
  (74, false, .ireturn, 1, 0, (0, 0, 0, 0), 0, [])]
noncomputable def xC_ring_48 (k5 : Int → Int → Int → Int → Int → zz_S → zz_R) (v0 v1 v2 v3 v4 : Int) (σ : zz_S) : zz_R := (k5 v0 v1 v2 (zz_or v3 (zz_shl 1 v4)) (zz_r (v4 + 1)) σ)
set_option maxRecDepth 100000 in
set_option maxHeartbeats 4000000 in
theorem ze_xC_ring_48 (k5 : Int → Int → Int → Int → Int → zz_S → zz_R) (v0 v1 v2 v3 v4 : Int) (σ : zz_S) : xC_ring_48 k5 v0 v1 v2 v3 v4 σ = zz_ev (zz_CE []) (zz_KE [(5, [(0, 0, false), (1, 0, false), (2, 0, false), (3, 0, false), (4, 0, false)], fun vs σ => match vs with | [b0, b1, b2, b3, b4] => k5 b0 b1 b2 b3 b4 σ | _ => none)]) zk_xC_ring 0 false 0 0 400 true (zz_sk zk_xC_ring 48) [(0, 0, v0), (1, 0, v1), (2, 0, v2), (3, 0, v3), (4, 0, v4)] [] σ := rfl
noncomputable def xC_ring_32 (k5 : Int → Int → Int → Int → Int → zz_S → zz_R) (v0 v1 v2 v3 v4 : Int) (σ : zz_S) : zz_R := (k5 v0 v1 v2 v3 (zz_r (v4 + 1)) σ)
set_option maxRecDepth 100000 in
set_option maxHeartbeats 4000000 in
theorem ze_xC_ring_32 (k5 : Int → Int → Int → Int → Int → zz_S → zz_R) (v0 v1 v2 v3 v4 : Int) (σ : zz_S) : xC_ring_32 k5 v0 v1 v2 v3 v4 σ = zz_ev (zz_CE []) (zz_KE [(5, [(0, 0, false), (1, 0, false), (2, 0, false), (3, 0, false), (4, 0, false)], fun vs σ => match vs with | [b0, b1, b2, b3, b4] => k5 b0 b1 b2 b3 b4 σ | _ => none)]) zk_xC_ring 0 false 0 0 400 true (zz_sk zk_xC_ring 32) [(0, 0, v0), (1, 0, v1), (2, 0, v2), (3, 0, v3), (4, 0, v4)] [] σ := rfl
noncomputable def xC_ring_5 : Nat → Int → Int → Int → Int → Int → zz_S → zz_R
  | 0, _, _, _, _, _, _ => none
  | n + 1, v0, v1, v2, v3, v4, σ => (if v4 < v2 then (if v0 ≤ v1 then (if v4 < v0 then (xC_ring_32 (xC_ring_5 n) v0 v1 v2 v3 v4 σ) else (if v4 ≤ v1 then (xC_ring_5 n v0 v1 v2 (zz_or v3 (zz_shl 1 v4)) (zz_r (v4 + 1)) σ) else (xC_ring_32 (xC_ring_5 n) v0 v1 v2 v3 v4 σ))) else (if v4 < v0 then (if v4 ≤ v1 then (xC_ring_48 (xC_ring_5 n) v0 v1 v2 v3 v4 σ) else (xC_ring_5 n v0 v1 v2 v3 (zz_r (v4 + 1)) σ)) else (xC_ring_48 (xC_ring_5 n) v0 v1 v2 v3 v4 σ))) else (some (v3, σ)))
set_option maxRecDepth 100000 in
set_option maxHeartbeats 4000000 in
theorem ze_xC_ring_5 (n : Nat) (v0 v1 v2 v3 v4 : Int) (σ : zz_S) : xC_ring_5 (n + 1) v0 v1 v2 v3 v4 σ = zz_ev (zz_CE []) (zz_KE [(5, [(0, 0, false), (1, 0, false), (2, 0, false), (3, 0, false), (4, 0, false)], fun vs σ => match vs with | [b0, b1, b2, b3, b4] => xC_ring_5 n b0 b1 b2 b3 b4 σ | _ => none), (32, [(0, 0, false), (1, 0, false), (2, 0, false), (3, 0, false), (4, 0, false)], fun vs σ => match vs with | [b0, b1, b2, b3, b4] => xC_ring_32 (xC_ring_5 n) b0 b1 b2 b3 b4 σ | _ => none), (48, [(0, 0, false), (1, 0, false), (2, 0, false), (3, 0, false), (4, 0, false)], fun vs σ => match vs with | [b0, b1, b2, b3, b4] => xC_ring_48 (xC_ring_5 n) b0 b1 b2 b3 b4 σ | _ => none)]) zk_xC_ring 0 false 0 0 400 true (zz_sk zk_xC_ring 5) [(0, 0, v0), (1, 0, v1), (2, 0, v2), (3, 0, v3), (4, 0, v4)] [] σ := rfl
noncomputable def xC_ring (v0 v1 v2 : Int) (σ : zz_S) : zz_R := (xC_ring_5 zz_fu v0 v1 v2 0 0 σ)
set_option maxRecDepth 100000 in
set_option maxHeartbeats 4000000 in
theorem ze_xC_ring (v0 v1 v2 : Int) (σ : zz_S) : xC_ring v0 v1 v2 σ = zz_ev (zz_CE []) (zz_KE [(5, [(0, 0, false), (1, 0, false), (2, 0, false), (3, 0, false), (4, 0, false)], fun vs σ => match vs with | [b0, b1, b2, b3, b4] => xC_ring_5 zz_fu b0 b1 b2 b3 b4 σ | _ => none)]) zk_xC_ring 0 false 0 0 400 true (zz_sk zk_xC_ring 0) [(0, 0, v0), (1, 0, v1), (2, 0, v2)] [] σ := rfl
noncomputable def zw_xC_ring : List Int → zz_S → zz_R := fun vs σ => match vs with
  | [a0, a1, a2] => xC_ring a0 a1 a2 σ
  | _ => none
def zk_xC_add : List zz_E := [(0, false, .aload_n 0, 1, 0, (0, 0, 0, 0), 0, []),
  (1, false, .dup, 1, 0, (0, 0, 0, 0), 0, []),
  (2, false, .getfield 9, 3, 253, (8, 0, 0, 0), 0, []),
  (5, false, .iconst 1, 1, 0, (0, 0, 0, 0), 0, []),
  (6, false, .iadd, 1, 0, (0, 0, 0, 0), 0, []),
  (7, false, .putfield 9, 3, 253, (8, 0, 0, 0), 0, []),
  (10, false, .iload_n 1, 1, 0, (0, 0, 0, 0), 0, []),
  (11, false, .tableswitch 203 0 8 #[49, 64, 79, 98, 113, 132, 149, 157, 186], 49, 0, (214, 0, 0, 0), 0, [60, 75, 90, 109, 124, 143, 160, 168, 197]),
  (60, false, .aload_n 0, 1, 0, (0, 0, 0, 0), 0, []),
  (61, false, .dup, 1, 0, (0, 0, 0, 0), 0, []),
  (62, false, .getfield 17, 3, 255, (8, 1, 1, 0), 0, []),
  (65, false, .lconst 1, 1, 0, (0, 0, 0, 0), 1, []),
  (66, false, .iload_n 2, 1, 0, (0, 0, 0, 0), 0, []),
  (67, false, .lshl, 1, 0, (0, 0, 0, 0), 0, []),
  (68, false, .land, 1, 0, (0, 0, 0, 0), 0, []),
  (69, false, .putfield 17, 3, 255, (8, 1, 1, 0), 0, []),
  (72, false, .goto 142, 3, 0, (214, 0, 0, 0), 0, []),
  (75, false, .aload_n 0, 1, 0, (0, 0, 0, 0), 0, []),
  (76, false, .dup, 1, 0, (0, 0, 0, 0), 0, []),
  (77, false, .getfield 21, 3, 256, (8, 2, 0, 0), 0, []),
  (80, false, .iconst 1, 1, 0, (0, 0, 0, 0), 0, []),
  (81, false, .iload_n 2, 1, 0, (0, 0, 0, 0), 0, []),
  (82, false, .ishl, 1, 0, (0, 0, 0, 0), 0, []),
  (83, false, .iand, 1, 0, (0, 0, 0, 0), 0, []),
  (84, false, .putfield 21, 3, 256, (8, 2, 0, 0), 0, []),
  (87, false, .goto 127, 3, 0, (214, 0, 0, 0), 0, []),
  (90, false, .aload_n 0, 1, 0, (0, 0, 0, 0), 0, []),
  (91, false, .dup, 1, 0, (0, 0, 0, 0), 0, []),
  (92, false, .getfield 21, 3, 256, (8, 2, 0, 0), 0, []),
  (95, false, .iload_n 2, 1, 0, (0, 0, 0, 0), 0, []),
  (96, false, .iload_n 3, 1, 0, (0, 0, 0, 0), 0, []),
  (97, false, .bipush 24, 2, 0, (0, 0, 0, 0), 0, []),
  (99, false, .invokestatic 48, 3, 410, (96, 3, 0, 0), 0, [0, 0, 0]),
  (102, false, .iand, 1, 0, (0, 0, 0, 0), 0, []),
  (103, false, .putfield 21, 3, 256, (8, 2, 0, 0), 0, []),
  (106, false, .goto 108, 3, 0, (214, 0, 0, 0), 0, []),
  (109, false, .aload_n 0, 1, 0, (0, 0, 0, 0), 0, []),
  (110, false, .dup, 1, 0, (0, 0, 0, 0), 0, []),
  (111, false, .getfield 24, 3, 257, (8, 3, 0, 0), 0, []),
  (114, false, .iconst 1, 1, 0, (0, 0, 0, 0), 0, []),
  (115, false, .iload_n 2, 1, 0, (0, 0, 0, 0), 0, []),
  (116, false, .ishl, 1, 0, (0, 0, 0, 0), 0, []),
  (117, false, .iand, 1, 0, (0, 0, 0, 0), 0, []),
  (118, false, .putfield 24, 3, 257, (8, 3, 0, 0), 0, []),
  (121, false, .goto 93, 3, 0, (214, 0, 0, 0), 0, []),
  (124, false, .aload_n 0, 1, 0, (0, 0, 0, 0), 0, []),
  (125, false, .dup, 1, 0, (0, 0, 0, 0), 0, []),
  (126, false, .getfield 24, 3, 257, (8, 3, 0, 0), 0, []),
  (129, false, .iload_n 2, 1, 0, (0, 0, 0, 0), 0, []),
  (130, false, .iload_n 3, 1, 0, (0, 0, 0, 0), 0, []),
  (131, false, .bipush 7, 2, 0, (0, 0, 0, 0), 0, []),
  (133, false, .invokestatic 48, 3, 410, (96, 3, 0, 0), 0, [0, 0, 0]),
  (136, false, .iand, 1, 0, (0, 0, 0, 0), 0, []),
  (137, false, .putfield 24, 3, 257, (8, 3, 0, 0), 0, []),
  (140, false, .goto 74, 3, 0, (214, 0, 0, 0), 0, []),
  (143, false, .aload_n 0, 1, 0, (0, 0, 0, 0), 0, []),
  (144, false, .dup, 1, 0, (0, 0, 0, 0), 0, []),
  (145, false, .getfield 27, 3, 258, (8, 4, 0, 0), 0, []),
  (148, false, .iconst 1, 1, 0, (0, 0, 0, 0), 0, []),
  (149, false, .iload_n 2, 1, 0, (0, 0, 0, 0), 0, []),
  (150, false, .iconst 1, 1, 0, (0, 0, 0, 0), 0, []),
  (151, false, .isub, 1, 0, (0, 0, 0, 0), 0, []),
  (152, false, .ishl, 1, 0, (0, 0, 0, 0), 0, []),
  (153, false, .iand, 1, 0, (0, 0, 0, 0), 0, []),
  (154, false, .putfield 27, 3, 258, (8, 4, 0, 0), 0, []),
  (157, false, .goto 57, 3, 0, (214, 0, 0, 0), 0, []),
  (160, false, .aload_n 0, 1, 0, (0, 0, 0, 0), 0, []),
  (161, false, .iconst 1, 1, 0, (0, 0, 0, 0), 0, []),
  (162, false, .putfield 36, 3, 261, (8, 7, 0, 0), 1, []),
  (165, false, .goto 49, 3, 0, (214, 0, 0, 0), 0, []),
  (168, false, .aload_n 0, 1, 0, (0, 0, 0, 0), 0, []),
  (169, false, .dup, 1, 0, (0, 0, 0, 0), 0, []),
  (170, false, .getfield 30, 3, 259, (8, 5, 0, 0), 0, []),
  (173, false, .iconst 1, 1, 0, (0, 0, 0, 0), 0, []),
  (174, false, .iload_n 2, 1, 0, (0, 0, 0, 0), 0, []),
  (175, false, .iconst 1, 1, 0, (0, 0, 0, 0), 0, []),
  (176, false, .isub, 1, 0, (0, 0, 0, 0), 0, []),
  (177, false, .ishl, 1, 0, (0, 0, 0, 0), 0, []),
  (178, false, .iand, 1, 0, (0, 0, 0, 0), 0, []),
  (179, false, .putfield 30, 3, 259, (8, 5, 0, 0), 0, []),
  (182, false, .aload_n 0, 1, 0, (0, 0, 0, 0), 0, []),
  (183, false, .dup, 1, 0, (0, 0, 0, 0), 0, []),
  (184, false, .getfield 24, 3, 257, (8, 3, 0, 0), 0, []),
  (187, false, .iconst 1, 1, 0, (0, 0, 0, 0), 0, []),
  (188, false, .iload_n 3, 1, 0, (0, 0, 0, 0), 0, []),
  (189, false, .ishl, 1, 0, (0, 0, 0, 0), 0, []),
  (190, false, .iand, 1, 0, (0, 0, 0, 0), 0, []),
  (191, false, .putfield 24, 3, 257, (8, 3, 0, 0), 0, []),
  (194, false, .goto 20, 3, 0, (214, 0, 0, 0), 0, []),
  (197, false, .aload_n 0, 1, 0, (0, 0, 0, 0), 0, []),
  (198, false, .dup, 1, 0, (0, 0, 0, 0), 0, []),
  (199, false, .getfield 33, 3, 260, (8, 6, 0, 0), 0, []),
  (202, false, .iconst 1, 1, 0, (0, 0, 0, 0), 0, []),
  (203, false, .iload_n 2, 1, 0, (0, 0, 0, 0), 0, []),
  (204, false, .iconst 1, 1, 0, (0, 0, 0, 0), 0, []),
  (205, false, .isub, 1, 0, (0, 0, 0, 0), 0, []),
  (206, false, .ishl, 1, 0, (0, 0, 0, 0), 0, []),
  (207, false, .iand, 1, 0, (0, 0, 0, 0), 0, []),
  (208, false, .putfield 33, 3, 260, (8, 6, 0, 0), 0, []),
  (211, false, .goto 3, 3, 0, (214, 0, 0, 0), 0, []),
  (214, false, .return_, 1, 0, (0, 0, 0, 0), 0, [])]
noncomputable def xC_add (v0 v1 v2 v3 : Int) (σ : zz_S) : zz_R := (if v0 = 0 then none else (if v0 = 0 then none else (let s1 := zz_w σ 8 v0 0 (zz_r ((zz_h σ 8 v0 0) + 1)); (if v1 = 0 then (if v0 = 0 then none else (if v0 = 0 then none else (let s13 := zz_w s1 8 v0 1 (zz_land (zz_h s1 8 v0 1) (zz_lshl 1 v2)); (some (0, s13))))) else (if v1 = 1 then (if v0 = 0 then none else (if v0 = 0 then none else (let s12 := zz_w s1 8 v0 2 (zz_and (zz_h s1 8 v0 2) (zz_shl 1 v2)); (some (0, s12))))) else (if v1 = 2 then (if v0 = 0 then none else ((xC_ring v2 v3 24 s1).bind fun q10 => (if v0 = 0 then none else (let s11 := zz_w q10.2 8 v0 2 (zz_and (zz_h s1 8 v0 2) q10.1); (some (0, s11)))))) else (if v1 = 3 then (if v0 = 0 then none else (if v0 = 0 then none else (let s9 := zz_w s1 8 v0 3 (zz_and (zz_h s1 8 v0 3) (zz_shl 1 v2)); (some (0, s9))))) else (if v1 = 4 then (if v0 = 0 then none else ((xC_ring v2 v3 7 s1).bind fun q7 => (if v0 = 0 then none else (let s8 := zz_w q7.2 8 v0 3 (zz_and (zz_h s1 8 v0 3) q7.1); (some (0, s8)))))) else (if v1 = 5 then (if v0 = 0 then none else (if v0 = 0 then none else (let s6 := zz_w s1 8 v0 4 (zz_and (zz_h s1 8 v0 4) (zz_shl 1 (zz_r (v2 - 1)))); (some (0, s6))))) else (if v1 = 6 then (if v0 = 0 then none else (let s5 := zz_w s1 8 v0 7 1; (some (0, s5)))) else (if v1 = 7 then (if v0 = 0 then none else (if v0 = 0 then none else (let s3 := zz_w s1 8 v0 5 (zz_and (zz_h s1 8 v0 5) (zz_shl 1 (zz_r (v2 - 1)))); (if v0 = 0 then none else (if v0 = 0 then none else (let s4 := zz_w s3 8 v0 3 (zz_and (zz_h s3 8 v0 3) (zz_shl 1 v3)); (some (0, s4)))))))) else (if v1 = 8 then (if v0 = 0 then none else (if v0 = 0 then none else (let s2 := zz_w s1 8 v0 6 (zz_and (zz_h s1 8 v0 6) (zz_shl 1 (zz_r (v2 - 1)))); (some (0, s2))))) else (some (0, s1))))))))))))))
set_option maxRecDepth 100000 in
set_option maxHeartbeats 4000000 in
theorem ze_xC_add (v0 v1 v2 v3 : Int) (σ : zz_S) : xC_add v0 v1 v2 v3 σ = zz_ev (zz_CE [(96, zw_xC_ring)]) (zz_KE []) zk_xC_add 999 false 0 0 400 true (zz_sk zk_xC_add 0) [(0, 10, v0), (1, 0, v1), (2, 0, v2), (3, 0, v3)] [] σ := rfl
noncomputable def zw_xC_add : List Int → zz_S → zz_R := fun vs σ => match vs with
  | [a0, a1, a2, a3] => xC_add a0 a1 a2 a3 σ
  | _ => none
def zk_x_calendar : List zz_E := [(0, false, .aload_n 0, 1, 0, (0, 0, 0, 0), 0, []),
  (1, false, .iload_n 1, 1, 0, (0, 0, 0, 0), 0, []),
  (2, false, .invokevirtual 100, 3, 385, (73, 2, 9, 0), 0, [0, 5]),
  (5, false, .astore 5, 2, 0, (0, 0, 0, 0), 0, []),
  (7, false, .aload 5, 2, 0, (0, 0, 0, 0), 0, []),
  (9, false, .ifnull 22, 3, 0, (31, 0, 0, 0), 0, []),
  (12, false, .aload 5, 2, 0, (0, 0, 0, 0), 0, []),
  (14, false, .getfield 114, 3, 301, (7, 1, 0, 0), 0, []),
  (17, false, .iconst 3, 1, 0, (0, 0, 0, 0), 0, []),
  (18, false, .if_icmp .ne 13, 3, 0, (31, 0, 0, 0), 0, []),
  (21, false, .iload_n 2, 1, 0, (0, 0, 0, 0), 0, []),
  (22, false, .iload_n 3, 1, 0, (0, 0, 0, 0), 0, []),
  (23, false, .iload 4, 2, 0, (0, 0, 0, 0), 0, []),
  (25, false, .invokestatic 117, 3, 400, (94, 3, 0, 0), 0, [0, 0, 0]),
  (28, false, .ifCond .ne 6, 3, 0, (34, 0, 0, 0), 0, []),
  (31, false, .bipush (-2), 2, 0, (0, 0, 0, 0), 0, []),
  (33, false, .ireturn, 1, 0, (0, 0, 0, 0), 0, []),
  (34, false, .aload 5, 2, 0, (0, 0, 0, 0), 0, []),
  (36, false, .getfield 122, 3, 311, (7, 5, 10, 1), 0, []),
  (39, false, .getfield 126, 3, 254, (8, 0, 0, 0), 0, []),
  (42, false, .iconst 4, 1, 0, (0, 0, 0, 0), 0, []),
  (43, false, .if_icmp .lt 6, 3, 0, (49, 0, 0, 0), 0, []),
  (46, false, .bipush (-4), 2, 0, (0, 0, 0, 0), 0, []),
  (48, false, .ireturn, 1, 0, (0, 0, 0, 0), 0, []),
  (49, false, .aload 5, 2, 0, (0, 0, 0, 0), 0, []),
  (51, false, .getfield 122, 3, 311, (7, 5, 10, 1), 0, []),
  (54, false, .iload_n 2, 1, 0, (0, 0, 0, 0), 0, []),
  (55, false, .iload_n 3, 1, 0, (0, 0, 0, 0), 0, []),
  (56, false, .iload 4, 2, 0, (0, 0, 0, 0), 0, []),
  (58, false, .invokevirtual 129, 3, 406, (95, 4, 999, 0), 0, [0, 0, 0, 10]),
  (61, false, .aload 5, 2, 0, (0, 0, 0, 0), 0, []),
  (63, false, .getfield 122, 3, 311, (7, 5, 10, 1), 0, []),
  (66, false, .getfield 126, 3, 254, (8, 0, 0, 0), 0, []),
  (69, false, .ireturn, 1, 0, (0, 0, 0, 0), 0, [])]
noncomputable def x_calendar (v1 v2 v3 v4 : Int) (σ : zz_S) : zz_R := ((x_taskAt v1 σ).bind fun q1 => (if q1.1 = 0 then (some ((-2), q1.2)) else (if q1.1 = 0 then none else (if (zz_h q1.2 7 q1.1 1) = 3 then ((xC_isForm v2 v3 v4 q1.2).bind fun q2 => (if q2.1 = 0 then (some ((-2), q2.2)) else (if q1.1 = 0 then none else (if q1.1 = 0 then none else (if (zz_h q2.2 8 q1.1 0) < 4 then (if q1.1 = 0 then none else (if q1.1 = 0 then none else ((xC_add q1.1 v2 v3 v4 q2.2).bind fun q3 => (if q1.1 = 0 then none else (if q1.1 = 0 then none else (some ((zz_h q3.2 8 q1.1 0), q3.2))))))) else (some ((-4), q2.2))))))) else (some ((-2), q1.2))))))
set_option maxRecDepth 100000 in
set_option maxHeartbeats 4000000 in
theorem ze_x_calendar (v1 v2 v3 v4 : Int) (σ : zz_S) : x_calendar v1 v2 v3 v4 σ = zz_ev (zz_CE [(73, zw_x_taskAt), (94, zw_xC_isForm), (95, zw_xC_add)]) (zz_KE []) zk_x_calendar 0 false 0 0 400 true (zz_sk zk_x_calendar 0) [(0, 5, 1), (1, 0, v1), (2, 0, v2), (3, 0, v3), (4, 0, v4)] [] σ := rfl
noncomputable def zw_x_calendar : List Int → zz_S → zz_R := fun vs σ => match vs with
  | [a0, a1, a2, a3, a4] => if a0 = 1 then x_calendar a1 a2 a3 a4 σ else none
  | _ => none
def zk_x_body : List zz_E := [(0, false, .aload_n 0, 1, 0, (0, 0, 0, 0), 0, []),
  (1, false, .iload_n 1, 1, 0, (0, 0, 0, 0), 0, []),
  (2, false, .invokevirtual 100, 3, 385, (73, 2, 9, 0), 0, [0, 5]),
  (5, false, .astore 5, 2, 0, (0, 0, 0, 0), 0, []),
  (7, false, .aload 5, 2, 0, (0, 0, 0, 0), 0, []),
  (9, false, .ifnull 13, 3, 0, (22, 0, 0, 0), 0, []),
  (12, false, .iload_n 2, 1, 0, (0, 0, 0, 0), 0, []),
  (13, false, .iconst 0, 1, 0, (0, 0, 0, 0), 0, []),
  (14, false, .bipush 6, 2, 0, (0, 0, 0, 0), 0, []),
  (16, false, .invokestatic 91, 3, 228, (72, 3, 0, 0), 0, [0, 0, 0]),
  (19, false, .ifCond .ne 6, 3, 0, (25, 0, 0, 0), 0, []),
  (22, false, .bipush (-2), 2, 0, (0, 0, 0, 0), 0, []),
  (24, false, .ireturn, 1, 0, (0, 0, 0, 0), 0, []),
  (25, false, .aload 5, 2, 0, (0, 0, 0, 0), 0, []),
  (27, false, .getfield 133, 3, 315, (7, 7, 0, 0), 0, []),
  (30, false, .istore 6, 2, 0, (0, 0, 0, 0), 0, []),
  (32, false, .aload 5, 2, 0, (0, 0, 0, 0), 0, []),
  (34, false, .iload_n 2, 1, 0, (0, 0, 0, 0), 0, []),
  (35, false, .putfield 133, 3, 315, (7, 7, 0, 0), 0, []),
  (38, false, .aload 5, 2, 0, (0, 0, 0, 0), 0, []),
  (40, false, .iload_n 3, 1, 0, (0, 0, 0, 0), 0, []),
  (41, false, .putfield 136, 3, 317, (7, 8, 0, 0), 0, []),
  (44, false, .aload 5, 2, 0, (0, 0, 0, 0), 0, []),
  (46, false, .iload 4, 2, 0, (0, 0, 0, 0), 0, []),
  (48, false, .putfield 139, 3, 319, (7, 9, 0, 0), 0, []),
  (51, false, .iload 6, 2, 0, (0, 0, 0, 0), 0, []),
  (53, false, .ireturn, 1, 0, (0, 0, 0, 0), 0, [])]
noncomputable def x_body (v1 v2 v3 v4 : Int) (σ : zz_S) : zz_R := ((x_taskAt v1 σ).bind fun q1 => (if q1.1 = 0 then (some ((-2), q1.2)) else ((x_isWithin v2 0 6 q1.2).bind fun q2 => (if q2.1 = 0 then (some ((-2), q2.2)) else (if q1.1 = 0 then none else (if q1.1 = 0 then none else (let s3 := zz_w q2.2 7 q1.1 7 v2; (if q1.1 = 0 then none else (let s4 := zz_w s3 7 q1.1 8 v3; (if q1.1 = 0 then none else (let s5 := zz_w s4 7 q1.1 9 v4; (some ((zz_h q2.2 7 q1.1 7), s5)))))))))))))
set_option maxRecDepth 100000 in
set_option maxHeartbeats 4000000 in
theorem ze_x_body (v1 v2 v3 v4 : Int) (σ : zz_S) : x_body v1 v2 v3 v4 σ = zz_ev (zz_CE [(72, zw_x_isWithin), (73, zw_x_taskAt)]) (zz_KE []) zk_x_body 0 false 0 0 400 true (zz_sk zk_x_body 0) [(0, 5, 1), (1, 0, v1), (2, 0, v2), (3, 0, v3), (4, 0, v4)] [] σ := rfl
noncomputable def zw_x_body : List Int → zz_S → zz_R := fun vs σ => match vs with
  | [a0, a1, a2, a3, a4] => if a0 = 1 then x_body a1 a2 a3 a4 σ else none
  | _ => none
def zk_x_link : List zz_E := [(0, false, .iload_n 2, 1, 0, (0, 0, 0, 0), 0, []),
  (1, false, .bipush 60, 2, 0, (0, 0, 0, 0), 0, []),
  (3, false, .if_icmp .lt 5, 3, 0, (8, 0, 0, 0), 0, []),
  (6, false, .iload_n 2, 1, 0, (0, 0, 0, 0), 0, []),
  (7, false, .ireturn, 1, 0, (0, 0, 0, 0), 0, []),
  (8, false, .iconst 0, 1, 0, (0, 0, 0, 0), 0, []),
  (9, false, .istore_n 3, 1, 0, (0, 0, 0, 0), 0, []),
  (10, true, .iload_n 3, 1, 0, (0, 0, 0, 0), 0, []),
  (11, false, .iload_n 2, 1, 0, (0, 0, 0, 0), 0, []),
  (12, false, .if_icmp .ge 21, 3, 0, (33, 0, 0, 0), 0, []),
  (15, false, .aload_n 0, 1, 0, (0, 0, 0, 0), 0, []),
  (16, false, .getfield 59, 3, 173, (3, 10, 20, 1), 0, []),
  (19, false, .iload_n 3, 1, 0, (0, 0, 0, 0), 0, []),
  (20, false, .iaload, 1, 0, (18, 0, 0, 0), 0, []),
  (21, false, .iload_n 1, 1, 0, (0, 0, 0, 0), 0, []),
  (22, false, .if_icmp .ne 5, 3, 0, (27, 0, 0, 0), 0, []),
  (25, false, .iload_n 2, 1, 0, (0, 0, 0, 0), 0, []),
  (26, false, .ireturn, 1, 0, (0, 0, 0, 0), 0, []),
  (27, false, .iinc 3 1, 3, 0, (0, 0, 0, 0), 0, []),
  (30, false, .goto (-20), 3, 0, (10, 0, 0, 0), 0, []),
  (33, false, .aload_n 0, 1, 0, (0, 0, 0, 0), 0, []),
  (34, false, .getfield 59, 3, 173, (3, 10, 20, 1), 0, []),
  (37, false, .iload_n 2, 1, 0, (0, 0, 0, 0), 0, []),
  (38, false, .iload_n 1, 1, 0, (0, 0, 0, 0), 0, []),
  (39, false, .iastore, 1, 0, (18, 0, 0, 0), 0, []),
  (40, false, .iload_n 2, 1, 0, (0, 0, 0, 0), 0, []),
  (41, false, .iconst 1, 1, 0, (0, 0, 0, 0), 0, []),
  (42, false, .iadd, 1, 0, (0, 0, 0, 0), 0, []),
  (43, false, .ireturn, 1, 0, (0, 0, 0, 0), 0, [])]
noncomputable def x_link_10 : Nat → Int → Int → Int → zz_S → zz_R
  | 0, _, _, _, _ => none
  | n + 1, v1, v2, v3, σ => (if v3 < v2 then (if zz_b σ 18 1 v3 then (if (zz_h σ 18 1 v3) = v1 then (some (v2, σ)) else (x_link_10 n v1 v2 (zz_r (v3 + 1)) σ)) else none) else (if zz_b σ 18 1 v2 then (let s1 := zz_w σ 18 1 v2 v1; (some ((zz_r (v2 + 1)), s1))) else none))
set_option maxRecDepth 100000 in
set_option maxHeartbeats 4000000 in
theorem ze_x_link_10 (n : Nat) (v1 v2 v3 : Int) (σ : zz_S) : x_link_10 (n + 1) v1 v2 v3 σ = zz_ev (zz_CE []) (zz_KE [(10, [(0, 5, true), (1, 0, false), (2, 0, false), (3, 0, false)], fun vs σ => match vs with | [b0, b1, b2] => x_link_10 n b0 b1 b2 σ | _ => none)]) zk_x_link 0 false 0 0 400 true (zz_sk zk_x_link 10) [(0, 5, 1), (1, 0, v1), (2, 0, v2), (3, 0, v3)] [] σ := rfl
noncomputable def x_link (v1 v2 : Int) (σ : zz_S) : zz_R := (if v2 < 60 then (x_link_10 zz_fu v1 v2 0 σ) else (some (v2, σ)))
set_option maxRecDepth 100000 in
set_option maxHeartbeats 4000000 in
theorem ze_x_link (v1 v2 : Int) (σ : zz_S) : x_link v1 v2 σ = zz_ev (zz_CE []) (zz_KE [(10, [(0, 5, true), (1, 0, false), (2, 0, false), (3, 0, false)], fun vs σ => match vs with | [b0, b1, b2] => x_link_10 zz_fu b0 b1 b2 σ | _ => none)]) zk_x_link 0 false 0 0 400 true (zz_sk zk_x_link 0) [(0, 5, 1), (1, 0, v1), (2, 0, v2)] [] σ := rfl
noncomputable def zw_x_link : List Int → zz_S → zz_R := fun vs σ => match vs with
  | [a0, a1, a2] => if a0 = 1 then x_link a1 a2 σ else none
  | _ => none
def zk_x_comesAfter : List zz_E := [(0, false, .aload_n 0, 1, 0, (0, 0, 0, 0), 0, []),
  (1, false, .iload_n 1, 1, 0, (0, 0, 0, 0), 0, []),
  (2, false, .iconst 0, 1, 0, (0, 0, 0, 0), 0, []),
  (3, false, .invokevirtual 158, 3, 425, (21, 3, 0, 0), 0, [0, 0, 5]),
  (6, false, .istore_n 3, 1, 0, (0, 0, 0, 0), 0, []),
  (7, false, .iconst 0, 1, 0, (0, 0, 0, 0), 0, []),
  (8, false, .istore 4, 2, 0, (0, 0, 0, 0), 0, []),
  (10, true, .iload 4, 2, 0, (0, 0, 0, 0), 0, []),
  (12, false, .iload_n 3, 1, 0, (0, 0, 0, 0), 0, []),
  (13, false, .if_icmp .ge 80, 3, 0, (93, 0, 0, 0), 0, []),
  (16, false, .aload_n 0, 1, 0, (0, 0, 0, 0), 0, []),
  (17, false, .aload_n 0, 1, 0, (0, 0, 0, 0), 0, []),
  (18, false, .getfield 59, 3, 173, (3, 10, 20, 1), 0, []),
  (21, false, .iload 4, 2, 0, (0, 0, 0, 0), 0, []),
  (23, false, .iaload, 1, 0, (18, 0, 0, 0), 0, []),
  (24, false, .invokevirtual 100, 3, 385, (73, 2, 9, 0), 0, [0, 5]),
  (27, false, .astore 5, 2, 0, (0, 0, 0, 0), 0, []),
  (29, false, .aload 5, 2, 0, (0, 0, 0, 0), 0, []),
  (31, false, .ifnonnull 6, 3, 0, (37, 0, 0, 0), 0, []),
  (34, false, .goto 53, 3, 0, (87, 0, 0, 0), 0, []),
  (37, false, .aload 5, 2, 0, (0, 0, 0, 0), 0, []),
  (39, false, .getfield 162, 3, 299, (7, 0, 0, 0), 0, []),
  (42, false, .iload_n 2, 1, 0, (0, 0, 0, 0), 0, []),
  (43, false, .if_icmp .ne 5, 3, 0, (48, 0, 0, 0), 0, []),
  (46, false, .iconst 1, 1, 0, (0, 0, 0, 0), 0, []),
  (47, false, .ireturn, 1, 0, (0, 0, 0, 0), 0, []),
  (48, false, .iconst 0, 1, 0, (0, 0, 0, 0), 0, []),
  (49, false, .istore 6, 2, 0, (0, 0, 0, 0), 0, []),
  (51, true, .iload 6, 2, 0, (0, 0, 0, 0), 0, []),
  (53, false, .aload 5, 2, 0, (0, 0, 0, 0), 0, []),
  (55, false, .getfield 146, 3, 313, (7, 6, 11, 1), 0, []),
  (58, false, .getfield 150, 3, 289, (9, 2, 0, 0), 0, []),
  (61, false, .if_icmp .ge 26, 3, 0, (87, 0, 0, 0), 0, []),
  (64, false, .aload_n 0, 1, 0, (0, 0, 0, 0), 0, []),
  (65, false, .aload 5, 2, 0, (0, 0, 0, 0), 0, []),
  (67, false, .getfield 146, 3, 313, (7, 6, 11, 1), 0, []),
  (70, false, .getfield 165, 3, 286, (9, 0, 31, 1), 0, []),
  (73, false, .iload 6, 2, 0, (0, 0, 0, 0), 0, []),
  (75, false, .iaload, 1, 0, (29, 0, 0, 0), 0, []),
  (76, false, .iload_n 3, 1, 0, (0, 0, 0, 0), 0, []),
  (77, false, .invokevirtual 158, 3, 425, (21, 3, 0, 0), 0, [0, 0, 5]),
  (80, false, .istore_n 3, 1, 0, (0, 0, 0, 0), 0, []),
  (81, false, .iinc 6 1, 3, 0, (0, 0, 0, 0), 0, []),
  (84, false, .goto (-33), 3, 0, (51, 0, 0, 0), 0, []),
  (87, false, .iinc 4 1, 3, 0, (0, 0, 0, 0), 0, []),
  (90, false, .goto (-80), 3, 0, (10, 0, 0, 0), 0, []),
  (93, false, .iconst 0, 1, 0, (0, 0, 0, 0), 0, []),
  (94, false, .ireturn, 1, 0, (0, 0, 0, 0), 0, [])]
noncomputable def x_comesAfter_51 (k10 : Int → Int → Int → zz_S → zz_R) : Nat → Int → Int → Int → Int → Int → zz_S → zz_R
  | 0, _, _, _, _, _, _ => none
  | n + 1, v2, v3, v4, v5, v6, σ => (if v5 = 0 then none else (if v5 = 0 then none else (if v6 < (zz_h σ 9 v5 2) then (if v5 = 0 then none else (if v5 = 0 then none else (if v5 = 0 then none else (if zz_b σ 29 v5 v6 then ((x_link (zz_h σ 29 v5 v6) v3 σ).bind fun q1 => (x_comesAfter_51 k10 n v2 q1.1 v4 v5 (zz_r (v6 + 1)) q1.2)) else none)))) else (k10 v2 v3 (zz_r (v4 + 1)) σ))))
set_option maxRecDepth 100000 in
set_option maxHeartbeats 4000000 in
theorem ze_x_comesAfter_51 (k10 : Int → Int → Int → zz_S → zz_R) (n : Nat) (v2 v3 v4 v5 v6 : Int) (σ : zz_S) : x_comesAfter_51 k10 (n + 1) v2 v3 v4 v5 v6 σ = zz_ev (zz_CE [(21, zw_x_link)]) (zz_KE [(10, [(0, 5, true), (2, 0, false), (3, 0, false), (4, 0, false)], fun vs σ => match vs with | [b0, b1, b2] => k10 b0 b1 b2 σ | _ => none), (51, [(0, 5, true), (2, 0, false), (3, 0, false), (4, 0, false), (5, 9, false), (6, 0, false)], fun vs σ => match vs with | [b0, b1, b2, b3, b4] => x_comesAfter_51 k10 n b0 b1 b2 b3 b4 σ | _ => none)]) zk_x_comesAfter 0 true 0 0 400 true (zz_sk zk_x_comesAfter 51) [(0, 5, 1), (2, 0, v2), (3, 0, v3), (4, 0, v4), (5, 9, v5), (6, 0, v6)] [] σ := rfl
noncomputable def x_comesAfter_10 : Nat → Int → Int → Int → zz_S → zz_R
  | 0, _, _, _, _ => none
  | n + 1, v2, v3, v4, σ => (if v4 < v3 then (if zz_b σ 18 1 v4 then ((x_taskAt (zz_h σ 18 1 v4) σ).bind fun q1 => (if q1.1 = 0 then (x_comesAfter_10 n v2 v3 (zz_r (v4 + 1)) q1.2) else (if q1.1 = 0 then none else (if (zz_h q1.2 7 q1.1 0) = v2 then (some (1, q1.2)) else (x_comesAfter_51 (x_comesAfter_10 n) zz_fu v2 v3 v4 q1.1 0 q1.2))))) else none) else (some (0, σ)))
set_option maxRecDepth 100000 in
set_option maxHeartbeats 4000000 in
theorem ze_x_comesAfter_10 (n : Nat) (v2 v3 v4 : Int) (σ : zz_S) : x_comesAfter_10 (n + 1) v2 v3 v4 σ = zz_ev (zz_CE [(73, zw_x_taskAt)]) (zz_KE [(10, [(0, 5, true), (2, 0, false), (3, 0, false), (4, 0, false)], fun vs σ => match vs with | [b0, b1, b2] => x_comesAfter_10 n b0 b1 b2 σ | _ => none), (51, [(0, 5, true), (2, 0, false), (3, 0, false), (4, 0, false), (5, 9, false), (6, 0, false)], fun vs σ => match vs with | [b0, b1, b2, b3, b4] => x_comesAfter_51 (x_comesAfter_10 n) zz_fu b0 b1 b2 b3 b4 σ | _ => none)]) zk_x_comesAfter 0 true 0 0 400 true (zz_sk zk_x_comesAfter 10) [(0, 5, 1), (2, 0, v2), (3, 0, v3), (4, 0, v4)] [] σ := rfl
noncomputable def x_comesAfter (v1 v2 : Int) (σ : zz_S) : zz_R := ((x_link v1 0 σ).bind fun q1 => (x_comesAfter_10 zz_fu v2 q1.1 0 q1.2))
set_option maxRecDepth 100000 in
set_option maxHeartbeats 4000000 in
theorem ze_x_comesAfter (v1 v2 : Int) (σ : zz_S) : x_comesAfter v1 v2 σ = zz_ev (zz_CE [(21, zw_x_link)]) (zz_KE [(10, [(0, 5, true), (2, 0, false), (3, 0, false), (4, 0, false)], fun vs σ => match vs with | [b0, b1, b2] => x_comesAfter_10 zz_fu b0 b1 b2 σ | _ => none)]) zk_x_comesAfter 0 true 0 0 400 true (zz_sk zk_x_comesAfter 0) [(0, 5, 1), (1, 0, v1), (2, 0, v2)] [] σ := rfl
noncomputable def zw_x_comesAfter : List Int → zz_S → zz_R := fun vs σ => match vs with
  | [a0, a1, a2] => if a0 = 1 then x_comesAfter a1 a2 σ else none
  | _ => none
def zk_xN_add : List zz_E := [(0, false, .aload_n 0, 1, 0, (0, 0, 0, 0), 0, []),
  (1, false, .getfield 18, 3, 288, (9, 2, 0, 0), 0, []),
  (4, false, .iconst 4, 1, 0, (0, 0, 0, 0), 0, []),
  (5, false, .if_icmp .lt 4, 3, 0, (9, 0, 0, 0), 0, []),
  (8, false, .return_, 1, 0, (0, 0, 0, 0), 0, []),
  (9, false, .aload_n 0, 1, 0, (0, 0, 0, 0), 0, []),
  (10, false, .getfield 9, 3, 285, (9, 0, 31, 1), 0, []),
  (13, false, .aload_n 0, 1, 0, (0, 0, 0, 0), 0, []),
  (14, false, .getfield 18, 3, 288, (9, 2, 0, 0), 0, []),
  (17, false, .iload_n 1, 1, 0, (0, 0, 0, 0), 0, []),
  (18, false, .iastore, 1, 0, (29, 0, 0, 0), 0, []),
  (19, false, .aload_n 0, 1, 0, (0, 0, 0, 0), 0, []),
  (20, false, .getfield 15, 3, 287, (9, 1, 32, 1), 0, []),
  (23, false, .aload_n 0, 1, 0, (0, 0, 0, 0), 0, []),
  (24, false, .getfield 18, 3, 288, (9, 2, 0, 0), 0, []),
  (27, false, .iload_n 2, 1, 0, (0, 0, 0, 0), 0, []),
  (28, false, .iastore, 1, 0, (30, 0, 0, 0), 0, []),
  (29, false, .aload_n 0, 1, 0, (0, 0, 0, 0), 0, []),
  (30, false, .dup, 1, 0, (0, 0, 0, 0), 0, []),
  (31, false, .getfield 18, 3, 288, (9, 2, 0, 0), 0, []),
  (34, false, .iconst 1, 1, 0, (0, 0, 0, 0), 0, []),
  (35, false, .iadd, 1, 0, (0, 0, 0, 0), 0, []),
  (36, false, .putfield 18, 3, 288, (9, 2, 0, 0), 0, []),
  (39, false, .return_, 1, 0, (0, 0, 0, 0), 0, [])]
noncomputable def xN_add (v0 v1 v2 : Int) (σ : zz_S) : zz_R := (if v0 = 0 then none else (if (zz_h σ 9 v0 2) < 4 then (if v0 = 0 then none else (if v0 = 0 then none else (if v0 = 0 then none else (if zz_b σ 29 v0 (zz_h σ 9 v0 2) then (let s1 := zz_w σ 29 v0 (zz_h σ 9 v0 2) v1; (if v0 = 0 then none else (if v0 = 0 then none else (if v0 = 0 then none else (if zz_b s1 30 v0 (zz_h s1 9 v0 2) then (let s2 := zz_w s1 30 v0 (zz_h s1 9 v0 2) v2; (if v0 = 0 then none else (if v0 = 0 then none else (let s3 := zz_w s2 9 v0 2 (zz_r ((zz_h s2 9 v0 2) + 1)); (some (0, s3)))))) else none))))) else none)))) else (some (0, σ))))
set_option maxRecDepth 100000 in
set_option maxHeartbeats 4000000 in
theorem ze_xN_add (v0 v1 v2 : Int) (σ : zz_S) : xN_add v0 v1 v2 σ = zz_ev (zz_CE []) (zz_KE []) zk_xN_add 999 false 0 0 400 true (zz_sk zk_xN_add 0) [(0, 11, v0), (1, 0, v1), (2, 0, v2)] [] σ := rfl
noncomputable def zw_xN_add : List Int → zz_S → zz_R := fun vs σ => match vs with
  | [a0, a1, a2] => xN_add a0 a1 a2 σ
  | _ => none
def zk_x_after : List zz_E := [(0, false, .aload_n 0, 1, 0, (0, 0, 0, 0), 0, []),
  (1, false, .iload_n 1, 1, 0, (0, 0, 0, 0), 0, []),
  (2, false, .invokevirtual 100, 3, 385, (73, 2, 9, 0), 0, [0, 5]),
  (5, false, .astore 4, 2, 0, (0, 0, 0, 0), 0, []),
  (7, false, .aload 4, 2, 0, (0, 0, 0, 0), 0, []),
  (9, false, .ifnull 20, 3, 0, (29, 0, 0, 0), 0, []),
  (12, false, .aload 4, 2, 0, (0, 0, 0, 0), 0, []),
  (14, false, .getfield 114, 3, 301, (7, 1, 0, 0), 0, []),
  (17, false, .iconst 4, 1, 0, (0, 0, 0, 0), 0, []),
  (18, false, .if_icmp .ne 11, 3, 0, (29, 0, 0, 0), 0, []),
  (21, false, .aload_n 0, 1, 0, (0, 0, 0, 0), 0, []),
  (22, false, .iload_n 2, 1, 0, (0, 0, 0, 0), 0, []),
  (23, false, .invokevirtual 100, 3, 385, (73, 2, 9, 0), 0, [0, 5]),
  (26, false, .ifnonnull 6, 3, 0, (32, 0, 0, 0), 0, []),
  (29, false, .bipush (-2), 2, 0, (0, 0, 0, 0), 0, []),
  (31, false, .ireturn, 1, 0, (0, 0, 0, 0), 0, []),
  (32, false, .iload_n 1, 1, 0, (0, 0, 0, 0), 0, []),
  (33, false, .iload_n 2, 1, 0, (0, 0, 0, 0), 0, []),
  (34, false, .if_icmp .eq 12, 3, 0, (46, 0, 0, 0), 0, []),
  (37, false, .iload_n 3, 1, 0, (0, 0, 0, 0), 0, []),
  (38, false, .iconst 0, 1, 0, (0, 0, 0, 0), 0, []),
  (39, false, .iconst 2, 1, 0, (0, 0, 0, 0), 0, []),
  (40, false, .invokestatic 91, 3, 228, (72, 3, 0, 0), 0, [0, 0, 0]),
  (43, false, .ifCond .ne 6, 3, 0, (49, 0, 0, 0), 0, []),
  (46, false, .bipush (-2), 2, 0, (0, 0, 0, 0), 0, []),
  (48, false, .ireturn, 1, 0, (0, 0, 0, 0), 0, []),
  (49, false, .aload_n 0, 1, 0, (0, 0, 0, 0), 0, []),
  (50, false, .iload_n 2, 1, 0, (0, 0, 0, 0), 0, []),
  (51, false, .iload_n 1, 1, 0, (0, 0, 0, 0), 0, []),
  (52, false, .invokevirtual 142, 3, 421, (20, 3, 0, 0), 0, [0, 0, 5]),
  (55, false, .ifCond .eq 6, 3, 0, (61, 0, 0, 0), 0, []),
  (58, false, .bipush (-3), 2, 0, (0, 0, 0, 0), 0, []),
  (60, false, .ireturn, 1, 0, (0, 0, 0, 0), 0, []),
  (61, false, .aload 4, 2, 0, (0, 0, 0, 0), 0, []),
  (63, false, .getfield 146, 3, 313, (7, 6, 11, 1), 0, []),
  (66, false, .getfield 150, 3, 289, (9, 2, 0, 0), 0, []),
  (69, false, .iconst 4, 1, 0, (0, 0, 0, 0), 0, []),
  (70, false, .if_icmp .lt 6, 3, 0, (76, 0, 0, 0), 0, []),
  (73, false, .bipush (-4), 2, 0, (0, 0, 0, 0), 0, []),
  (75, false, .ireturn, 1, 0, (0, 0, 0, 0), 0, []),
  (76, false, .aload 4, 2, 0, (0, 0, 0, 0), 0, []),
  (78, false, .getfield 146, 3, 313, (7, 6, 11, 1), 0, []),
  (81, false, .iload_n 2, 1, 0, (0, 0, 0, 0), 0, []),
  (82, false, .iload_n 3, 1, 0, (0, 0, 0, 0), 0, []),
  (83, false, .invokevirtual 155, 3, 429, (104, 3, 999, 0), 0, [0, 0, 11]),
  (86, false, .aload 4, 2, 0, (0, 0, 0, 0), 0, []),
  (88, false, .getfield 146, 3, 313, (7, 6, 11, 1), 0, []),
  (91, false, .getfield 150, 3, 289, (9, 2, 0, 0), 0, []),
  (94, false, .ireturn, 1, 0, (0, 0, 0, 0), 0, [])]
noncomputable def x_after (v1 v2 v3 : Int) (σ : zz_S) : zz_R := ((x_taskAt v1 σ).bind fun q1 => (if q1.1 = 0 then (some ((-2), q1.2)) else (if q1.1 = 0 then none else (if (zz_h q1.2 7 q1.1 1) = 4 then ((x_taskAt v2 q1.2).bind fun q2 => (if q2.1 = 0 then (some ((-2), q2.2)) else (if v1 = v2 then (some ((-2), q2.2)) else ((x_isWithin v3 0 2 q2.2).bind fun q3 => (if q3.1 = 0 then (some ((-2), q3.2)) else ((x_comesAfter v2 v1 q3.2).bind fun q4 => (if q4.1 = 0 then (if q1.1 = 0 then none else (if q1.1 = 0 then none else (if (zz_h q4.2 9 q1.1 2) < 4 then (if q1.1 = 0 then none else (if q1.1 = 0 then none else ((xN_add q1.1 v2 v3 q4.2).bind fun q5 => (if q1.1 = 0 then none else (if q1.1 = 0 then none else (some ((zz_h q5.2 9 q1.1 2), q5.2))))))) else (some ((-4), q4.2))))) else (some ((-3), q4.2))))))))) else (some ((-2), q1.2))))))
set_option maxRecDepth 100000 in
set_option maxHeartbeats 4000000 in
theorem ze_x_after (v1 v2 v3 : Int) (σ : zz_S) : x_after v1 v2 v3 σ = zz_ev (zz_CE [(20, zw_x_comesAfter), (72, zw_x_isWithin), (73, zw_x_taskAt), (104, zw_xN_add)]) (zz_KE []) zk_x_after 0 false 0 0 400 true (zz_sk zk_x_after 0) [(0, 5, 1), (1, 0, v1), (2, 0, v2), (3, 0, v3)] [] σ := rfl
noncomputable def zw_x_after : List Int → zz_S → zz_R := fun vs σ => match vs with
  | [a0, a1, a2, a3] => if a0 = 1 then x_after a1 a2 a3 σ else none
  | _ => none
def zk_xP_placeOf : List zz_E := [(0, false, .iconst 0, 1, 0, (0, 0, 0, 0), 0, []),
  (1, false, .istore_n 3, 1, 0, (0, 0, 0, 0), 0, []),
  (2, true, .iload_n 3, 1, 0, (0, 0, 0, 0), 0, []),
  (3, false, .aload_n 0, 1, 0, (0, 0, 0, 0), 0, []),
  (4, false, .getfield 21, 3, 152, (6, 3, 0, 0), 0, []),
  (7, false, .if_icmp .ge 31, 3, 0, (38, 0, 0, 0), 0, []),
  (10, false, .aload_n 0, 1, 0, (0, 0, 0, 0), 0, []),
  (11, false, .getfield 9, 3, 149, (6, 0, 27, 1), 0, []),
  (14, false, .iload_n 3, 1, 0, (0, 0, 0, 0), 0, []),
  (15, false, .iaload, 1, 0, (25, 0, 0, 0), 0, []),
  (16, false, .iload_n 1, 1, 0, (0, 0, 0, 0), 0, []),
  (17, false, .if_icmp .ne 15, 3, 0, (32, 0, 0, 0), 0, []),
  (20, false, .aload_n 0, 1, 0, (0, 0, 0, 0), 0, []),
  (21, false, .getfield 15, 3, 150, (6, 1, 28, 1), 0, []),
  (24, false, .iload_n 3, 1, 0, (0, 0, 0, 0), 0, []),
  (25, false, .iaload, 1, 0, (26, 0, 0, 0), 0, []),
  (26, false, .iload_n 2, 1, 0, (0, 0, 0, 0), 0, []),
  (27, false, .if_icmp .ne 5, 3, 0, (32, 0, 0, 0), 0, []),
  (30, false, .iload_n 3, 1, 0, (0, 0, 0, 0), 0, []),
  (31, false, .ireturn, 1, 0, (0, 0, 0, 0), 0, []),
  (32, false, .iinc 3 1, 3, 0, (0, 0, 0, 0), 0, []),
  (35, false, .goto (-33), 3, 0, (2, 0, 0, 0), 0, []),
  (38, false, .aload_n 0, 1, 0, (0, 0, 0, 0), 0, []),
  (39, false, .getfield 21, 3, 152, (6, 3, 0, 0), 0, []),
  (42, false, .ireturn, 1, 0, (0, 0, 0, 0), 0, [])]
noncomputable def xP_placeOf_2 : Nat → Int → Int → Int → zz_S → zz_R
  | 0, _, _, _, _ => none
  | n + 1, v1, v2, v3, σ => (if v3 < (zz_h σ 6 1 3) then (if zz_b σ 25 1 v3 then (if (zz_h σ 25 1 v3) = v1 then (if zz_b σ 26 1 v3 then (if (zz_h σ 26 1 v3) = v2 then (some (v3, σ)) else (xP_placeOf_2 n v1 v2 (zz_r (v3 + 1)) σ)) else none) else (xP_placeOf_2 n v1 v2 (zz_r (v3 + 1)) σ)) else none) else (some ((zz_h σ 6 1 3), σ)))
set_option maxRecDepth 100000 in
set_option maxHeartbeats 4000000 in
theorem ze_xP_placeOf_2 (n : Nat) (v1 v2 v3 : Int) (σ : zz_S) : xP_placeOf_2 (n + 1) v1 v2 v3 σ = zz_ev (zz_CE []) (zz_KE [(2, [(0, 8, true), (1, 0, false), (2, 0, false), (3, 0, false)], fun vs σ => match vs with | [b0, b1, b2] => xP_placeOf_2 n b0 b1 b2 σ | _ => none)]) zk_xP_placeOf 0 false 0 0 400 true (zz_sk zk_xP_placeOf 2) [(0, 8, 1), (1, 0, v1), (2, 0, v2), (3, 0, v3)] [] σ := rfl
noncomputable def xP_placeOf (v1 v2 : Int) (σ : zz_S) : zz_R := (xP_placeOf_2 zz_fu v1 v2 0 σ)
set_option maxRecDepth 100000 in
set_option maxHeartbeats 4000000 in
theorem ze_xP_placeOf (v1 v2 : Int) (σ : zz_S) : xP_placeOf v1 v2 σ = zz_ev (zz_CE []) (zz_KE [(2, [(0, 8, true), (1, 0, false), (2, 0, false), (3, 0, false)], fun vs σ => match vs with | [b0, b1, b2] => xP_placeOf_2 zz_fu b0 b1 b2 σ | _ => none)]) zk_xP_placeOf 0 false 0 0 400 true (zz_sk zk_xP_placeOf 0) [(0, 8, 1), (1, 0, v1), (2, 0, v2)] [] σ := rfl
noncomputable def zw_xP_placeOf : List Int → zz_S → zz_R := fun vs σ => match vs with
  | [a0, a1, a2] => if a0 = 1 then xP_placeOf a1 a2 σ else none
  | _ => none
def zk_j_max : List zz_E := [(0, false, .iload_n 0, 1, 0, (0, 0, 0, 0), 0, []),
  (1, false, .iload_n 1, 1, 0, (0, 0, 0, 0), 0, []),
  (2, false, .if_icmp .lt 7, 3, 0, (9, 0, 0, 0), 0, []),
  (5, false, .iload_n 0, 1, 0, (0, 0, 0, 0), 0, []),
  (6, false, .goto 4, 3, 0, (10, 0, 0, 0), 0, []),
  (9, false, .iload_n 1, 1, 0, (0, 0, 0, 0), 0, []),
  (10, false, .ireturn, 1, 0, (0, 0, 0, 0), 0, [])]
noncomputable def j_max (v0 v1 : Int) (σ : zz_S) : zz_R := (if v0 < v1 then (some (v1, σ)) else (some (v0, σ)))
set_option maxRecDepth 100000 in
set_option maxHeartbeats 4000000 in
theorem ze_j_max (v0 v1 : Int) (σ : zz_S) : j_max v0 v1 σ = zz_ev (zz_CE []) (zz_KE []) zk_j_max 0 false 0 0 400 true (zz_sk zk_j_max 0) [(0, 0, v0), (1, 0, v1)] [] σ := rfl
noncomputable def zw_j_max : List Int → zz_S → zz_R := fun vs σ => match vs with
  | [a0, a1] => j_max a0 a1 σ
  | _ => none
def zk_xP_put : List zz_E := [(0, false, .aload_n 0, 1, 0, (0, 0, 0, 0), 0, []),
  (1, false, .iload_n 1, 1, 0, (0, 0, 0, 0), 0, []),
  (2, false, .iload_n 2, 1, 0, (0, 0, 0, 0), 0, []),
  (3, false, .invokevirtual 25, 3, 441, (84, 3, 0, 0), 0, [0, 0, 8]),
  (6, false, .istore 4, 2, 0, (0, 0, 0, 0), 0, []),
  (8, false, .iload 4, 2, 0, (0, 0, 0, 0), 0, []),
  (10, false, .bipush 40, 2, 0, (0, 0, 0, 0), 0, []),
  (12, false, .if_icmp .lt 5, 3, 0, (17, 0, 0, 0), 0, []),
  (15, false, .iconst 0, 1, 0, (0, 0, 0, 0), 0, []),
  (16, false, .ireturn, 1, 0, (0, 0, 0, 0), 0, []),
  (17, false, .aload_n 0, 1, 0, (0, 0, 0, 0), 0, []),
  (18, false, .getfield 9, 3, 149, (6, 0, 27, 1), 0, []),
  (21, false, .iload 4, 2, 0, (0, 0, 0, 0), 0, []),
  (23, false, .iload_n 1, 1, 0, (0, 0, 0, 0), 0, []),
  (24, false, .iastore, 1, 0, (25, 0, 0, 0), 0, []),
  (25, false, .aload_n 0, 1, 0, (0, 0, 0, 0), 0, []),
  (26, false, .getfield 15, 3, 150, (6, 1, 28, 1), 0, []),
  (29, false, .iload 4, 2, 0, (0, 0, 0, 0), 0, []),
  (31, false, .iload_n 2, 1, 0, (0, 0, 0, 0), 0, []),
  (32, false, .iastore, 1, 0, (26, 0, 0, 0), 0, []),
  (33, false, .aload_n 0, 1, 0, (0, 0, 0, 0), 0, []),
  (34, false, .getfield 18, 3, 151, (6, 2, 29, 1), 0, []),
  (37, false, .iload 4, 2, 0, (0, 0, 0, 0), 0, []),
  (39, false, .iload_n 3, 1, 0, (0, 0, 0, 0), 0, []),
  (40, false, .iastore, 1, 0, (27, 0, 0, 0), 0, []),
  (41, false, .aload_n 0, 1, 0, (0, 0, 0, 0), 0, []),
  (42, false, .aload_n 0, 1, 0, (0, 0, 0, 0), 0, []),
  (43, false, .getfield 21, 3, 152, (6, 3, 0, 0), 0, []),
  (46, false, .iload 4, 2, 0, (0, 0, 0, 0), 0, []),
  (48, false, .iconst 1, 1, 0, (0, 0, 0, 0), 0, []),
  (49, false, .iadd, 1, 0, (0, 0, 0, 0), 0, []),
  (50, false, .invokestatic 29, 3, 445, (168, 2, 0, 0), 0, [0, 0]),
  (53, false, .putfield 21, 3, 152, (6, 3, 0, 0), 0, []),
  (56, false, .iconst 1, 1, 0, (0, 0, 0, 0), 0, []),
  (57, false, .ireturn, 1, 0, (0, 0, 0, 0), 0, [])]
noncomputable def xP_put (v1 v2 v3 : Int) (σ : zz_S) : zz_R := ((xP_placeOf v1 v2 σ).bind fun q1 => (if q1.1 < 40 then (if zz_b q1.2 25 1 q1.1 then (let s2 := zz_w q1.2 25 1 q1.1 v1; (if zz_b s2 26 1 q1.1 then (let s3 := zz_w s2 26 1 q1.1 v2; (if zz_b s3 27 1 q1.1 then (let s4 := zz_w s3 27 1 q1.1 v3; ((j_max (zz_h s4 6 1 3) (zz_r (q1.1 + 1)) s4).bind fun q5 => (let s6 := zz_w q5.2 6 1 3 q5.1; (some (1, s6))))) else none)) else none)) else none) else (some (0, q1.2))))
set_option maxRecDepth 100000 in
set_option maxHeartbeats 4000000 in
theorem ze_xP_put (v1 v2 v3 : Int) (σ : zz_S) : xP_put v1 v2 v3 σ = zz_ev (zz_CE [(84, zw_xP_placeOf), (168, zw_j_max)]) (zz_KE []) zk_xP_put 0 true 0 0 400 true (zz_sk zk_xP_put 0) [(0, 8, 1), (1, 0, v1), (2, 0, v2), (3, 0, v3)] [] σ := rfl
noncomputable def zw_xP_put : List Int → zz_S → zz_R := fun vs σ => match vs with
  | [a0, a1, a2, a3] => if a0 = 1 then xP_put a1 a2 a3 σ else none
  | _ => none
def zk_x_plan : List zz_E := [(0, false, .aload_n 0, 1, 0, (0, 0, 0, 0), 0, []),
  (1, false, .iload_n 1, 1, 0, (0, 0, 0, 0), 0, []),
  (2, false, .invokevirtual 100, 3, 385, (73, 2, 9, 0), 0, [0, 5]),
  (5, false, .ifnull 13, 3, 0, (18, 0, 0, 0), 0, []),
  (8, false, .iload_n 2, 1, 0, (0, 0, 0, 0), 0, []),
  (9, false, .iconst 1, 1, 0, (0, 0, 0, 0), 0, []),
  (10, false, .bipush 50, 2, 0, (0, 0, 0, 0), 0, []),
  (12, false, .invokestatic 91, 3, 228, (72, 3, 0, 0), 0, [0, 0, 0]),
  (15, false, .ifCond .ne 6, 3, 0, (21, 0, 0, 0), 0, []),
  (18, false, .bipush (-2), 2, 0, (0, 0, 0, 0), 0, []),
  (20, false, .ireturn, 1, 0, (0, 0, 0, 0), 0, []),
  (21, false, .iload_n 3, 1, 0, (0, 0, 0, 0), 0, []),
  (22, false, .iconst 0, 1, 0, (0, 0, 0, 0), 0, []),
  (23, false, .bipush 15, 2, 0, (0, 0, 0, 0), 0, []),
  (25, false, .invokestatic 91, 3, 228, (72, 3, 0, 0), 0, [0, 0, 0]),
  (28, false, .ifCond .ne 6, 3, 0, (34, 0, 0, 0), 0, []),
  (31, false, .bipush (-2), 2, 0, (0, 0, 0, 0), 0, []),
  (33, false, .ireturn, 1, 0, (0, 0, 0, 0), 0, []),
  (34, false, .aload_n 0, 1, 0, (0, 0, 0, 0), 0, []),
  (35, false, .getfield 41, 3, 168, (3, 5, 8, 1), 0, []),
  (38, false, .iload_n 1, 1, 0, (0, 0, 0, 0), 0, []),
  (39, false, .iload_n 2, 1, 0, (0, 0, 0, 0), 0, []),
  (40, false, .iload_n 3, 1, 0, (0, 0, 0, 0), 0, []),
  (41, false, .invokevirtual 168, 3, 437, (85, 4, 0, 0), 0, [0, 0, 0, 8]),
  (44, false, .ifCond .eq 13, 3, 0, (57, 0, 0, 0), 0, []),
  (47, false, .aload_n 0, 1, 0, (0, 0, 0, 0), 0, []),
  (48, false, .getfield 41, 3, 168, (3, 5, 8, 1), 0, []),
  (51, false, .getfield 171, 3, 153, (6, 3, 0, 0), 0, []),
  (54, false, .goto 5, 3, 0, (59, 0, 0, 0), 0, []),
  (57, false, .bipush (-4), 2, 0, (0, 0, 0, 0), 0, []),
  (59, false, .ireturn, 1, 0, (0, 0, 0, 0), 0, [])]
noncomputable def x_plan (v1 v2 v3 : Int) (σ : zz_S) : zz_R := ((x_taskAt v1 σ).bind fun q1 => (if q1.1 = 0 then (some ((-2), q1.2)) else ((x_isWithin v2 1 50 q1.2).bind fun q2 => (if q2.1 = 0 then (some ((-2), q2.2)) else ((x_isWithin v3 0 15 q2.2).bind fun q3 => (if q3.1 = 0 then (some ((-2), q3.2)) else ((xP_put v1 v2 v3 q3.2).bind fun q4 => (if q4.1 = 0 then (some ((-4), q4.2)) else (some ((zz_h q4.2 6 1 3), q4.2))))))))))
set_option maxRecDepth 100000 in
set_option maxHeartbeats 4000000 in
theorem ze_x_plan (v1 v2 v3 : Int) (σ : zz_S) : x_plan v1 v2 v3 σ = zz_ev (zz_CE [(72, zw_x_isWithin), (73, zw_x_taskAt), (85, zw_xP_put)]) (zz_KE []) zk_x_plan 0 false 0 0 400 true (zz_sk zk_x_plan 0) [(0, 5, 1), (1, 0, v1), (2, 0, v2), (3, 0, v3)] [] σ := rfl
noncomputable def zw_x_plan : List Int → zz_S → zz_R := fun vs σ => match vs with
  | [a0, a1, a2, a3] => if a0 = 1 then x_plan a1 a2 a3 σ else none
  | _ => none
def zk_x_clearPlan : List zz_E := [(0, false, .aload_n 0, 1, 0, (0, 0, 0, 0), 0, []),
  (1, false, .getfield 41, 3, 168, (3, 5, 8, 1), 0, []),
  (4, false, .getfield 171, 3, 153, (6, 3, 0, 0), 0, []),
  (7, false, .istore_n 1, 1, 0, (0, 0, 0, 0), 0, []),
  (8, false, .aload_n 0, 1, 0, (0, 0, 0, 0), 0, []),
  (9, false, .getfield 41, 3, 168, (3, 5, 8, 1), 0, []),
  (12, false, .iconst 0, 1, 0, (0, 0, 0, 0), 0, []),
  (13, false, .putfield 171, 3, 153, (6, 3, 0, 0), 0, []),
  (16, false, .iload_n 1, 1, 0, (0, 0, 0, 0), 0, []),
  (17, false, .ireturn, 1, 0, (0, 0, 0, 0), 0, [])]
noncomputable def x_clearPlan (σ : zz_S) : zz_R := (let s1 := zz_w σ 6 1 3 0; (some ((zz_h σ 6 1 3), s1)))
set_option maxRecDepth 100000 in
set_option maxHeartbeats 4000000 in
theorem ze_x_clearPlan (σ : zz_S) : x_clearPlan σ = zz_ev (zz_CE []) (zz_KE []) zk_x_clearPlan 0 false 0 0 400 true (zz_sk zk_x_clearPlan 0) [(0, 5, 1)] [] σ := rfl
noncomputable def zw_x_clearPlan : List Int → zz_S → zz_R := fun vs σ => match vs with
  | [a0] => if a0 = 1 then x_clearPlan σ else none
  | _ => none
def zk_j_min : List zz_E := [(0, false, .iload_n 0, 1, 0, (0, 0, 0, 0), 0, []),
  (1, false, .iload_n 1, 1, 0, (0, 0, 0, 0), 0, []),
  (2, false, .if_icmp .gt 7, 3, 0, (9, 0, 0, 0), 0, []),
  (5, false, .iload_n 0, 1, 0, (0, 0, 0, 0), 0, []),
  (6, false, .goto 4, 3, 0, (10, 0, 0, 0), 0, []),
  (9, false, .iload_n 1, 1, 0, (0, 0, 0, 0), 0, []),
  (10, false, .ireturn, 1, 0, (0, 0, 0, 0), 0, [])]
noncomputable def j_min (v0 v1 : Int) (σ : zz_S) : zz_R := (if v0 ≤ v1 then (some (v0, σ)) else (some (v1, σ)))
set_option maxRecDepth 100000 in
set_option maxHeartbeats 4000000 in
theorem ze_j_min (v0 v1 : Int) (σ : zz_S) : j_min v0 v1 σ = zz_ev (zz_CE []) (zz_KE []) zk_j_min 0 false 0 0 400 true (zz_sk zk_j_min 0) [(0, 0, v0), (1, 0, v1)] [] σ := rfl
noncomputable def zw_j_min : List Int → zz_S → zz_R := fun vs σ => match vs with
  | [a0, a1] => j_min a0 a1 σ
  | _ => none
def zk_x_firstEnding : List zz_E := [(0, false, .iconst 0, 1, 0, (0, 0, 0, 0), 0, []),
  (1, false, .istore_n 1, 1, 0, (0, 0, 0, 0), 0, []),
  (2, true, .iload_n 1, 1, 0, (0, 0, 0, 0), 0, []),
  (3, false, .aload_n 0, 1, 0, (0, 0, 0, 0), 0, []),
  (4, false, .getfield 69, 3, 176, (3, 13, 0, 0), 0, []),
  (7, false, .if_icmp .ge 33, 3, 0, (40, 0, 0, 0), 0, []),
  (10, false, .aload_n 0, 1, 0, (0, 0, 0, 0), 0, []),
  (11, false, .getfield 21, 3, 165, (3, 2, 15, 1), 0, []),
  (14, false, .iload_n 1, 1, 0, (0, 0, 0, 0), 0, []),
  (15, false, .aaload, 1, 0, (13, 0, 12, 0), 0, []),
  (16, false, .astore_n 2, 1, 0, (0, 0, 0, 0), 0, []),
  (17, false, .aload_n 2, 1, 0, (0, 0, 0, 0), 0, []),
  (18, false, .ifnull 16, 3, 0, (34, 0, 0, 0), 0, []),
  (21, false, .aload_n 2, 1, 0, (0, 0, 0, 0), 0, []),
  (22, false, .getfield 200, 3, 644, (10, 5, 0, 0), 0, []),
  (25, false, .aload_n 0, 1, 0, (0, 0, 0, 0), 0, []),
  (26, false, .getfield 78, 3, 179, (3, 16, 0, 0), 0, []),
  (29, false, .if_icmp .ne 5, 3, 0, (34, 0, 0, 0), 0, []),
  (32, false, .aload_n 2, 1, 0, (0, 0, 0, 0), 0, []),
  (33, false, .areturn, 1, 0, (0, 0, 0, 0), 0, []),
  (34, false, .iinc 1 1, 3, 0, (0, 0, 0, 0), 0, []),
  (37, false, .goto (-35), 3, 0, (2, 0, 0, 0), 0, []),
  (40, false, .aconst_null, 1, 0, (0, 0, 0, 0), 0, []),
  (41, false, .areturn, 1, 0, (0, 0, 0, 0), 0, [])]
noncomputable def x_firstEnding_2 : Nat → Int → zz_S → zz_R
  | 0, _, _ => none
  | n + 1, v1, σ => (if v1 < (zz_h σ 3 1 13) then (if zz_b σ 13 1 v1 then (if (zz_h σ 13 1 v1) = 0 then (x_firstEnding_2 n (zz_r (v1 + 1)) σ) else (if (zz_h σ 13 1 v1) = 0 then none else (if (zz_h σ 10 (zz_h σ 13 1 v1) 5) = (zz_h σ 3 1 16) then (some ((zz_h σ 13 1 v1), σ)) else (x_firstEnding_2 n (zz_r (v1 + 1)) σ)))) else none) else (some (0, σ)))
set_option maxRecDepth 100000 in
set_option maxHeartbeats 4000000 in
theorem ze_x_firstEnding_2 (n : Nat) (v1 : Int) (σ : zz_S) : x_firstEnding_2 (n + 1) v1 σ = zz_ev (zz_CE []) (zz_KE [(2, [(0, 5, true), (1, 0, false)], fun vs σ => match vs with | [b0] => x_firstEnding_2 n b0 σ | _ => none)]) zk_x_firstEnding 12 false 0 0 400 true (zz_sk zk_x_firstEnding 2) [(0, 5, 1), (1, 0, v1)] [] σ := rfl
noncomputable def x_firstEnding (σ : zz_S) : zz_R := (x_firstEnding_2 zz_fu 0 σ)
set_option maxRecDepth 100000 in
set_option maxHeartbeats 4000000 in
theorem ze_x_firstEnding (σ : zz_S) : x_firstEnding σ = zz_ev (zz_CE []) (zz_KE [(2, [(0, 5, true), (1, 0, false)], fun vs σ => match vs with | [b0] => x_firstEnding_2 zz_fu b0 σ | _ => none)]) zk_x_firstEnding 12 false 0 0 400 true (zz_sk zk_x_firstEnding 0) [(0, 5, 1)] [] σ := rfl
noncomputable def zw_x_firstEnding : List Int → zz_S → zz_R := fun vs σ => match vs with
  | [a0] => if a0 = 1 then x_firstEnding σ else none
  | _ => none
def zk_xP_kindOf : List zz_E := [(0, false, .aload_n 0, 1, 0, (0, 0, 0, 0), 0, []),
  (1, false, .iload_n 1, 1, 0, (0, 0, 0, 0), 0, []),
  (2, false, .iload_n 2, 1, 0, (0, 0, 0, 0), 0, []),
  (3, false, .invokevirtual 25, 3, 441, (84, 3, 0, 0), 0, [0, 0, 8]),
  (6, false, .istore_n 3, 1, 0, (0, 0, 0, 0), 0, []),
  (7, false, .iload_n 3, 1, 0, (0, 0, 0, 0), 0, []),
  (8, false, .aload_n 0, 1, 0, (0, 0, 0, 0), 0, []),
  (9, false, .getfield 21, 3, 152, (6, 3, 0, 0), 0, []),
  (12, false, .if_icmp .ge 12, 3, 0, (24, 0, 0, 0), 0, []),
  (15, false, .aload_n 0, 1, 0, (0, 0, 0, 0), 0, []),
  (16, false, .getfield 18, 3, 151, (6, 2, 29, 1), 0, []),
  (19, false, .iload_n 3, 1, 0, (0, 0, 0, 0), 0, []),
  (20, false, .iaload, 1, 0, (27, 0, 0, 0), 0, []),
  (21, false, .goto 4, 3, 0, (25, 0, 0, 0), 0, []),
  (24, false, .iconst (-1), 1, 0, (0, 0, 0, 0), 0, []),
  (25, false, .ireturn, 1, 0, (0, 0, 0, 0), 0, [])]
noncomputable def xP_kindOf (v1 v2 : Int) (σ : zz_S) : zz_R := ((xP_placeOf v1 v2 σ).bind fun q1 => (if q1.1 < (zz_h q1.2 6 1 3) then (if zz_b q1.2 27 1 q1.1 then (some ((zz_h q1.2 27 1 q1.1), q1.2)) else none) else (some ((-1), q1.2))))
set_option maxRecDepth 100000 in
set_option maxHeartbeats 4000000 in
theorem ze_xP_kindOf (v1 v2 : Int) (σ : zz_S) : xP_kindOf v1 v2 σ = zz_ev (zz_CE [(84, zw_xP_placeOf)]) (zz_KE []) zk_xP_kindOf 0 false 0 0 400 true (zz_sk zk_xP_kindOf 0) [(0, 8, 1), (1, 0, v1), (2, 0, v2)] [] σ := rfl
noncomputable def zw_xP_kindOf : List Int → zz_S → zz_R := fun vs σ => match vs with
  | [a0, a1, a2] => if a0 = 1 then xP_kindOf a1 a2 σ else none
  | _ => none
def zk_xT_isActive : List zz_E := [(0, false, .aload_n 0, 1, 0, (0, 0, 0, 0), 0, []),
  (1, false, .getfield 39, 3, 320, (7, 10, 0, 0), 0, []),
  (4, false, .ifCond .ne 7, 3, 0, (11, 0, 0, 0), 0, []),
  (7, false, .iconst 1, 1, 0, (0, 0, 0, 0), 0, []),
  (8, false, .goto 4, 3, 0, (12, 0, 0, 0), 0, []),
  (11, false, .iconst 0, 1, 0, (0, 0, 0, 0), 0, []),
  (12, false, .ireturn, 1, 0, (0, 0, 0, 0), 0, [])]
noncomputable def xT_isActive (v0 : Int) (σ : zz_S) : zz_R := (if v0 = 0 then none else (if (zz_h σ 7 v0 10) = 0 then (some (1, σ)) else (some (0, σ))))
set_option maxRecDepth 100000 in
set_option maxHeartbeats 4000000 in
theorem ze_xT_isActive (v0 : Int) (σ : zz_S) : xT_isActive v0 σ = zz_ev (zz_CE []) (zz_KE []) zk_xT_isActive 0 true 0 0 400 true (zz_sk zk_xT_isActive 0) [(0, 9, v0)] [] σ := rfl
noncomputable def zw_xT_isActive : List Int → zz_S → zz_R := fun vs σ => match vs with
  | [a0] => xT_isActive a0 σ
  | _ => none
def zk_xD_removeAll : List zz_E := [(0, false, .iconst 0, 1, 0, (0, 0, 0, 0), 0, []),
  (1, false, .istore_n 2, 1, 0, (0, 0, 0, 0), 0, []),
  (2, false, .iconst 0, 1, 0, (0, 0, 0, 0), 0, []),
  (3, false, .istore_n 3, 1, 0, (0, 0, 0, 0), 0, []),
  (4, true, .iload_n 3, 1, 0, (0, 0, 0, 0), 0, []),
  (5, false, .aload_n 0, 1, 0, (0, 0, 0, 0), 0, []),
  (6, false, .getfield 25, 3, 107, (4, 3, 0, 0), 0, []),
  (9, false, .if_icmp .ge 58, 3, 0, (67, 0, 0, 0), 0, []),
  (12, false, .aload_n 0, 1, 0, (0, 0, 0, 0), 0, []),
  (13, false, .getfield 11, 3, 101, (4, 0, 21, 1), 0, []),
  (16, false, .iload_n 3, 1, 0, (0, 0, 0, 0), 0, []),
  (17, false, .aaload, 1, 0, (19, 0, 9, 0), 0, []),
  (18, false, .aload_n 1, 1, 0, (0, 0, 0, 0), 0, []),
  (19, false, .if_acmp .eq 42, 3, 0, (61, 0, 0, 0), 0, []),
  (22, false, .aload_n 0, 1, 0, (0, 0, 0, 0), 0, []),
  (23, false, .getfield 11, 3, 101, (4, 0, 21, 1), 0, []),
  (26, false, .iload_n 2, 1, 0, (0, 0, 0, 0), 0, []),
  (27, false, .aload_n 0, 1, 0, (0, 0, 0, 0), 0, []),
  (28, false, .getfield 11, 3, 101, (4, 0, 21, 1), 0, []),
  (31, false, .iload_n 3, 1, 0, (0, 0, 0, 0), 0, []),
  (32, false, .aaload, 1, 0, (19, 0, 9, 0), 0, []),
  (33, false, .aastore, 1, 0, (19, 0, 9, 0), 0, []),
  (34, false, .aload_n 0, 1, 0, (0, 0, 0, 0), 0, []),
  (35, false, .getfield 17, 3, 103, (4, 1, 22, 1), 0, []),
  (38, false, .iload_n 2, 1, 0, (0, 0, 0, 0), 0, []),
  (39, false, .aload_n 0, 1, 0, (0, 0, 0, 0), 0, []),
  (40, false, .getfield 17, 3, 103, (4, 1, 22, 1), 0, []),
  (43, false, .iload_n 3, 1, 0, (0, 0, 0, 0), 0, []),
  (44, false, .iaload, 1, 0, (20, 0, 0, 0), 0, []),
  (45, false, .iastore, 1, 0, (20, 0, 0, 0), 0, []),
  (46, false, .aload_n 0, 1, 0, (0, 0, 0, 0), 0, []),
  (47, false, .getfield 21, 3, 105, (4, 2, 23, 1), 0, []),
  (50, false, .iload_n 2, 1, 0, (0, 0, 0, 0), 0, []),
  (51, false, .aload_n 0, 1, 0, (0, 0, 0, 0), 0, []),
  (52, false, .getfield 21, 3, 105, (4, 2, 23, 1), 0, []),
  (55, false, .iload_n 3, 1, 0, (0, 0, 0, 0), 0, []),
  (56, false, .baload, 1, 0, (21, 0, 0, 0), 0, []),
  (57, false, .bastore, 1, 0, (21, 0, 0, 0), 0, []),
  (58, false, .iinc 2 1, 3, 0, (0, 0, 0, 0), 0, []),
  (61, false, .iinc 3 1, 3, 0, (0, 0, 0, 0), 0, []),
  (64, false, .goto (-60), 3, 0, (4, 0, 0, 0), 0, []),
  (67, false, .aload_n 0, 1, 0, (0, 0, 0, 0), 0, []),
  (68, false, .iload_n 2, 1, 0, (0, 0, 0, 0), 0, []),
  (69, false, .putfield 25, 3, 107, (4, 3, 0, 0), 0, []),
  (72, false, .aload_n 1, 1, 0, (0, 0, 0, 0), 0, []),
  (73, false, .iconst 0, 1, 0, (0, 0, 0, 0), 0, []),
  (74, false, .putfield 29, 3, 334, (7, 16, 0, 0), 0, []),
  (77, false, .return_, 1, 0, (0, 0, 0, 0), 0, [])]
noncomputable def xD_removeAll_4 : Nat → Int → Int → Int → zz_S → zz_R
  | 0, _, _, _, _ => none
  | n + 1, v1, v2, v3, σ => (if v3 < (zz_h σ 4 1 3) then (if zz_b σ 19 1 v3 then (if (zz_h σ 19 1 v3) = v1 then (xD_removeAll_4 n v1 v2 (zz_r (v3 + 1)) σ) else (if zz_b σ 19 1 v3 then (if zz_b σ 19 1 v2 then (if (zz_h σ 19 1 v3) = 0 then none else (let s1 := zz_w σ 19 1 v2 (zz_h σ 19 1 v3); (if zz_b s1 20 1 v3 then (if zz_b s1 20 1 v2 then (let s2 := zz_w s1 20 1 v2 (zz_h s1 20 1 v3); (if zz_b s2 21 1 v3 then (if zz_b s2 21 1 v2 then (if zz_o (zz_h s2 21 1 v3) then (let s3 := zz_w s2 21 1 v2 (zz_h s2 21 1 v3); (xD_removeAll_4 n v1 (zz_r (v2 + 1)) (zz_r (v3 + 1)) s3)) else none) else none) else none)) else none) else none))) else none) else none)) else none) else (let s4 := zz_w σ 4 1 3 v2; (if v1 = 0 then none else (let s5 := zz_w s4 7 v1 16 0; (some (0, s5))))))
set_option maxRecDepth 100000 in
set_option maxHeartbeats 4000000 in
theorem ze_xD_removeAll_4 (n : Nat) (v1 v2 v3 : Int) (σ : zz_S) : xD_removeAll_4 (n + 1) v1 v2 v3 σ = zz_ev (zz_CE []) (zz_KE [(4, [(0, 6, true), (1, 9, false), (2, 0, false), (3, 0, false)], fun vs σ => match vs with | [b0, b1, b2] => xD_removeAll_4 n b0 b1 b2 σ | _ => none)]) zk_xD_removeAll 999 false 0 0 400 true (zz_sk zk_xD_removeAll 4) [(0, 6, 1), (1, 9, v1), (2, 0, v2), (3, 0, v3)] [] σ := rfl
noncomputable def xD_removeAll (v1 : Int) (σ : zz_S) : zz_R := (xD_removeAll_4 zz_fu v1 0 0 σ)
set_option maxRecDepth 100000 in
set_option maxHeartbeats 4000000 in
theorem ze_xD_removeAll (v1 : Int) (σ : zz_S) : xD_removeAll v1 σ = zz_ev (zz_CE []) (zz_KE [(4, [(0, 6, true), (1, 9, false), (2, 0, false), (3, 0, false)], fun vs σ => match vs with | [b0, b1, b2] => xD_removeAll_4 zz_fu b0 b1 b2 σ | _ => none)]) zk_xD_removeAll 999 false 0 0 400 true (zz_sk zk_xD_removeAll 0) [(0, 6, 1), (1, 9, v1)] [] σ := rfl
noncomputable def zw_xD_removeAll : List Int → zz_S → zz_R := fun vs σ => match vs with
  | [a0, a1] => if a0 = 1 then xD_removeAll a1 σ else none
  | _ => none
def zk_x_leave : List zz_E := [(0, false, .aload_n 1, 1, 0, (0, 0, 0, 0), 0, []),
  (1, false, .iload_n 2, 1, 0, (0, 0, 0, 0), 0, []),
  (2, false, .putfield 319, 3, 321, (7, 10, 0, 0), 0, []),
  (5, false, .aload_n 0, 1, 0, (0, 0, 0, 0), 0, []),
  (6, false, .getfield 27, 3, 166, (3, 3, 6, 1), 0, []),
  (9, false, .aload_n 1, 1, 0, (0, 0, 0, 0), 0, []),
  (10, false, .invokevirtual 383, 3, 491, (78, 2, 999, 0), 0, [9, 6]),
  (13, false, .return_, 1, 0, (0, 0, 0, 0), 0, [])]
noncomputable def x_leave (v1 v2 : Int) (σ : zz_S) : zz_R := (if v1 = 0 then none else (let s1 := zz_w σ 7 v1 10 v2; ((xD_removeAll v1 s1).bind fun q2 => (some (0, q2.2)))))
set_option maxRecDepth 100000 in
set_option maxHeartbeats 4000000 in
theorem ze_x_leave (v1 v2 : Int) (σ : zz_S) : x_leave v1 v2 σ = zz_ev (zz_CE [(78, zw_xD_removeAll)]) (zz_KE []) zk_x_leave 999 false 0 0 400 true (zz_sk zk_x_leave 0) [(0, 5, 1), (1, 9, v1), (2, 0, v2)] [] σ := rfl
noncomputable def zw_x_leave : List Int → zz_S → zz_R := fun vs σ => match vs with
  | [a0, a1, a2] => if a0 = 1 then x_leave a1 a2 σ else none
  | _ => none
def zk_xT_fireFor : List zz_E := [(0, false, .aload_n 0, 1, 0, (0, 0, 0, 0), 0, []),
  (1, false, .getfield 60, 3, 338, (7, 18, 0, 0), 0, []),
  (4, false, .iload_n 1, 1, 0, (0, 0, 0, 0), 0, []),
  (5, false, .if_icmp .ne 4, 3, 0, (9, 0, 0, 0), 0, []),
  (8, false, .return_, 1, 0, (0, 0, 0, 0), 0, []),
  (9, false, .aload_n 0, 1, 0, (0, 0, 0, 0), 0, []),
  (10, false, .aload_n 0, 1, 0, (0, 0, 0, 0), 0, []),
  (11, false, .getfield 60, 3, 338, (7, 18, 0, 0), 0, []),
  (14, false, .putfield 63, 3, 339, (7, 19, 0, 0), 0, []),
  (17, false, .aload_n 0, 1, 0, (0, 0, 0, 0), 0, []),
  (18, false, .iload_n 1, 1, 0, (0, 0, 0, 0), 0, []),
  (19, false, .putfield 60, 3, 338, (7, 18, 0, 0), 0, []),
  (22, false, .return_, 1, 0, (0, 0, 0, 0), 0, [])]
noncomputable def xT_fireFor (v0 v1 : Int) (σ : zz_S) : zz_R := (if v0 = 0 then none else (if (zz_h σ 7 v0 18) = v1 then (some (0, σ)) else (if v0 = 0 then none else (if v0 = 0 then none else (let s1 := zz_w σ 7 v0 19 (zz_h σ 7 v0 18); (if v0 = 0 then none else (let s2 := zz_w s1 7 v0 18 v1; (some (0, s2)))))))))
set_option maxRecDepth 100000 in
set_option maxHeartbeats 4000000 in
theorem ze_xT_fireFor (v0 v1 : Int) (σ : zz_S) : xT_fireFor v0 v1 σ = zz_ev (zz_CE []) (zz_KE []) zk_xT_fireFor 999 false 0 0 400 true (zz_sk zk_xT_fireFor 0) [(0, 9, v0), (1, 0, v1)] [] σ := rfl
noncomputable def zw_xT_fireFor : List Int → zz_S → zz_R := fun vs σ => match vs with
  | [a0, a1] => xT_fireFor a0 a1 σ
  | _ => none
def zk_x_act : List zz_E := [(0, false, .aload_n 1, 1, 0, (0, 0, 0, 0), 0, []),
  (1, false, .getfield 203, 3, 636, (10, 1, 9, 0), 0, []),
  (4, false, .getfield 136, 3, 317, (7, 8, 0, 0), 0, []),
  (7, false, .istore_n 2, 1, 0, (0, 0, 0, 0), 0, []),
  (8, false, .aload_n 1, 1, 0, (0, 0, 0, 0), 0, []),
  (9, false, .getfield 203, 3, 636, (10, 1, 9, 0), 0, []),
  (12, false, .getfield 139, 3, 319, (7, 9, 0, 0), 0, []),
  (15, false, .bipush 7, 2, 0, (0, 0, 0, 0), 0, []),
  (17, false, .iand, 1, 0, (0, 0, 0, 0), 0, []),
  (18, false, .istore_n 3, 1, 0, (0, 0, 0, 0), 0, []),
  (19, false, .aload_n 0, 1, 0, (0, 0, 0, 0), 0, []),
  (20, false, .iload_n 2, 1, 0, (0, 0, 0, 0), 0, []),
  (21, false, .invokevirtual 100, 3, 385, (73, 2, 9, 0), 0, [0, 5]),
  (24, false, .astore 4, 2, 0, (0, 0, 0, 0), 0, []),
  (26, false, .aload_n 1, 1, 0, (0, 0, 0, 0), 0, []),
  (27, false, .getfield 203, 3, 636, (10, 1, 9, 0), 0, []),
  (30, false, .getfield 133, 3, 315, (7, 7, 0, 0), 0, []),
  (33, false, .tableswitch 158 1 6 #[39, 51, 72, 92, 104, 129], 39, 0, (191, 0, 0, 0), 1, [72, 84, 105, 125, 137, 162]),
  (72, false, .aload_n 0, 1, 0, (0, 0, 0, 0), 0, []),
  (73, false, .getfield 56, 3, 172, (3, 9, 19, 1), 0, []),
  (76, false, .iload_n 3, 1, 0, (0, 0, 0, 0), 0, []),
  (77, false, .dup2, 1, 0, (0, 0, 0, 0), 0, []),
  (78, false, .iaload, 1, 0, (17, 0, 0, 0), 0, []),
  (79, false, .iload_n 2, 1, 0, (0, 0, 0, 0), 0, []),
  (80, false, .iadd, 1, 0, (0, 0, 0, 0), 0, []),
  (81, false, .iastore, 1, 0, (17, 0, 0, 0), 0, []),
  (82, false, .iconst (-1), 1, 0, (0, 0, 0, 0), 0, []),
  (83, false, .ireturn, 1, 0, (0, 0, 0, 0), 0, []),
  (84, false, .aload_n 0, 1, 0, (0, 0, 0, 0), 0, []),
  (85, false, .getfield 56, 3, 172, (3, 9, 19, 1), 0, []),
  (88, false, .iload_n 3, 1, 0, (0, 0, 0, 0), 0, []),
  (89, false, .iload_n 2, 1, 0, (0, 0, 0, 0), 0, []),
  (90, false, .aload_n 0, 1, 0, (0, 0, 0, 0), 0, []),
  (91, false, .getfield 56, 3, 172, (3, 9, 19, 1), 0, []),
  (94, false, .iload_n 3, 1, 0, (0, 0, 0, 0), 0, []),
  (95, false, .iaload, 1, 0, (17, 0, 0, 0), 0, []),
  (96, false, .imul, 1, 0, (0, 0, 0, 0), 0, []),
  (97, false, .aload_n 1, 1, 0, (0, 0, 0, 0), 0, []),
  (98, false, .getfield 237, 3, 634, (10, 0, 0, 0), 0, []),
  (101, false, .iadd, 1, 0, (0, 0, 0, 0), 0, []),
  (102, false, .iastore, 1, 0, (17, 0, 0, 0), 0, []),
  (103, false, .iconst (-1), 1, 0, (0, 0, 0, 0), 0, []),
  (104, false, .ireturn, 1, 0, (0, 0, 0, 0), 0, []),
  (105, false, .aload_n 0, 1, 0, (0, 0, 0, 0), 0, []),
  (106, false, .getfield 56, 3, 172, (3, 9, 19, 1), 0, []),
  (109, false, .iload_n 3, 1, 0, (0, 0, 0, 0), 0, []),
  (110, false, .iaload, 1, 0, (17, 0, 0, 0), 0, []),
  (111, false, .iconst 1, 1, 0, (0, 0, 0, 0), 0, []),
  (112, false, .iand, 1, 0, (0, 0, 0, 0), 0, []),
  (113, false, .ifCond .eq 10, 3, 0, (123, 0, 0, 0), 0, []),
  (116, false, .iload_n 2, 1, 0, (0, 0, 0, 0), 0, []),
  (117, false, .bipush 15, 2, 0, (0, 0, 0, 0), 0, []),
  (119, false, .iand, 1, 0, (0, 0, 0, 0), 0, []),
  (120, false, .goto 4, 3, 0, (124, 0, 0, 0), 0, []),
  (123, false, .iconst (-1), 1, 0, (0, 0, 0, 0), 0, []),
  (124, false, .ireturn, 1, 0, (0, 0, 0, 0), 0, []),
  (125, false, .aload_n 0, 1, 0, (0, 0, 0, 0), 0, []),
  (126, false, .getfield 56, 3, 172, (3, 9, 19, 1), 0, []),
  (129, false, .iload_n 3, 1, 0, (0, 0, 0, 0), 0, []),
  (130, false, .aload_n 0, 1, 0, (0, 0, 0, 0), 0, []),
  (131, false, .getfield 78, 3, 179, (3, 16, 0, 0), 0, []),
  (134, false, .iastore, 1, 0, (17, 0, 0, 0), 0, []),
  (135, false, .iconst (-1), 1, 0, (0, 0, 0, 0), 0, []),
  (136, false, .ireturn, 1, 0, (0, 0, 0, 0), 0, []),
  (137, false, .aload 4, 2, 0, (0, 0, 0, 0), 0, []),
  (139, false, .ifnull 11, 3, 0, (150, 0, 0, 0), 0, []),
  (142, false, .aload 4, 2, 0, (0, 0, 0, 0), 0, []),
  (144, false, .invokevirtual 226, 3, 483, (88, 1, 0, 0), 0, [9]),
  (147, false, .ifCond .ne 6, 3, 0, (153, 0, 0, 0), 0, []),
  (150, false, .bipush 14, 2, 0, (0, 0, 0, 0), 0, []),
  (152, false, .ireturn, 1, 0, (0, 0, 0, 0), 0, []),
  (153, false, .aload_n 0, 1, 0, (0, 0, 0, 0), 0, []),
  (154, false, .aload 4, 2, 0, (0, 0, 0, 0), 0, []),
  (156, false, .iconst 3, 1, 0, (0, 0, 0, 0), 0, []),
  (157, false, .invokevirtual 238, 3, 487, (52, 3, 999, 0), 0, [0, 9, 5]),
  (160, false, .iconst (-1), 1, 0, (0, 0, 0, 0), 0, []),
  (161, false, .ireturn, 1, 0, (0, 0, 0, 0), 0, []),
  (162, false, .aload 4, 2, 0, (0, 0, 0, 0), 0, []),
  (164, false, .ifnull 11, 3, 0, (175, 0, 0, 0), 0, []),
  (167, false, .aload 4, 2, 0, (0, 0, 0, 0), 0, []),
  (169, false, .invokevirtual 226, 3, 483, (88, 1, 0, 0), 0, [9]),
  (172, false, .ifCond .ne 6, 3, 0, (178, 0, 0, 0), 0, []),
  (175, false, .bipush 14, 2, 0, (0, 0, 0, 0), 0, []),
  (177, false, .ireturn, 1, 0, (0, 0, 0, 0), 0, []),
  (178, false, .aload 4, 2, 0, (0, 0, 0, 0), 0, []),
  (180, false, .aload_n 0, 1, 0, (0, 0, 0, 0), 0, []),
  (181, false, .getfield 78, 3, 179, (3, 16, 0, 0), 0, []),
  (184, false, .iconst 1, 1, 0, (0, 0, 0, 0), 0, []),
  (185, false, .iadd, 1, 0, (0, 0, 0, 0), 0, []),
  (186, false, .invokevirtual 242, 3, 495, (89, 2, 999, 0), 0, [0, 9]),
  (189, false, .iconst (-1), 1, 0, (0, 0, 0, 0), 0, []),
  (190, false, .ireturn, 1, 0, (0, 0, 0, 0), 0, []),
  (191, false, .iconst (-1), 1, 0, (0, 0, 0, 0), 0, []),
  (192, false, .ireturn, 1, 0, (0, 0, 0, 0), 0, [])]
noncomputable def x_act (v1 : Int) (σ : zz_S) : zz_R := (if v1 = 0 then none else (if (zz_h σ 10 v1 1) = 0 then none else (if v1 = 0 then none else (if (zz_h σ 10 v1 1) = 0 then none else ((x_taskAt (zz_h σ 7 (zz_h σ 10 v1 1) 8) σ).bind fun q1 => (if v1 = 0 then none else (if (zz_h q1.2 10 v1 1) = 0 then none else (if (zz_h q1.2 7 (zz_h q1.2 10 v1 1) 7) = 1 then (if zz_b q1.2 17 1 (zz_and (zz_h σ 7 (zz_h σ 10 v1 1) 9) 7) then (if zz_b q1.2 17 1 (zz_and (zz_h σ 7 (zz_h σ 10 v1 1) 9) 7) then (let s8 := zz_w q1.2 17 1 (zz_and (zz_h σ 7 (zz_h σ 10 v1 1) 9) 7) (zz_r ((zz_h q1.2 17 1 (zz_and (zz_h σ 7 (zz_h σ 10 v1 1) 9) 7)) + (zz_h σ 7 (zz_h σ 10 v1 1) 8))); (some ((-1), s8))) else none) else none) else (if (zz_h q1.2 7 (zz_h q1.2 10 v1 1) 7) = 2 then (if zz_b q1.2 17 1 (zz_and (zz_h σ 7 (zz_h σ 10 v1 1) 9) 7) then (if v1 = 0 then none else (if zz_b q1.2 17 1 (zz_and (zz_h σ 7 (zz_h σ 10 v1 1) 9) 7) then (let s7 := zz_w q1.2 17 1 (zz_and (zz_h σ 7 (zz_h σ 10 v1 1) 9) 7) (zz_r ((zz_r ((zz_h σ 7 (zz_h σ 10 v1 1) 8) * (zz_h q1.2 17 1 (zz_and (zz_h σ 7 (zz_h σ 10 v1 1) 9) 7)))) + (zz_h q1.2 10 v1 0))); (some ((-1), s7))) else none)) else none) else (if (zz_h q1.2 7 (zz_h q1.2 10 v1 1) 7) = 3 then (if zz_b q1.2 17 1 (zz_and (zz_h σ 7 (zz_h σ 10 v1 1) 9) 7) then (if (zz_and (zz_h q1.2 17 1 (zz_and (zz_h σ 7 (zz_h σ 10 v1 1) 9) 7)) 1) = 0 then (some ((-1), q1.2)) else (some ((zz_and (zz_h σ 7 (zz_h σ 10 v1 1) 8) 15), q1.2))) else none) else (if (zz_h q1.2 7 (zz_h q1.2 10 v1 1) 7) = 4 then (if zz_b q1.2 17 1 (zz_and (zz_h σ 7 (zz_h σ 10 v1 1) 9) 7) then (let s6 := zz_w q1.2 17 1 (zz_and (zz_h σ 7 (zz_h σ 10 v1 1) 9) 7) (zz_h q1.2 3 1 16); (some ((-1), s6))) else none) else (if (zz_h q1.2 7 (zz_h q1.2 10 v1 1) 7) = 5 then (if q1.1 = 0 then (some (14, q1.2)) else (if q1.1 = 0 then none else ((xT_isActive q1.1 q1.2).bind fun q4 => (if q4.1 = 0 then (some (14, q4.2)) else ((x_leave q1.1 3 q4.2).bind fun q5 => (some ((-1), q5.2))))))) else (if (zz_h q1.2 7 (zz_h q1.2 10 v1 1) 7) = 6 then (if q1.1 = 0 then (some (14, q1.2)) else (if q1.1 = 0 then none else ((xT_isActive q1.1 q1.2).bind fun q2 => (if q2.1 = 0 then (some (14, q2.2)) else (if q1.1 = 0 then none else ((xT_fireFor q1.1 (zz_r ((zz_h q2.2 3 1 16) + 1)) q2.2).bind fun q3 => (some ((-1), q3.2)))))))) else (some ((-1), q1.2)))))))))))))))
set_option maxRecDepth 100000 in
set_option maxHeartbeats 4000000 in
theorem ze_x_act (v1 : Int) (σ : zz_S) : x_act v1 σ = zz_ev (zz_CE [(52, zw_x_leave), (73, zw_x_taskAt), (88, zw_xT_isActive), (89, zw_xT_fireFor)]) (zz_KE []) zk_x_act 0 false 0 0 400 true (zz_sk zk_x_act 0) [(0, 5, 1), (1, 12, v1)] [] σ := rfl
noncomputable def zw_x_act : List Int → zz_S → zz_R := fun vs σ => match vs with
  | [a0, a1] => if a0 = 1 then x_act a1 σ else none
  | _ => none
def zk_x_layDown : List zz_E := [(0, false, .iconst 0, 1, 0, (0, 0, 0, 0), 0, []),
  (1, false, .istore_n 3, 1, 0, (0, 0, 0, 0), 0, []),
  (2, false, .iconst 0, 1, 0, (0, 0, 0, 0), 0, []),
  (3, false, .istore 4, 2, 0, (0, 0, 0, 0), 0, []),
  (5, true, .iload 4, 2, 0, (0, 0, 0, 0), 0, []),
  (7, false, .aload_n 0, 1, 0, (0, 0, 0, 0), 0, []),
  (8, false, .getfield 69, 3, 176, (3, 13, 0, 0), 0, []),
  (11, false, .if_icmp .ge 36, 3, 0, (47, 0, 0, 0), 0, []),
  (14, false, .aload_n 0, 1, 0, (0, 0, 0, 0), 0, []),
  (15, false, .getfield 21, 3, 165, (3, 2, 15, 1), 0, []),
  (18, false, .iload 4, 2, 0, (0, 0, 0, 0), 0, []),
  (20, false, .aaload, 1, 0, (13, 0, 12, 0), 0, []),
  (21, false, .aload_n 1, 1, 0, (0, 0, 0, 0), 0, []),
  (22, false, .if_acmp .eq 19, 3, 0, (41, 0, 0, 0), 0, []),
  (25, false, .aload_n 0, 1, 0, (0, 0, 0, 0), 0, []),
  (26, false, .getfield 21, 3, 165, (3, 2, 15, 1), 0, []),
  (29, false, .iload_n 3, 1, 0, (0, 0, 0, 0), 0, []),
  (30, false, .aload_n 0, 1, 0, (0, 0, 0, 0), 0, []),
  (31, false, .getfield 21, 3, 165, (3, 2, 15, 1), 0, []),
  (34, false, .iload 4, 2, 0, (0, 0, 0, 0), 0, []),
  (36, false, .aaload, 1, 0, (13, 0, 12, 0), 0, []),
  (37, false, .aastore, 1, 0, (13, 0, 12, 0), 0, []),
  (38, false, .iinc 3 1, 3, 0, (0, 0, 0, 0), 0, []),
  (41, false, .iinc 4 1, 3, 0, (0, 0, 0, 0), 0, []),
  (44, false, .goto (-39), 3, 0, (5, 0, 0, 0), 0, []),
  (47, false, .aload_n 0, 1, 0, (0, 0, 0, 0), 0, []),
  (48, false, .iload_n 3, 1, 0, (0, 0, 0, 0), 0, []),
  (49, false, .putfield 69, 3, 176, (3, 13, 0, 0), 0, []),
  (52, false, .aload_n 0, 1, 0, (0, 0, 0, 0), 0, []),
  (53, false, .getfield 52, 3, 171, (3, 8, 18, 1), 0, []),
  (56, false, .aload_n 1, 1, 0, (0, 0, 0, 0), 0, []),
  (57, false, .getfield 261, 3, 646, (10, 6, 0, 0), 0, []),
  (60, false, .iconst 0, 1, 0, (0, 0, 0, 0), 0, []),
  (61, false, .bastore, 1, 0, (16, 0, 0, 0), 0, []),
  (62, false, .aload_n 1, 1, 0, (0, 0, 0, 0), 0, []),
  (63, false, .getfield 203, 3, 636, (10, 1, 9, 0), 0, []),
  (66, false, .dup, 1, 0, (0, 0, 0, 0), 0, []),
  (67, false, .getfield 264, 3, 332, (7, 15, 0, 0), 0, []),
  (70, false, .iconst 1, 1, 0, (0, 0, 0, 0), 0, []),
  (71, false, .isub, 1, 0, (0, 0, 0, 0), 0, []),
  (72, false, .putfield 264, 3, 332, (7, 15, 0, 0), 0, []),
  (75, false, .aload_n 1, 1, 0, (0, 0, 0, 0), 0, []),
  (76, false, .aload_n 0, 1, 0, (0, 0, 0, 0), 0, []),
  (77, false, .getfield 78, 3, 179, (3, 16, 0, 0), 0, []),
  (80, false, .putfield 267, 3, 650, (10, 8, 0, 0), 0, []),
  (83, false, .aload_n 1, 1, 0, (0, 0, 0, 0), 0, []),
  (84, false, .iload_n 2, 1, 0, (0, 0, 0, 0), 0, []),
  (85, false, .putfield 270, 3, 652, (10, 9, 0, 0), 0, []),
  (88, false, .return_, 1, 0, (0, 0, 0, 0), 0, [])]
noncomputable def x_layDown_5 : Nat → Int → Int → Int → Int → zz_S → zz_R
  | 0, _, _, _, _, _ => none
  | n + 1, v1, v2, v3, v4, σ => (if v4 < (zz_h σ 3 1 13) then (if zz_b σ 13 1 v4 then (if (zz_h σ 13 1 v4) = v1 then (x_layDown_5 n v1 v2 v3 (zz_r (v4 + 1)) σ) else (if zz_b σ 13 1 v4 then (if zz_b σ 13 1 v3 then (if (zz_h σ 13 1 v4) = 0 then none else (let s1 := zz_w σ 13 1 v3 (zz_h σ 13 1 v4); (x_layDown_5 n v1 v2 (zz_r (v3 + 1)) (zz_r (v4 + 1)) s1))) else none) else none)) else none) else (let s2 := zz_w σ 3 1 13 v3; (if v1 = 0 then none else (if zz_b s2 16 1 (zz_h s2 10 v1 6) then (let s3 := zz_w s2 16 1 (zz_h s2 10 v1 6) 0; (if v1 = 0 then none else (if (zz_h s3 10 v1 1) = 0 then none else (if (zz_h s3 10 v1 1) = 0 then none else (let s4 := zz_w s3 7 (zz_h s3 10 v1 1) 15 (zz_r ((zz_h s3 7 (zz_h s3 10 v1 1) 15) - 1)); (if v1 = 0 then none else (let s5 := zz_w s4 10 v1 8 (zz_h s4 3 1 16); (if v1 = 0 then none else (let s6 := zz_w s5 10 v1 9 v2; (some (0, s6))))))))))) else none))))
set_option maxRecDepth 100000 in
set_option maxHeartbeats 4000000 in
theorem ze_x_layDown_5 (n : Nat) (v1 v2 v3 v4 : Int) (σ : zz_S) : x_layDown_5 (n + 1) v1 v2 v3 v4 σ = zz_ev (zz_CE []) (zz_KE [(5, [(0, 5, true), (1, 12, false), (2, 0, false), (3, 0, false), (4, 0, false)], fun vs σ => match vs with | [b0, b1, b2, b3] => x_layDown_5 n b0 b1 b2 b3 σ | _ => none)]) zk_x_layDown 999 false 0 0 400 true (zz_sk zk_x_layDown 5) [(0, 5, 1), (1, 12, v1), (2, 0, v2), (3, 0, v3), (4, 0, v4)] [] σ := rfl
noncomputable def x_layDown (v1 v2 : Int) (σ : zz_S) : zz_R := (x_layDown_5 zz_fu v1 v2 0 0 σ)
set_option maxRecDepth 100000 in
set_option maxHeartbeats 4000000 in
theorem ze_x_layDown (v1 v2 : Int) (σ : zz_S) : x_layDown v1 v2 σ = zz_ev (zz_CE []) (zz_KE [(5, [(0, 5, true), (1, 12, false), (2, 0, false), (3, 0, false), (4, 0, false)], fun vs σ => match vs with | [b0, b1, b2, b3] => x_layDown_5 zz_fu b0 b1 b2 b3 σ | _ => none)]) zk_x_layDown 999 false 0 0 400 true (zz_sk zk_x_layDown 0) [(0, 5, 1), (1, 12, v1), (2, 0, v2)] [] σ := rfl
noncomputable def zw_x_layDown : List Int → zz_S → zz_R := fun vs σ => match vs with
  | [a0, a1, a2] => if a0 = 1 then x_layDown a1 a2 σ else none
  | _ => none
def zk_x_restAfter : List zz_E := [(0, false, .iload_n 0, 1, 0, (0, 0, 0, 0), 0, []),
  (1, false, .bipush 6, 2, 0, (0, 0, 0, 0), 0, []),
  (3, false, .if_icmp .le 8, 3, 0, (11, 0, 0, 0), 0, []),
  (6, false, .bipush 64, 2, 0, (0, 0, 0, 0), 0, []),
  (8, false, .goto 12, 3, 0, (20, 0, 0, 0), 0, []),
  (11, false, .iconst 1, 1, 0, (0, 0, 0, 0), 0, []),
  (12, false, .iload_n 0, 1, 0, (0, 0, 0, 0), 0, []),
  (13, false, .iconst 1, 1, 0, (0, 0, 0, 0), 0, []),
  (14, false, .isub, 1, 0, (0, 0, 0, 0), 0, []),
  (15, false, .iconst 0, 1, 0, (0, 0, 0, 0), 0, []),
  (16, false, .invokestatic 258, 3, 510, (168, 2, 0, 0), 0, [0, 0]),
  (19, false, .ishl, 1, 0, (0, 0, 0, 0), 0, []),
  (20, false, .ireturn, 1, 0, (0, 0, 0, 0), 0, [])]
noncomputable def x_restAfter (v0 : Int) (σ : zz_S) : zz_R := (if v0 ≤ 6 then ((j_max (zz_r (v0 - 1)) 0 σ).bind fun q1 => (some ((zz_shl 1 q1.1), q1.2))) else (some (64, σ)))
set_option maxRecDepth 100000 in
set_option maxHeartbeats 4000000 in
theorem ze_x_restAfter (v0 : Int) (σ : zz_S) : x_restAfter v0 σ = zz_ev (zz_CE [(168, zw_j_max)]) (zz_KE []) zk_x_restAfter 0 false 0 0 400 true (zz_sk zk_x_restAfter 0) [(0, 0, v0)] [] σ := rfl
noncomputable def zw_x_restAfter : List Int → zz_S → zz_R := fun vs σ => match vs with
  | [a0] => x_restAfter a0 σ
  | _ => none
def zk_x_followEnd : List zz_E := [(0, false, .aload_n 1, 1, 0, (0, 0, 0, 0), 0, []),
  (1, false, .getfield 114, 3, 301, (7, 1, 0, 0), 0, []),
  (4, false, .iconst 2, 1, 0, (0, 0, 0, 0), 0, []),
  (5, false, .if_icmp .ne 16, 3, 0, (21, 0, 0, 0), 0, []),
  (8, false, .aload_n 1, 1, 0, (0, 0, 0, 0), 0, []),
  (9, false, .aload_n 0, 1, 0, (0, 0, 0, 0), 0, []),
  (10, false, .getfield 78, 3, 179, (3, 16, 0, 0), 0, []),
  (13, false, .aload_n 1, 1, 0, (0, 0, 0, 0), 0, []),
  (14, false, .getfield 246, 3, 305, (7, 3, 0, 0), 0, []),
  (17, false, .iadd, 1, 0, (0, 0, 0, 0), 0, []),
  (18, false, .putfield 249, 3, 323, (7, 11, 0, 0), 0, []),
  (21, true, .iload_n 2, 1, 0, (0, 0, 0, 0), 0, []),
  (22, false, .ifCond .eq 4, 3, 0, (26, 0, 0, 0), 0, []),
  (25, false, .return_, 1, 0, (0, 0, 0, 0), 0, []),
  (26, false, .aload_n 1, 1, 0, (0, 0, 0, 0), 0, []),
  (27, false, .getfield 111, 3, 308, (7, 4, 30, 1), 0, []),
  (30, false, .iconst 5, 1, 0, (0, 0, 0, 0), 0, []),
  (31, false, .iaload, 1, 0, (28, 0, 0, 0), 0, []),
  (32, false, .ifCond .ne 9, 3, 0, (41, 0, 0, 0), 0, []),
  (35, false, .aload_n 0, 1, 0, (0, 0, 0, 0), 0, []),
  (36, false, .aload_n 1, 1, 0, (0, 0, 0, 0), 0, []),
  (37, false, .iconst 4, 1, 0, (0, 0, 0, 0), 0, []),
  (38, false, .invokevirtual 238, 3, 487, (52, 3, 999, 0), 0, [0, 9, 5]),
  (41, true, .aload_n 1, 1, 0, (0, 0, 0, 0), 0, []),
  (42, false, .getfield 111, 3, 308, (7, 4, 30, 1), 0, []),
  (45, false, .iconst 5, 1, 0, (0, 0, 0, 0), 0, []),
  (46, false, .iaload, 1, 0, (28, 0, 0, 0), 0, []),
  (47, false, .iconst 2, 1, 0, (0, 0, 0, 0), 0, []),
  (48, false, .if_icmp .ne 42, 3, 0, (90, 0, 0, 0), 0, []),
  (51, false, .aload_n 1, 1, 0, (0, 0, 0, 0), 0, []),
  (52, false, .getfield 223, 3, 327, (7, 13, 0, 0), 0, []),
  (55, false, .invokestatic 252, 3, 507, (31, 1, 0, 0), 0, [0]),
  (58, false, .istore_n 3, 1, 0, (0, 0, 0, 0), 0, []),
  (59, false, .aload_n 1, 1, 0, (0, 0, 0, 0), 0, []),
  (60, false, .getfield 114, 3, 301, (7, 1, 0, 0), 0, []),
  (63, false, .iconst 2, 1, 0, (0, 0, 0, 0), 0, []),
  (64, false, .if_icmp .ne 16, 3, 0, (80, 0, 0, 0), 0, []),
  (67, false, .aload_n 1, 1, 0, (0, 0, 0, 0), 0, []),
  (68, false, .dup, 1, 0, (0, 0, 0, 0), 0, []),
  (69, false, .getfield 249, 3, 323, (7, 11, 0, 0), 0, []),
  (72, false, .iload_n 3, 1, 0, (0, 0, 0, 0), 0, []),
  (73, false, .iadd, 1, 0, (0, 0, 0, 0), 0, []),
  (74, false, .putfield 249, 3, 323, (7, 11, 0, 0), 0, []),
  (77, false, .goto 13, 3, 0, (90, 0, 0, 0), 0, []),
  (80, false, .aload_n 1, 1, 0, (0, 0, 0, 0), 0, []),
  (81, false, .aload_n 0, 1, 0, (0, 0, 0, 0), 0, []),
  (82, false, .getfield 78, 3, 179, (3, 16, 0, 0), 0, []),
  (85, false, .iload_n 3, 1, 0, (0, 0, 0, 0), 0, []),
  (86, false, .iadd, 1, 0, (0, 0, 0, 0), 0, []),
  (87, false, .putfield 255, 3, 325, (7, 12, 0, 0), 0, []),
  (90, false, .return_, 1, 0, (0, 0, 0, 0), 0, [])]
noncomputable def x_followEnd_41 (v1 : Int) (σ : zz_S) : zz_R := (if v1 = 0 then none else (if v1 = 0 then none else (if zz_b σ 28 v1 5 then (if (zz_h σ 28 v1 5) = 2 then (if v1 = 0 then none else ((x_restAfter (zz_h σ 7 v1 13) σ).bind fun q1 => (if v1 = 0 then none else (if (zz_h q1.2 7 v1 1) = 2 then (if v1 = 0 then none else (if v1 = 0 then none else (let s2 := zz_w q1.2 7 v1 11 (zz_r ((zz_h q1.2 7 v1 11) + q1.1)); (some (0, s2))))) else (if v1 = 0 then none else (let s3 := zz_w q1.2 7 v1 12 (zz_r ((zz_h q1.2 3 1 16) + q1.1)); (some (0, s3)))))))) else (some (0, σ))) else none)))
set_option maxRecDepth 100000 in
set_option maxHeartbeats 4000000 in
theorem ze_x_followEnd_41 (v1 : Int) (σ : zz_S) : x_followEnd_41 v1 σ = zz_ev (zz_CE [(31, zw_x_restAfter)]) (zz_KE []) zk_x_followEnd 999 false 0 0 400 true (zz_sk zk_x_followEnd 41) [(0, 5, 1), (1, 9, v1)] [] σ := rfl
noncomputable def x_followEnd_21 (v1 v2 : Int) (σ : zz_S) : zz_R := (if v2 = 0 then (if v1 = 0 then none else (if v1 = 0 then none else (if zz_b σ 28 v1 5 then (if (zz_h σ 28 v1 5) = 0 then ((x_leave v1 4 σ).bind fun q1 => (x_followEnd_41 v1 q1.2)) else (x_followEnd_41 v1 σ)) else none))) else (some (0, σ)))
set_option maxRecDepth 100000 in
set_option maxHeartbeats 4000000 in
theorem ze_x_followEnd_21 (v1 v2 : Int) (σ : zz_S) : x_followEnd_21 v1 v2 σ = zz_ev (zz_CE [(52, zw_x_leave)]) (zz_KE [(41, [(0, 5, true), (1, 9, false)], fun vs σ => match vs with | [b0] => x_followEnd_41 b0 σ | _ => none)]) zk_x_followEnd 999 false 0 0 400 true (zz_sk zk_x_followEnd 21) [(0, 5, 1), (1, 9, v1), (2, 0, v2)] [] σ := rfl
noncomputable def x_followEnd (v1 v2 : Int) (σ : zz_S) : zz_R := (if v1 = 0 then none else (if (zz_h σ 7 v1 1) = 2 then (if v1 = 0 then none else (if v1 = 0 then none else (let s1 := zz_w σ 7 v1 11 (zz_r ((zz_h σ 3 1 16) + (zz_h σ 7 v1 3))); (x_followEnd_21 v1 v2 s1)))) else (x_followEnd_21 v1 v2 σ)))
set_option maxRecDepth 100000 in
set_option maxHeartbeats 4000000 in
theorem ze_x_followEnd (v1 v2 : Int) (σ : zz_S) : x_followEnd v1 v2 σ = zz_ev (zz_CE []) (zz_KE [(21, [(0, 5, true), (1, 9, false), (2, 0, false)], fun vs σ => match vs with | [b0, b1] => x_followEnd_21 b0 b1 σ | _ => none)]) zk_x_followEnd 999 false 0 0 400 true (zz_sk zk_x_followEnd 0) [(0, 5, 1), (1, 9, v1), (2, 0, v2)] [] σ := rfl
noncomputable def zw_x_followEnd : List Int → zz_S → zz_R := fun vs σ => match vs with
  | [a0, a1, a2] => if a0 = 1 then x_followEnd a1 a2 σ else none
  | _ => none
def zk_x_isActive : List zz_E := [(0, false, .aload_n 0, 1, 0, (0, 0, 0, 0), 0, []),
  (1, false, .ifnull 14, 3, 0, (15, 0, 0, 0), 0, []),
  (4, false, .aload_n 0, 1, 0, (0, 0, 0, 0), 0, []),
  (5, false, .invokevirtual 226, 3, 483, (88, 1, 0, 0), 0, [9]),
  (8, false, .ifCond .eq 7, 3, 0, (15, 0, 0, 0), 0, []),
  (11, false, .iconst 1, 1, 0, (0, 0, 0, 0), 0, []),
  (12, false, .goto 4, 3, 0, (16, 0, 0, 0), 0, []),
  (15, false, .iconst 0, 1, 0, (0, 0, 0, 0), 0, []),
  (16, false, .ireturn, 1, 0, (0, 0, 0, 0), 0, [])]
noncomputable def x_isActive (v0 : Int) (σ : zz_S) : zz_R := (if v0 = 0 then (some (0, σ)) else (if v0 = 0 then none else ((xT_isActive v0 σ).bind fun q1 => (if q1.1 = 0 then (some (0, q1.2)) else (some (1, q1.2))))))
set_option maxRecDepth 100000 in
set_option maxHeartbeats 4000000 in
theorem ze_x_isActive (v0 : Int) (σ : zz_S) : x_isActive v0 σ = zz_ev (zz_CE [(88, zw_xT_isActive)]) (zz_KE []) zk_x_isActive 0 true 0 0 400 true (zz_sk zk_x_isActive 0) [(0, 9, v0)] [] σ := rfl
noncomputable def zw_x_isActive : List Int → zz_S → zz_R := fun vs σ => match vs with
  | [a0] => x_isActive a0 σ
  | _ => none
def zk_xN_fit : List zz_E := [(0, false, .iconst 0, 1, 0, (0, 0, 0, 0), 0, []),
  (1, false, .istore_n 3, 1, 0, (0, 0, 0, 0), 0, []),
  (2, true, .iload_n 3, 1, 0, (0, 0, 0, 0), 0, []),
  (3, false, .aload_n 0, 1, 0, (0, 0, 0, 0), 0, []),
  (4, false, .getfield 18, 3, 288, (9, 2, 0, 0), 0, []),
  (7, false, .if_icmp .ge 49, 3, 0, (56, 0, 0, 0), 0, []),
  (10, false, .aload_n 0, 1, 0, (0, 0, 0, 0), 0, []),
  (11, false, .getfield 9, 3, 285, (9, 0, 31, 1), 0, []),
  (14, false, .iload_n 3, 1, 0, (0, 0, 0, 0), 0, []),
  (15, false, .iaload, 1, 0, (29, 0, 0, 0), 0, []),
  (16, false, .iload_n 1, 1, 0, (0, 0, 0, 0), 0, []),
  (17, false, .if_icmp .ne 33, 3, 0, (50, 0, 0, 0), 0, []),
  (20, false, .aload_n 0, 1, 0, (0, 0, 0, 0), 0, []),
  (21, false, .getfield 15, 3, 287, (9, 1, 32, 1), 0, []),
  (24, false, .iload_n 3, 1, 0, (0, 0, 0, 0), 0, []),
  (25, false, .iaload, 1, 0, (30, 0, 0, 0), 0, []),
  (26, false, .iconst 2, 1, 0, (0, 0, 0, 0), 0, []),
  (27, false, .if_icmp .eq 21, 3, 0, (48, 0, 0, 0), 0, []),
  (30, false, .iload_n 2, 1, 0, (0, 0, 0, 0), 0, []),
  (31, false, .aload_n 0, 1, 0, (0, 0, 0, 0), 0, []),
  (32, false, .getfield 15, 3, 287, (9, 1, 32, 1), 0, []),
  (35, false, .iload_n 3, 1, 0, (0, 0, 0, 0), 0, []),
  (36, false, .iaload, 1, 0, (30, 0, 0, 0), 0, []),
  (37, false, .ifCond .ne 7, 3, 0, (44, 0, 0, 0), 0, []),
  (40, false, .iconst 1, 1, 0, (0, 0, 0, 0), 0, []),
  (41, false, .goto 4, 3, 0, (45, 0, 0, 0), 0, []),
  (44, false, .iconst 0, 1, 0, (0, 0, 0, 0), 0, []),
  (45, false, .if_icmp .ne 5, 3, 0, (50, 0, 0, 0), 0, []),
  (48, false, .iconst 1, 1, 0, (0, 0, 0, 0), 0, []),
  (49, false, .ireturn, 1, 0, (0, 0, 0, 0), 0, []),
  (50, false, .iinc 3 1, 3, 0, (0, 0, 0, 0), 0, []),
  (53, false, .goto (-51), 3, 0, (2, 0, 0, 0), 0, []),
  (56, false, .iconst 0, 1, 0, (0, 0, 0, 0), 0, []),
  (57, false, .ireturn, 1, 0, (0, 0, 0, 0), 0, [])]
noncomputable def xN_fit_2 : Nat → Int → Int → Int → Int → zz_S → zz_R
  | 0, _, _, _, _, _ => none
  | n + 1, v0, v1, v2, v3, σ => (if v0 = 0 then none else (if v3 < (zz_h σ 9 v0 2) then (if v0 = 0 then none else (if v0 = 0 then none else (if zz_b σ 29 v0 v3 then (if (zz_h σ 29 v0 v3) = v1 then (if v0 = 0 then none else (if v0 = 0 then none else (if zz_b σ 30 v0 v3 then (if (zz_h σ 30 v0 v3) = 2 then (some (1, σ)) else (if v0 = 0 then none else (if v0 = 0 then none else (if zz_b σ 30 v0 v3 then (if (zz_h σ 30 v0 v3) = 0 then (if v2 = 1 then (some (1, σ)) else (xN_fit_2 n v0 v1 v2 (zz_r (v3 + 1)) σ)) else (if v2 = 0 then (some (1, σ)) else (xN_fit_2 n v0 v1 v2 (zz_r (v3 + 1)) σ))) else none)))) else none))) else (xN_fit_2 n v0 v1 v2 (zz_r (v3 + 1)) σ)) else none))) else (some (0, σ))))
set_option maxRecDepth 100000 in
set_option maxHeartbeats 4000000 in
theorem ze_xN_fit_2 (n : Nat) (v0 v1 v2 v3 : Int) (σ : zz_S) : xN_fit_2 (n + 1) v0 v1 v2 v3 σ = zz_ev (zz_CE []) (zz_KE [(2, [(0, 11, false), (1, 0, false), (2, 0, false), (3, 0, false)], fun vs σ => match vs with | [b0, b1, b2, b3] => xN_fit_2 n b0 b1 b2 b3 σ | _ => none)]) zk_xN_fit 0 true 0 0 400 true (zz_sk zk_xN_fit 2) [(0, 11, v0), (1, 0, v1), (2, 0, v2), (3, 0, v3)] [] σ := rfl
noncomputable def xN_fit (v0 v1 v2 : Int) (σ : zz_S) : zz_R := (xN_fit_2 zz_fu v0 v1 v2 0 σ)
set_option maxRecDepth 100000 in
set_option maxHeartbeats 4000000 in
theorem ze_xN_fit (v0 v1 v2 : Int) (σ : zz_S) : xN_fit v0 v1 v2 σ = zz_ev (zz_CE []) (zz_KE [(2, [(0, 11, false), (1, 0, false), (2, 0, false), (3, 0, false)], fun vs σ => match vs with | [b0, b1, b2, b3] => xN_fit_2 zz_fu b0 b1 b2 b3 σ | _ => none)]) zk_xN_fit 0 true 0 0 400 true (zz_sk zk_xN_fit 0) [(0, 11, v0), (1, 0, v1), (2, 0, v2)] [] σ := rfl
noncomputable def zw_xN_fit : List Int → zz_S → zz_R := fun vs σ => match vs with
  | [a0, a1, a2] => xN_fit a0 a1 a2 σ
  | _ => none
def zk_x_fateOfDue : List zz_E := [(0, false, .aload_n 0, 1, 0, (0, 0, 0, 0), 0, []),
  (1, false, .getfield 87, 3, 182, (3, 19, 0, 0), 1, []),
  (4, false, .ifCond .eq 5, 3, 0, (9, 0, 0, 0), 0, []),
  (7, false, .iconst 4, 1, 0, (0, 0, 0, 0), 0, []),
  (8, false, .ireturn, 1, 0, (0, 0, 0, 0), 0, []),
  (9, false, .aload_n 1, 1, 0, (0, 0, 0, 0), 0, []),
  (10, false, .getfield 255, 3, 325, (7, 12, 0, 0), 0, []),
  (13, false, .aload_n 0, 1, 0, (0, 0, 0, 0), 0, []),
  (14, false, .getfield 78, 3, 179, (3, 16, 0, 0), 0, []),
  (17, false, .if_icmp .le 5, 3, 0, (22, 0, 0, 0), 0, []),
  (20, false, .iconst 5, 1, 0, (0, 0, 0, 0), 0, []),
  (21, false, .ireturn, 1, 0, (0, 0, 0, 0), 0, []),
  (22, false, .aload_n 1, 1, 0, (0, 0, 0, 0), 0, []),
  (23, false, .getfield 111, 3, 308, (7, 4, 30, 1), 0, []),
  (26, false, .iconst 3, 1, 0, (0, 0, 0, 0), 0, []),
  (27, false, .iaload, 1, 0, (28, 0, 0, 0), 0, []),
  (28, false, .ifCond .ne 13, 3, 0, (41, 0, 0, 0), 0, []),
  (31, false, .aload_n 1, 1, 0, (0, 0, 0, 0), 0, []),
  (32, false, .getfield 264, 3, 332, (7, 15, 0, 0), 0, []),
  (35, false, .ifCond .le 6, 3, 0, (41, 0, 0, 0), 0, []),
  (38, false, .bipush 7, 2, 0, (0, 0, 0, 0), 0, []),
  (40, false, .ireturn, 1, 0, (0, 0, 0, 0), 0, []),
  (41, true, .aload_n 0, 1, 0, (0, 0, 0, 0), 0, []),
  (42, false, .getfield 27, 3, 166, (3, 3, 6, 1), 0, []),
  (45, false, .getfield 318, 3, 108, (4, 3, 0, 0), 0, []),
  (48, false, .bipush 100, 2, 0, (0, 0, 0, 0), 0, []),
  (50, false, .if_icmp .lt 8, 3, 0, (58, 0, 0, 0), 0, []),
  (53, false, .bipush 6, 2, 0, (0, 0, 0, 0), 0, []),
  (55, false, .goto 5, 3, 0, (60, 0, 0, 0), 0, []),
  (58, false, .bipush 8, 2, 0, (0, 0, 0, 0), 0, []),
  (60, false, .ireturn, 1, 0, (0, 0, 0, 0), 0, [])]
noncomputable def x_fateOfDue_41 (σ : zz_S) : zz_R := (if (zz_h σ 4 1 3) < 100 then (some (8, σ)) else (some (6, σ)))
set_option maxRecDepth 100000 in
set_option maxHeartbeats 4000000 in
theorem ze_x_fateOfDue_41 (σ : zz_S) : x_fateOfDue_41 σ = zz_ev (zz_CE []) (zz_KE []) zk_x_fateOfDue 0 false 0 0 400 true (zz_sk zk_x_fateOfDue 41) [(0, 5, 1)] [] σ := rfl
noncomputable def x_fateOfDue (v1 : Int) (σ : zz_S) : zz_R := (if (zz_h σ 3 1 19) = 0 then (if v1 = 0 then none else (if (zz_h σ 7 v1 12) ≤ (zz_h σ 3 1 16) then (if v1 = 0 then none else (if v1 = 0 then none else (if zz_b σ 28 v1 3 then (if (zz_h σ 28 v1 3) = 0 then (if v1 = 0 then none else (if (zz_h σ 7 v1 15) ≤ 0 then (x_fateOfDue_41 σ) else (some (7, σ)))) else (x_fateOfDue_41 σ)) else none))) else (some (5, σ)))) else (some (4, σ)))
set_option maxRecDepth 100000 in
set_option maxHeartbeats 4000000 in
theorem ze_x_fateOfDue (v1 : Int) (σ : zz_S) : x_fateOfDue v1 σ = zz_ev (zz_CE []) (zz_KE [(41, [(0, 5, true)], fun vs σ => match vs with | [] => x_fateOfDue_41 σ | _ => none)]) zk_x_fateOfDue 0 false 0 0 400 true (zz_sk zk_x_fateOfDue 0) [(0, 5, 1), (1, 9, v1)] [] σ := rfl
noncomputable def zw_x_fateOfDue : List Int → zz_S → zz_R := fun vs σ => match vs with
  | [a0, a1] => if a0 = 1 then x_fateOfDue a1 σ else none
  | _ => none
def zk_xD_add : List zz_E := [(0, false, .aload_n 0, 1, 0, (0, 0, 0, 0), 0, []),
  (1, false, .getfield 25, 3, 107, (4, 3, 0, 0), 0, []),
  (4, false, .bipush 100, 2, 0, (0, 0, 0, 0), 0, []),
  (6, false, .if_icmp .lt 4, 3, 0, (10, 0, 0, 0), 0, []),
  (9, false, .return_, 1, 0, (0, 0, 0, 0), 0, []),
  (10, false, .aload_n 0, 1, 0, (0, 0, 0, 0), 0, []),
  (11, false, .getfield 11, 3, 101, (4, 0, 21, 1), 0, []),
  (14, false, .aload_n 0, 1, 0, (0, 0, 0, 0), 0, []),
  (15, false, .getfield 25, 3, 107, (4, 3, 0, 0), 0, []),
  (18, false, .aload_n 1, 1, 0, (0, 0, 0, 0), 0, []),
  (19, false, .aastore, 1, 0, (19, 0, 9, 0), 0, []),
  (20, false, .aload_n 0, 1, 0, (0, 0, 0, 0), 0, []),
  (21, false, .getfield 17, 3, 103, (4, 1, 22, 1), 0, []),
  (24, false, .aload_n 0, 1, 0, (0, 0, 0, 0), 0, []),
  (25, false, .getfield 25, 3, 107, (4, 3, 0, 0), 0, []),
  (28, false, .iload_n 2, 1, 0, (0, 0, 0, 0), 0, []),
  (29, false, .iastore, 1, 0, (20, 0, 0, 0), 0, []),
  (30, false, .aload_n 0, 1, 0, (0, 0, 0, 0), 0, []),
  (31, false, .getfield 21, 3, 105, (4, 2, 23, 1), 0, []),
  (34, false, .aload_n 0, 1, 0, (0, 0, 0, 0), 0, []),
  (35, false, .getfield 25, 3, 107, (4, 3, 0, 0), 0, []),
  (38, false, .iconst 0, 1, 0, (0, 0, 0, 0), 0, []),
  (39, false, .bastore, 1, 0, (21, 0, 0, 0), 0, []),
  (40, false, .aload_n 0, 1, 0, (0, 0, 0, 0), 0, []),
  (41, false, .dup, 1, 0, (0, 0, 0, 0), 0, []),
  (42, false, .getfield 25, 3, 107, (4, 3, 0, 0), 0, []),
  (45, false, .iconst 1, 1, 0, (0, 0, 0, 0), 0, []),
  (46, false, .iadd, 1, 0, (0, 0, 0, 0), 0, []),
  (47, false, .putfield 25, 3, 107, (4, 3, 0, 0), 0, []),
  (50, false, .aload_n 1, 1, 0, (0, 0, 0, 0), 0, []),
  (51, false, .dup, 1, 0, (0, 0, 0, 0), 0, []),
  (52, false, .getfield 29, 3, 334, (7, 16, 0, 0), 0, []),
  (55, false, .iconst 1, 1, 0, (0, 0, 0, 0), 0, []),
  (56, false, .iadd, 1, 0, (0, 0, 0, 0), 0, []),
  (57, false, .putfield 29, 3, 334, (7, 16, 0, 0), 0, []),
  (60, false, .return_, 1, 0, (0, 0, 0, 0), 0, [])]
noncomputable def xD_add (v1 v2 : Int) (σ : zz_S) : zz_R := (if (zz_h σ 4 1 3) < 100 then (if zz_b σ 19 1 (zz_h σ 4 1 3) then (if v1 = 0 then none else (let s1 := zz_w σ 19 1 (zz_h σ 4 1 3) v1; (if zz_b s1 20 1 (zz_h s1 4 1 3) then (let s2 := zz_w s1 20 1 (zz_h s1 4 1 3) v2; (if zz_b s2 21 1 (zz_h s2 4 1 3) then (let s3 := zz_w s2 21 1 (zz_h s2 4 1 3) 0; (let s4 := zz_w s3 4 1 3 (zz_r ((zz_h s3 4 1 3) + 1)); (if v1 = 0 then none else (if v1 = 0 then none else (let s5 := zz_w s4 7 v1 16 (zz_r ((zz_h s4 7 v1 16) + 1)); (some (0, s5))))))) else none)) else none))) else none) else (some (0, σ)))
set_option maxRecDepth 100000 in
set_option maxHeartbeats 4000000 in
theorem ze_xD_add (v1 v2 : Int) (σ : zz_S) : xD_add v1 v2 σ = zz_ev (zz_CE []) (zz_KE []) zk_xD_add 999 false 0 0 400 true (zz_sk zk_xD_add 0) [(0, 6, 1), (1, 9, v1), (2, 0, v2)] [] σ := rfl
noncomputable def zw_xD_add : List Int → zz_S → zz_R := fun vs σ => match vs with
  | [a0, a1, a2] => if a0 = 1 then xD_add a1 a2 σ else none
  | _ => none
def zk_xB_add : List zz_E := [(0, false, .aload_n 0, 1, 0, (0, 0, 0, 0), 0, []),
  (1, false, .getfield 21, 3, 132, (5, 3, 0, 0), 0, []),
  (4, false, .sipush 300, 3, 0, (0, 0, 0, 0), 0, []),
  (7, false, .if_icmp .ge 33, 3, 0, (40, 0, 0, 0), 0, []),
  (10, false, .aload_n 0, 1, 0, (0, 0, 0, 0), 0, []),
  (11, false, .getfield 9, 3, 126, (5, 0, 24, 1), 0, []),
  (14, false, .aload_n 0, 1, 0, (0, 0, 0, 0), 0, []),
  (15, false, .getfield 21, 3, 132, (5, 3, 0, 0), 0, []),
  (18, false, .iload_n 1, 1, 0, (0, 0, 0, 0), 0, []),
  (19, false, .iastore, 1, 0, (22, 0, 0, 0), 0, []),
  (20, false, .aload_n 0, 1, 0, (0, 0, 0, 0), 0, []),
  (21, false, .getfield 15, 3, 128, (5, 1, 25, 1), 0, []),
  (24, false, .aload_n 0, 1, 0, (0, 0, 0, 0), 0, []),
  (25, false, .getfield 21, 3, 132, (5, 3, 0, 0), 0, []),
  (28, false, .iload_n 2, 1, 0, (0, 0, 0, 0), 0, []),
  (29, false, .iastore, 1, 0, (23, 0, 0, 0), 0, []),
  (30, false, .aload_n 0, 1, 0, (0, 0, 0, 0), 0, []),
  (31, false, .getfield 18, 3, 130, (5, 2, 26, 1), 0, []),
  (34, false, .aload_n 0, 1, 0, (0, 0, 0, 0), 0, []),
  (35, false, .getfield 21, 3, 132, (5, 3, 0, 0), 0, []),
  (38, false, .iload_n 3, 1, 0, (0, 0, 0, 0), 0, []),
  (39, false, .iastore, 1, 0, (24, 0, 0, 0), 0, []),
  (40, false, .aload_n 0, 1, 0, (0, 0, 0, 0), 0, []),
  (41, false, .dup, 1, 0, (0, 0, 0, 0), 0, []),
  (42, false, .getfield 21, 3, 132, (5, 3, 0, 0), 0, []),
  (45, false, .iconst 1, 1, 0, (0, 0, 0, 0), 0, []),
  (46, false, .iadd, 1, 0, (0, 0, 0, 0), 0, []),
  (47, false, .putfield 21, 3, 132, (5, 3, 0, 0), 0, []),
  (50, false, .return_, 1, 0, (0, 0, 0, 0), 0, [])]
noncomputable def xB_add (v1 v2 v3 : Int) (σ : zz_S) : zz_R := (if (zz_h σ 5 1 3) < 300 then (if zz_b σ 22 1 (zz_h σ 5 1 3) then (let s1 := zz_w σ 22 1 (zz_h σ 5 1 3) v1; (if zz_b s1 23 1 (zz_h s1 5 1 3) then (let s2 := zz_w s1 23 1 (zz_h s1 5 1 3) v2; (if zz_b s2 24 1 (zz_h s2 5 1 3) then (let s3 := zz_w s2 24 1 (zz_h s2 5 1 3) v3; (let s4 := zz_w s3 5 1 3 (zz_r ((zz_h s3 5 1 3) + 1)); (some (0, s4)))) else none)) else none)) else none) else (let s5 := zz_w σ 5 1 3 (zz_r ((zz_h σ 5 1 3) + 1)); (some (0, s5))))
set_option maxRecDepth 100000 in
set_option maxHeartbeats 4000000 in
theorem ze_xB_add (v1 v2 v3 : Int) (σ : zz_S) : xB_add v1 v2 v3 σ = zz_ev (zz_CE []) (zz_KE []) zk_xB_add 999 false 0 0 400 true (zz_sk zk_xB_add 0) [(0, 7, 1), (1, 0, v1), (2, 0, v2), (3, 0, v3)] [] σ := rfl
noncomputable def zw_xB_add : List Int → zz_S → zz_R := fun vs σ => match vs with
  | [a0, a1, a2, a3] => if a0 = 1 then xB_add a1 a2 a3 σ else none
  | _ => none
def zk_x_pauseAgain : List zz_E := [(0, false, .aload_n 1, 1, 0, (0, 0, 0, 0), 0, []),
  (1, false, .getfield 114, 3, 301, (7, 1, 0, 0), 0, []),
  (4, false, .iconst 2, 1, 0, (0, 0, 0, 0), 0, []),
  (5, false, .if_icmp .ne 23, 3, 0, (28, 0, 0, 0), 0, []),
  (8, false, .aload_n 1, 1, 0, (0, 0, 0, 0), 0, []),
  (9, false, .getfield 319, 3, 321, (7, 10, 0, 0), 0, []),
  (12, false, .ifCond .ne 16, 3, 0, (28, 0, 0, 0), 0, []),
  (15, false, .aload_n 1, 1, 0, (0, 0, 0, 0), 0, []),
  (16, false, .aload_n 0, 1, 0, (0, 0, 0, 0), 0, []),
  (17, false, .getfield 78, 3, 179, (3, 16, 0, 0), 0, []),
  (20, false, .aload_n 1, 1, 0, (0, 0, 0, 0), 0, []),
  (21, false, .getfield 246, 3, 305, (7, 3, 0, 0), 0, []),
  (24, false, .iadd, 1, 0, (0, 0, 0, 0), 0, []),
  (25, false, .putfield 249, 3, 323, (7, 11, 0, 0), 0, []),
  (28, false, .return_, 1, 0, (0, 0, 0, 0), 0, [])]
noncomputable def x_pauseAgain (v1 : Int) (σ : zz_S) : zz_R := (if v1 = 0 then none else (if (zz_h σ 7 v1 1) = 2 then (if v1 = 0 then none else (if (zz_h σ 7 v1 10) = 0 then (if v1 = 0 then none else (if v1 = 0 then none else (let s1 := zz_w σ 7 v1 11 (zz_r ((zz_h σ 3 1 16) + (zz_h σ 7 v1 3))); (some (0, s1))))) else (some (0, σ)))) else (some (0, σ))))
set_option maxRecDepth 100000 in
set_option maxHeartbeats 4000000 in
theorem ze_x_pauseAgain (v1 : Int) (σ : zz_S) : x_pauseAgain v1 σ = zz_ev (zz_CE []) (zz_KE []) zk_x_pauseAgain 999 false 0 0 400 true (zz_sk zk_x_pauseAgain 0) [(0, 5, 1), (1, 9, v1)] [] σ := rfl
noncomputable def zw_x_pauseAgain : List Int → zz_S → zz_R := fun vs σ => match vs with
  | [a0, a1] => if a0 = 1 then x_pauseAgain a1 σ else none
  | _ => none
def zk_x_comeDue : List zz_E := [(0, false, .aload_n 0, 1, 0, (0, 0, 0, 0), 0, []),
  (1, false, .aload_n 1, 1, 0, (0, 0, 0, 0), 0, []),
  (2, false, .invokevirtual 305, 3, 526, (37, 2, 0, 0), 0, [9, 5]),
  (5, false, .istore_n 2, 1, 0, (0, 0, 0, 0), 0, []),
  (6, false, .iload_n 2, 1, 0, (0, 0, 0, 0), 0, []),
  (7, false, .bipush 8, 2, 0, (0, 0, 0, 0), 0, []),
  (9, false, .if_icmp .ne 16, 3, 0, (25, 0, 0, 0), 0, []),
  (12, false, .aload_n 0, 1, 0, (0, 0, 0, 0), 0, []),
  (13, false, .getfield 27, 3, 166, (3, 3, 6, 1), 0, []),
  (16, false, .aload_n 1, 1, 0, (0, 0, 0, 0), 0, []),
  (17, false, .aload_n 0, 1, 0, (0, 0, 0, 0), 0, []),
  (18, false, .getfield 78, 3, 179, (3, 16, 0, 0), 0, []),
  (21, false, .invokevirtual 309, 3, 530, (76, 3, 999, 0), 0, [0, 9, 6]),
  (24, false, .return_, 1, 0, (0, 0, 0, 0), 0, []),
  (25, false, .iload_n 2, 1, 0, (0, 0, 0, 0), 0, []),
  (26, false, .bipush 7, 2, 0, (0, 0, 0, 0), 0, []),
  (28, false, .if_icmp .ne 16, 3, 0, (44, 0, 0, 0), 0, []),
  (31, false, .aload_n 1, 1, 0, (0, 0, 0, 0), 0, []),
  (32, false, .dup, 1, 0, (0, 0, 0, 0), 0, []),
  (33, false, .getfield 311, 3, 337, (7, 17, 0, 0), 0, []),
  (36, false, .iconst 1, 1, 0, (0, 0, 0, 0), 0, []),
  (37, false, .iadd, 1, 0, (0, 0, 0, 0), 0, []),
  (38, false, .putfield 311, 3, 337, (7, 17, 0, 0), 0, []),
  (41, false, .goto 19, 3, 0, (60, 0, 0, 0), 0, []),
  (44, false, .aload_n 0, 1, 0, (0, 0, 0, 0), 0, []),
  (45, false, .getfield 34, 3, 167, (3, 4, 7, 1), 0, []),
  (48, false, .aload_n 1, 1, 0, (0, 0, 0, 0), 0, []),
  (49, false, .getfield 162, 3, 299, (7, 0, 0, 0), 0, []),
  (52, false, .aload_n 0, 1, 0, (0, 0, 0, 0), 0, []),
  (53, false, .getfield 78, 3, 179, (3, 16, 0, 0), 0, []),
  (56, false, .iload_n 2, 1, 0, (0, 0, 0, 0), 0, []),
  (57, false, .invokevirtual 314, 3, 534, (82, 4, 999, 0), 0, [0, 0, 0, 7]),
  (60, false, .aload_n 0, 1, 0, (0, 0, 0, 0), 0, []),
  (61, false, .aload_n 1, 1, 0, (0, 0, 0, 0), 0, []),
  (62, false, .invokevirtual 315, 3, 538, (38, 2, 999, 0), 0, [9, 5]),
  (65, false, .return_, 1, 0, (0, 0, 0, 0), 0, [])]
noncomputable def x_comeDue (v1 : Int) (σ : zz_S) : zz_R := ((x_fateOfDue v1 σ).bind fun q1 => (if q1.1 = 8 then ((xD_add v1 (zz_h q1.2 3 1 16) q1.2).bind fun q2 => (some (0, q2.2))) else (if q1.1 = 7 then (if v1 = 0 then none else (if v1 = 0 then none else (let s3 := zz_w q1.2 7 v1 17 (zz_r ((zz_h q1.2 7 v1 17) + 1)); ((x_pauseAgain v1 s3).bind fun q4 => (some (0, q4.2)))))) else (if v1 = 0 then none else ((xB_add (zz_h q1.2 7 v1 0) (zz_h q1.2 3 1 16) q1.1 q1.2).bind fun q5 => ((x_pauseAgain v1 q5.2).bind fun q6 => (some (0, q6.2))))))))
set_option maxRecDepth 100000 in
set_option maxHeartbeats 4000000 in
theorem ze_x_comeDue (v1 : Int) (σ : zz_S) : x_comeDue v1 σ = zz_ev (zz_CE [(37, zw_x_fateOfDue), (38, zw_x_pauseAgain), (76, zw_xD_add), (82, zw_xB_add)]) (zz_KE []) zk_x_comeDue 999 false 0 0 400 true (zz_sk zk_x_comeDue 0) [(0, 5, 1), (1, 9, v1)] [] σ := rfl
noncomputable def zw_x_comeDue : List Int → zz_S → zz_R := fun vs σ => match vs with
  | [a0, a1] => if a0 = 1 then x_comeDue a1 σ else none
  | _ => none
def zk_x_tellAfters : List zz_E := [(0, false, .iconst 0, 1, 0, (0, 0, 0, 0), 0, []),
  (1, false, .istore_n 3, 1, 0, (0, 0, 0, 0), 0, []),
  (2, true, .iload_n 3, 1, 0, (0, 0, 0, 0), 0, []),
  (3, false, .aload_n 0, 1, 0, (0, 0, 0, 0), 0, []),
  (4, false, .getfield 62, 3, 174, (3, 11, 0, 0), 0, []),
  (7, false, .if_icmp .ge 55, 3, 0, (62, 0, 0, 0), 0, []),
  (10, false, .aload_n 0, 1, 0, (0, 0, 0, 0), 0, []),
  (11, false, .iload_n 3, 1, 0, (0, 0, 0, 0), 0, []),
  (12, false, .invokevirtual 100, 3, 385, (73, 2, 9, 0), 0, [0, 5]),
  (15, false, .astore 4, 2, 0, (0, 0, 0, 0), 0, []),
  (17, false, .aload 4, 2, 0, (0, 0, 0, 0), 0, []),
  (19, false, .invokestatic 273, 3, 515, (74, 1, 0, 0), 0, [9]),
  (22, false, .ifCond .eq 34, 3, 0, (56, 0, 0, 0), 0, []),
  (25, false, .aload 4, 2, 0, (0, 0, 0, 0), 0, []),
  (27, false, .getfield 114, 3, 301, (7, 1, 0, 0), 0, []),
  (30, false, .iconst 4, 1, 0, (0, 0, 0, 0), 0, []),
  (31, false, .if_icmp .ne 25, 3, 0, (56, 0, 0, 0), 0, []),
  (34, false, .aload 4, 2, 0, (0, 0, 0, 0), 0, []),
  (36, false, .getfield 146, 3, 313, (7, 6, 11, 1), 0, []),
  (39, false, .aload_n 1, 1, 0, (0, 0, 0, 0), 0, []),
  (40, false, .getfield 162, 3, 299, (7, 0, 0, 0), 0, []),
  (43, false, .iload_n 2, 1, 0, (0, 0, 0, 0), 0, []),
  (44, false, .invokevirtual 276, 3, 518, (105, 3, 0, 0), 0, [0, 0, 11]),
  (47, false, .ifCond .eq 9, 3, 0, (56, 0, 0, 0), 0, []),
  (50, false, .aload_n 0, 1, 0, (0, 0, 0, 0), 0, []),
  (51, false, .aload 4, 2, 0, (0, 0, 0, 0), 0, []),
  (53, false, .invokevirtual 280, 3, 522, (36, 2, 999, 0), 0, [9, 5]),
  (56, false, .iinc 3 1, 3, 0, (0, 0, 0, 0), 0, []),
  (59, false, .goto (-57), 3, 0, (2, 0, 0, 0), 0, []),
  (62, false, .return_, 1, 0, (0, 0, 0, 0), 0, [])]
noncomputable def x_tellAfters_2 : Nat → Int → Int → Int → zz_S → zz_R
  | 0, _, _, _, _ => none
  | n + 1, v1, v2, v3, σ => (if v3 < (zz_h σ 3 1 11) then ((x_taskAt v3 σ).bind fun q1 => ((x_isActive q1.1 q1.2).bind fun q2 => (if q2.1 = 0 then (x_tellAfters_2 n v1 v2 (zz_r (v3 + 1)) q2.2) else (if q1.1 = 0 then none else (if (zz_h q2.2 7 q1.1 1) = 4 then (if q1.1 = 0 then none else (if v1 = 0 then none else (if q1.1 = 0 then none else ((xN_fit q1.1 (zz_h q2.2 7 v1 0) v2 q2.2).bind fun q3 => (if q3.1 = 0 then (x_tellAfters_2 n v1 v2 (zz_r (v3 + 1)) q3.2) else ((x_comeDue q1.1 q3.2).bind fun q4 => (x_tellAfters_2 n v1 v2 (zz_r (v3 + 1)) q4.2))))))) else (x_tellAfters_2 n v1 v2 (zz_r (v3 + 1)) q2.2)))))) else (some (0, σ)))
set_option maxRecDepth 100000 in
set_option maxHeartbeats 4000000 in
theorem ze_x_tellAfters_2 (n : Nat) (v1 v2 v3 : Int) (σ : zz_S) : x_tellAfters_2 (n + 1) v1 v2 v3 σ = zz_ev (zz_CE [(36, zw_x_comeDue), (73, zw_x_taskAt), (74, zw_x_isActive), (105, zw_xN_fit)]) (zz_KE [(2, [(0, 5, true), (1, 9, false), (2, 0, false), (3, 0, false)], fun vs σ => match vs with | [b0, b1, b2] => x_tellAfters_2 n b0 b1 b2 σ | _ => none)]) zk_x_tellAfters 999 false 0 0 400 true (zz_sk zk_x_tellAfters 2) [(0, 5, 1), (1, 9, v1), (2, 0, v2), (3, 0, v3)] [] σ := rfl
noncomputable def x_tellAfters (v1 v2 : Int) (σ : zz_S) : zz_R := (x_tellAfters_2 zz_fu v1 v2 0 σ)
set_option maxRecDepth 100000 in
set_option maxHeartbeats 4000000 in
theorem ze_x_tellAfters (v1 v2 : Int) (σ : zz_S) : x_tellAfters v1 v2 σ = zz_ev (zz_CE []) (zz_KE [(2, [(0, 5, true), (1, 9, false), (2, 0, false), (3, 0, false)], fun vs σ => match vs with | [b0, b1, b2] => x_tellAfters_2 zz_fu b0 b1 b2 σ | _ => none)]) zk_x_tellAfters 999 false 0 0 400 true (zz_sk zk_x_tellAfters 0) [(0, 5, 1), (1, 9, v1), (2, 0, v2)] [] σ := rfl
noncomputable def zw_x_tellAfters : List Int → zz_S → zz_R := fun vs σ => match vs with
  | [a0, a1, a2] => if a0 = 1 then x_tellAfters a1 a2 σ else none
  | _ => none
def zk_x_endRun : List zz_E := [(0, false, .aload_n 1, 1, 0, (0, 0, 0, 0), 0, []),
  (1, false, .getfield 203, 3, 636, (10, 1, 9, 0), 0, []),
  (4, false, .astore_n 2, 1, 0, (0, 0, 0, 0), 0, []),
  (5, false, .aload_n 0, 1, 0, (0, 0, 0, 0), 0, []),
  (6, false, .getfield 41, 3, 168, (3, 5, 8, 1), 0, []),
  (9, false, .aload_n 2, 1, 0, (0, 0, 0, 0), 0, []),
  (10, false, .getfield 162, 3, 299, (7, 0, 0, 0), 0, []),
  (13, false, .aload_n 1, 1, 0, (0, 0, 0, 0), 0, []),
  (14, false, .getfield 207, 3, 638, (10, 2, 0, 0), 0, []),
  (17, false, .invokevirtual 210, 3, 475, (86, 3, 0, 0), 0, [0, 0, 8]),
  (20, false, .istore_n 3, 1, 0, (0, 0, 0, 0), 0, []),
  (21, false, .iload_n 3, 1, 0, (0, 0, 0, 0), 0, []),
  (22, false, .iconst (-1), 1, 0, (0, 0, 0, 0), 0, []),
  (23, false, .if_icmp .ne 9, 3, 0, (32, 0, 0, 0), 0, []),
  (26, false, .aload_n 0, 1, 0, (0, 0, 0, 0), 0, []),
  (27, false, .aload_n 1, 1, 0, (0, 0, 0, 0), 0, []),
  (28, false, .invokevirtual 213, 3, 479, (29, 2, 0, 0), 0, [12, 5]),
  (31, false, .istore_n 3, 1, 0, (0, 0, 0, 0), 0, []),
  (32, true, .iload_n 3, 1, 0, (0, 0, 0, 0), 0, []),
  (33, false, .iconst (-1), 1, 0, (0, 0, 0, 0), 0, []),
  (34, false, .if_icmp .ne 7, 3, 0, (41, 0, 0, 0), 0, []),
  (37, false, .iconst 1, 1, 0, (0, 0, 0, 0), 0, []),
  (38, false, .goto 4, 3, 0, (42, 0, 0, 0), 0, []),
  (41, false, .iconst 0, 1, 0, (0, 0, 0, 0), 0, []),
  (42, false, .istore 4, 2, 0, (0, 0, 0, 0), 0, []),
  (44, false, .aload_n 0, 1, 0, (0, 0, 0, 0), 0, []),
  (45, false, .aload_n 1, 1, 0, (0, 0, 0, 0), 0, []),
  (46, false, .iload 4, 2, 0, (0, 0, 0, 0), 0, []),
  (48, false, .ifCond .eq 7, 3, 0, (55, 0, 0, 0), 0, []),
  (51, false, .iconst 1, 1, 0, (0, 0, 0, 0), 0, []),
  (52, false, .goto 4, 3, 0, (56, 0, 0, 0), 0, []),
  (55, false, .iconst 2, 1, 0, (0, 0, 0, 0), 0, []),
  (56, false, .invokevirtual 216, 3, 499, (32, 3, 999, 0), 0, [0, 12, 5]),
  (59, false, .aload_n 1, 1, 0, (0, 0, 0, 0), 0, []),
  (60, false, .iload_n 3, 1, 0, (0, 0, 0, 0), 0, []),
  (61, false, .putfield 220, 3, 654, (10, 10, 0, 0), 0, []),
  (64, false, .iload 4, 2, 0, (0, 0, 0, 0), 0, []),
  (66, false, .ifCond .eq 11, 3, 0, (77, 0, 0, 0), 0, []),
  (69, false, .aload_n 2, 1, 0, (0, 0, 0, 0), 0, []),
  (70, false, .iconst 0, 1, 0, (0, 0, 0, 0), 0, []),
  (71, false, .putfield 223, 3, 327, (7, 13, 0, 0), 0, []),
  (74, false, .goto 13, 3, 0, (87, 0, 0, 0), 0, []),
  (77, false, .aload_n 2, 1, 0, (0, 0, 0, 0), 0, []),
  (78, false, .dup, 1, 0, (0, 0, 0, 0), 0, []),
  (79, false, .getfield 223, 3, 327, (7, 13, 0, 0), 0, []),
  (82, false, .iconst 1, 1, 0, (0, 0, 0, 0), 0, []),
  (83, false, .iadd, 1, 0, (0, 0, 0, 0), 0, []),
  (84, false, .putfield 223, 3, 327, (7, 13, 0, 0), 0, []),
  (87, true, .aload_n 2, 1, 0, (0, 0, 0, 0), 0, []),
  (88, false, .invokevirtual 226, 3, 483, (88, 1, 0, 0), 0, [9]),
  (91, false, .ifCond .eq 10, 3, 0, (101, 0, 0, 0), 0, []),
  (94, false, .aload_n 0, 1, 0, (0, 0, 0, 0), 0, []),
  (95, false, .aload_n 2, 1, 0, (0, 0, 0, 0), 0, []),
  (96, false, .iload 4, 2, 0, (0, 0, 0, 0), 0, []),
  (98, false, .invokevirtual 230, 3, 503, (30, 3, 999, 0), 0, [0, 9, 5]),
  (101, false, .aload_n 0, 1, 0, (0, 0, 0, 0), 0, []),
  (102, false, .aload_n 2, 1, 0, (0, 0, 0, 0), 0, []),
  (103, false, .iload 4, 2, 0, (0, 0, 0, 0), 0, []),
  (105, false, .invokevirtual 234, 3, 511, (33, 3, 999, 0), 0, [0, 9, 5]),
  (108, false, .return_, 1, 0, (0, 0, 0, 0), 0, [])]
noncomputable def x_endRun_87 (v2 v4 : Int) (σ : zz_S) : zz_R := (if v2 = 0 then none else ((xT_isActive v2 σ).bind fun q1 => (if q1.1 = 0 then ((x_tellAfters v2 v4 q1.2).bind fun q2 => (some (0, q2.2))) else ((x_followEnd v2 v4 q1.2).bind fun q3 => ((x_tellAfters v2 v4 q3.2).bind fun q4 => (some (0, q4.2)))))))
set_option maxRecDepth 100000 in
set_option maxHeartbeats 4000000 in
theorem ze_x_endRun_87 (v2 v4 : Int) (σ : zz_S) : x_endRun_87 v2 v4 σ = zz_ev (zz_CE [(30, zw_x_followEnd), (33, zw_x_tellAfters), (88, zw_xT_isActive)]) (zz_KE []) zk_x_endRun 999 false 0 0 400 true (zz_sk zk_x_endRun 87) [(0, 5, 1), (2, 9, v2), (4, 0, v4)] [] σ := rfl
noncomputable def x_endRun_32 (v1 v2 v3 : Int) (σ : zz_S) : zz_R := (if v3 = (-1) then ((x_layDown v1 1 σ).bind fun q1 => (if v1 = 0 then none else (let s2 := zz_w q1.2 10 v1 10 v3; (if v2 = 0 then none else (let s3 := zz_w s2 7 v2 13 0; (x_endRun_87 v2 1 s3)))))) else ((x_layDown v1 2 σ).bind fun q4 => (if v1 = 0 then none else (let s5 := zz_w q4.2 10 v1 10 v3; (if v2 = 0 then none else (if v2 = 0 then none else (let s6 := zz_w s5 7 v2 13 (zz_r ((zz_h s5 7 v2 13) + 1)); (x_endRun_87 v2 0 s6))))))))
set_option maxRecDepth 100000 in
set_option maxHeartbeats 4000000 in
theorem ze_x_endRun_32 (v1 v2 v3 : Int) (σ : zz_S) : x_endRun_32 v1 v2 v3 σ = zz_ev (zz_CE [(32, zw_x_layDown)]) (zz_KE [(87, [(0, 5, true), (2, 9, false), (4, 0, false)], fun vs σ => match vs with | [b0, b1] => x_endRun_87 b0 b1 σ | _ => none)]) zk_x_endRun 999 false 0 0 400 true (zz_sk zk_x_endRun 32) [(0, 5, 1), (1, 12, v1), (2, 9, v2), (3, 0, v3)] [] σ := rfl
noncomputable def x_endRun (v1 : Int) (σ : zz_S) : zz_R := (if v1 = 0 then none else (if (zz_h σ 10 v1 1) = 0 then none else (if v1 = 0 then none else ((xP_kindOf (zz_h σ 7 (zz_h σ 10 v1 1) 0) (zz_h σ 10 v1 2) σ).bind fun q1 => (if q1.1 = (-1) then ((x_act v1 q1.2).bind fun q2 => (x_endRun_32 v1 (zz_h σ 10 v1 1) q2.1 q2.2)) else (x_endRun_32 v1 (zz_h σ 10 v1 1) q1.1 q1.2))))))
set_option maxRecDepth 100000 in
set_option maxHeartbeats 4000000 in
theorem ze_x_endRun (v1 : Int) (σ : zz_S) : x_endRun v1 σ = zz_ev (zz_CE [(29, zw_x_act), (86, zw_xP_kindOf)]) (zz_KE [(32, [(0, 5, true), (1, 12, false), (2, 9, false), (3, 0, false)], fun vs σ => match vs with | [b0, b1, b2] => x_endRun_32 b0 b1 b2 σ | _ => none)]) zk_x_endRun 999 false 0 0 400 true (zz_sk zk_x_endRun 0) [(0, 5, 1), (1, 12, v1)] [] σ := rfl
noncomputable def zw_x_endRun : List Int → zz_S → zz_R := fun vs σ => match vs with
  | [a0, a1] => if a0 = 1 then x_endRun a1 σ else none
  | _ => none
def zk_x_endRuns : List zz_E := [(0, false, .iconst 0, 1, 0, (0, 0, 0, 0), 0, []),
  (1, false, .istore_n 1, 1, 0, (0, 0, 0, 0), 0, []),
  (2, true, .iload_n 1, 1, 0, (0, 0, 0, 0), 0, []),
  (3, false, .bipush 8, 2, 0, (0, 0, 0, 0), 0, []),
  (5, false, .if_icmp .ge 24, 3, 0, (29, 0, 0, 0), 0, []),
  (8, false, .aload_n 0, 1, 0, (0, 0, 0, 0), 0, []),
  (9, false, .invokevirtual 192, 3, 467, (27, 1, 12, 0), 0, [5]),
  (12, false, .astore_n 2, 1, 0, (0, 0, 0, 0), 0, []),
  (13, false, .aload_n 2, 1, 0, (0, 0, 0, 0), 0, []),
  (14, false, .ifnonnull 4, 3, 0, (18, 0, 0, 0), 0, []),
  (17, false, .return_, 1, 0, (0, 0, 0, 0), 0, []),
  (18, false, .aload_n 0, 1, 0, (0, 0, 0, 0), 0, []),
  (19, false, .aload_n 2, 1, 0, (0, 0, 0, 0), 0, []),
  (20, false, .invokevirtual 196, 3, 471, (28, 2, 999, 0), 0, [12, 5]),
  (23, false, .iinc 1 1, 3, 0, (0, 0, 0, 0), 0, []),
  (26, false, .goto (-24), 3, 0, (2, 0, 0, 0), 0, []),
  (29, false, .return_, 1, 0, (0, 0, 0, 0), 0, [])]
noncomputable def x_endRuns_2 : Nat → Int → zz_S → zz_R
  | 0, _, _ => none
  | n + 1, v1, σ => (if v1 < 8 then ((x_firstEnding σ).bind fun q1 => (if q1.1 = 0 then (some (0, q1.2)) else ((x_endRun q1.1 q1.2).bind fun q2 => (x_endRuns_2 n (zz_r (v1 + 1)) q2.2)))) else (some (0, σ)))
set_option maxRecDepth 100000 in
set_option maxHeartbeats 4000000 in
theorem ze_x_endRuns_2 (n : Nat) (v1 : Int) (σ : zz_S) : x_endRuns_2 (n + 1) v1 σ = zz_ev (zz_CE [(27, zw_x_firstEnding), (28, zw_x_endRun)]) (zz_KE [(2, [(0, 5, true), (1, 0, false)], fun vs σ => match vs with | [b0] => x_endRuns_2 n b0 σ | _ => none)]) zk_x_endRuns 999 false 0 0 400 true (zz_sk zk_x_endRuns 2) [(0, 5, 1), (1, 0, v1)] [] σ := rfl
noncomputable def x_endRuns (σ : zz_S) : zz_R := (x_endRuns_2 zz_fu 0 σ)
set_option maxRecDepth 100000 in
set_option maxHeartbeats 4000000 in
theorem ze_x_endRuns (σ : zz_S) : x_endRuns σ = zz_ev (zz_CE []) (zz_KE [(2, [(0, 5, true), (1, 0, false)], fun vs σ => match vs with | [b0] => x_endRuns_2 zz_fu b0 σ | _ => none)]) zk_x_endRuns 999 false 0 0 400 true (zz_sk zk_x_endRuns 0) [(0, 5, 1)] [] σ := rfl
noncomputable def zw_x_endRuns : List Int → zz_S → zz_R := fun vs σ => match vs with
  | [a0] => if a0 = 1 then x_endRuns σ else none
  | _ => none
def zk_xT_step : List zz_E := [(0, false, .aload_n 0, 1, 0, (0, 0, 0, 0), 0, []),
  (1, false, .getfield 75, 3, 304, (7, 3, 0, 0), 0, []),
  (4, false, .iconst 1, 1, 0, (0, 0, 0, 0), 0, []),
  (5, false, .invokestatic 81, 3, 554, (168, 2, 0, 0), 0, [0, 0]),
  (8, false, .ireturn, 1, 0, (0, 0, 0, 0), 0, [])]
noncomputable def xT_step (v0 : Int) (σ : zz_S) : zz_R := (if v0 = 0 then none else ((j_max (zz_h σ 7 v0 3) 1 σ).bind fun q1 => (some (q1.1, q1.2))))
set_option maxRecDepth 100000 in
set_option maxHeartbeats 4000000 in
theorem ze_xT_step (v0 : Int) (σ : zz_S) : xT_step v0 σ = zz_ev (zz_CE [(168, zw_j_max)]) (zz_KE []) zk_xT_step 0 false 0 0 400 true (zz_sk zk_xT_step 0) [(0, 9, v0)] [] σ := rfl
noncomputable def zw_xT_step : List Int → zz_S → zz_R := fun vs σ => match vs with
  | [a0] => xT_step a0 σ
  | _ => none
def zk_j_floorMod : List zz_E := [(0, false, .iload_n 0, 1, 0, (0, 0, 0, 0), 0, []),
  (1, false, .iload_n 1, 1, 0, (0, 0, 0, 0), 0, []),
  (2, false, .irem, 1, 0, (0, 0, 0, 0), 0, []),
  (3, false, .istore_n 2, 1, 0, (0, 0, 0, 0), 0, []),
  (4, false, .iload_n 0, 1, 0, (0, 0, 0, 0), 0, []),
  (5, false, .iload_n 1, 1, 0, (0, 0, 0, 0), 0, []),
  (6, false, .ixor, 1, 0, (0, 0, 0, 0), 0, []),
  (7, false, .ifCond .ge 11, 3, 0, (18, 0, 0, 0), 0, []),
  (10, false, .iload_n 2, 1, 0, (0, 0, 0, 0), 0, []),
  (11, false, .ifCond .eq 7, 3, 0, (18, 0, 0, 0), 0, []),
  (14, false, .iload_n 2, 1, 0, (0, 0, 0, 0), 0, []),
  (15, false, .iload_n 1, 1, 0, (0, 0, 0, 0), 0, []),
  (16, false, .iadd, 1, 0, (0, 0, 0, 0), 0, []),
  (17, false, .ireturn, 1, 0, (0, 0, 0, 0), 0, []),
  (18, false, .iload_n 2, 1, 0, (0, 0, 0, 0), 0, []),
  (19, false, .ireturn, 1, 0, (0, 0, 0, 0), 0, [])]
noncomputable def j_floorMod (v0 v1 : Int) (σ : zz_S) : zz_R := (if v1 = 0 then none else (if (zz_xor v0 v1) < 0 then (if (zz_rem v0 v1) = 0 then (some ((zz_rem v0 v1), σ)) else (some ((zz_r ((zz_rem v0 v1) + v1)), σ))) else (some ((zz_rem v0 v1), σ))))
set_option maxRecDepth 100000 in
set_option maxHeartbeats 4000000 in
theorem ze_j_floorMod (v0 v1 : Int) (σ : zz_S) : j_floorMod v0 v1 σ = zz_ev (zz_CE []) (zz_KE []) zk_j_floorMod 0 false 0 0 400 true (zz_sk zk_j_floorMod 0) [(0, 0, v0), (1, 0, v1)] [] σ := rfl
noncomputable def zw_j_floorMod : List Int → zz_S → zz_R := fun vs σ => match vs with
  | [a0, a1] => j_floorMod a0 a1 σ
  | _ => none
def zk_xC_minuteFits : List zz_E := [(0, false, .aload_n 0, 1, 0, (0, 0, 0, 0), 0, []),
  (1, false, .getfield 17, 3, 255, (8, 1, 1, 0), 0, []),
  (4, false, .iload_n 1, 1, 0, (0, 0, 0, 0), 0, []),
  (5, false, .bipush 60, 2, 0, (0, 0, 0, 0), 0, []),
  (7, false, .irem, 1, 0, (0, 0, 0, 0), 0, []),
  (8, false, .lshr, 1, 0, (0, 0, 0, 0), 0, []),
  (9, false, .lconst 1, 1, 0, (0, 0, 0, 0), 1, []),
  (10, false, .land, 1, 0, (0, 0, 0, 0), 0, []),
  (11, false, .lconst 0, 1, 0, (0, 0, 0, 0), 0, []),
  (12, false, .lcmp, 1, 0, (0, 0, 0, 0), 0, []),
  (13, false, .ifCond .eq 7, 3, 0, (20, 0, 0, 0), 0, []),
  (16, false, .iconst 1, 1, 0, (0, 0, 0, 0), 0, []),
  (17, false, .goto 4, 3, 0, (21, 0, 0, 0), 0, []),
  (20, false, .iconst 0, 1, 0, (0, 0, 0, 0), 0, []),
  (21, false, .ireturn, 1, 0, (0, 0, 0, 0), 0, [])]
noncomputable def xC_minuteFits (v0 v1 : Int) (σ : zz_S) : zz_R := (if v0 = 0 then none else (if (zz_lc (zz_land (zz_lshr (zz_h σ 8 v0 1) (zz_rem v1 60)) 1) 0) = 0 then (some (0, σ)) else (some (1, σ))))
set_option maxRecDepth 100000 in
set_option maxHeartbeats 4000000 in
theorem ze_xC_minuteFits (v0 v1 : Int) (σ : zz_S) : xC_minuteFits v0 v1 σ = zz_ev (zz_CE []) (zz_KE []) zk_xC_minuteFits 0 true 0 0 400 true (zz_sk zk_xC_minuteFits 0) [(0, 10, v0), (1, 0, v1)] [] σ := rfl
noncomputable def zw_xC_minuteFits : List Int → zz_S → zz_R := fun vs σ => match vs with
  | [a0, a1] => xC_minuteFits a0 a1 σ
  | _ => none
def zk_xC_hourFits : List zz_E := [(0, false, .aload_n 0, 1, 0, (0, 0, 0, 0), 0, []),
  (1, false, .getfield 21, 3, 256, (8, 2, 0, 0), 0, []),
  (4, false, .iload_n 1, 1, 0, (0, 0, 0, 0), 0, []),
  (5, false, .bipush 60, 2, 0, (0, 0, 0, 0), 0, []),
  (7, false, .idiv, 1, 0, (0, 0, 0, 0), 0, []),
  (8, false, .bipush 24, 2, 0, (0, 0, 0, 0), 0, []),
  (10, false, .irem, 1, 0, (0, 0, 0, 0), 0, []),
  (11, false, .ishr, 1, 0, (0, 0, 0, 0), 0, []),
  (12, false, .iconst 1, 1, 0, (0, 0, 0, 0), 0, []),
  (13, false, .iand, 1, 0, (0, 0, 0, 0), 0, []),
  (14, false, .ifCond .eq 7, 3, 0, (21, 0, 0, 0), 0, []),
  (17, false, .iconst 1, 1, 0, (0, 0, 0, 0), 0, []),
  (18, false, .goto 4, 3, 0, (22, 0, 0, 0), 0, []),
  (21, false, .iconst 0, 1, 0, (0, 0, 0, 0), 0, []),
  (22, false, .ireturn, 1, 0, (0, 0, 0, 0), 0, [])]
noncomputable def xC_hourFits (v0 v1 : Int) (σ : zz_S) : zz_R := (if v0 = 0 then none else (if (zz_and (zz_shr (zz_h σ 8 v0 2) (zz_rem (zz_div v1 60) 24)) 1) = 0 then (some (0, σ)) else (some (1, σ))))
set_option maxRecDepth 100000 in
set_option maxHeartbeats 4000000 in
theorem ze_xC_hourFits (v0 v1 : Int) (σ : zz_S) : xC_hourFits v0 v1 σ = zz_ev (zz_CE []) (zz_KE []) zk_xC_hourFits 0 true 0 0 400 true (zz_sk zk_xC_hourFits 0) [(0, 10, v0), (1, 0, v1)] [] σ := rfl
noncomputable def zw_xC_hourFits : List Int → zz_S → zz_R := fun vs σ => match vs with
  | [a0, a1] => xC_hourFits a0 a1 σ
  | _ => none
def zk_xC_monthOf : List zz_E := [(0, false, .iconst 0, 1, 0, (0, 0, 0, 0), 0, []),
  (1, false, .istore_n 1, 1, 0, (0, 0, 0, 0), 0, []),
  (2, true, .iload_n 1, 1, 0, (0, 0, 0, 0), 0, []),
  (3, false, .bipush 11, 2, 0, (0, 0, 0, 0), 0, []),
  (5, false, .if_icmp .ge 20, 3, 0, (25, 0, 0, 0), 0, []),
  (8, false, .iload_n 0, 1, 0, (0, 0, 0, 0), 0, []),
  (9, false, .getstatic 66, 3, 577, (1, 0, 0, 0), 0, []),
  (12, false, .iload_n 1, 1, 0, (0, 0, 0, 0), 0, []),
  (13, false, .iconst 1, 1, 0, (0, 0, 0, 0), 0, []),
  (14, false, .iadd, 1, 0, (0, 0, 0, 0), 0, []),
  (15, false, .iaload, 1, 0, (1, 0, 0, 0), 0, []),
  (16, false, .if_icmp .lt 9, 3, 0, (25, 0, 0, 0), 0, []),
  (19, false, .iinc 1 1, 3, 0, (0, 0, 0, 0), 0, []),
  (22, false, .goto (-20), 3, 0, (2, 0, 0, 0), 0, []),
  (25, false, .iload_n 1, 1, 0, (0, 0, 0, 0), 0, []),
  (26, false, .ireturn, 1, 0, (0, 0, 0, 0), 0, [])]
noncomputable def xC_monthOf_2 : Nat → Int → Int → zz_S → zz_R
  | 0, _, _, _ => none
  | n + 1, v0, v1, σ => (if v1 < 11 then (if zz_b σ 1 1 (zz_r (v1 + 1)) then (if v0 < (zz_h σ 1 1 (zz_r (v1 + 1))) then (some (v1, σ)) else (xC_monthOf_2 n v0 (zz_r (v1 + 1)) σ)) else none) else (some (v1, σ)))
set_option maxRecDepth 100000 in
set_option maxHeartbeats 4000000 in
theorem ze_xC_monthOf_2 (n : Nat) (v0 v1 : Int) (σ : zz_S) : xC_monthOf_2 (n + 1) v0 v1 σ = zz_ev (zz_CE []) (zz_KE [(2, [(0, 0, false), (1, 0, false)], fun vs σ => match vs with | [b0, b1] => xC_monthOf_2 n b0 b1 σ | _ => none)]) zk_xC_monthOf 0 false 0 0 400 true (zz_sk zk_xC_monthOf 2) [(0, 0, v0), (1, 0, v1)] [] σ := rfl
noncomputable def xC_monthOf (v0 : Int) (σ : zz_S) : zz_R := (xC_monthOf_2 zz_fu v0 0 σ)
set_option maxRecDepth 100000 in
set_option maxHeartbeats 4000000 in
theorem ze_xC_monthOf (v0 : Int) (σ : zz_S) : xC_monthOf v0 σ = zz_ev (zz_CE []) (zz_KE [(2, [(0, 0, false), (1, 0, false)], fun vs σ => match vs with | [b0, b1] => xC_monthOf_2 zz_fu b0 b1 σ | _ => none)]) zk_xC_monthOf 0 false 0 0 400 true (zz_sk zk_xC_monthOf 0) [(0, 0, v0)] [] σ := rfl
noncomputable def zw_xC_monthOf : List Int → zz_S → zz_R := fun vs σ => match vs with
  | [a0] => xC_monthOf a0 σ
  | _ => none
def zk_xC_dayFits : List zz_E := [(0, false, .aload_n 0, 1, 0, (0, 0, 0, 0), 0, []),
  (1, false, .getfield 24, 3, 257, (8, 3, 0, 0), 0, []),
  (4, false, .iload_n 1, 1, 0, (0, 0, 0, 0), 0, []),
  (5, false, .bipush 7, 2, 0, (0, 0, 0, 0), 0, []),
  (7, false, .irem, 1, 0, (0, 0, 0, 0), 0, []),
  (8, false, .ishr, 1, 0, (0, 0, 0, 0), 0, []),
  (9, false, .iconst 1, 1, 0, (0, 0, 0, 0), 0, []),
  (10, false, .iand, 1, 0, (0, 0, 0, 0), 0, []),
  (11, false, .ifCond .ne 5, 3, 0, (16, 0, 0, 0), 0, []),
  (14, false, .iconst 0, 1, 0, (0, 0, 0, 0), 0, []),
  (15, false, .ireturn, 1, 0, (0, 0, 0, 0), 0, []),
  (16, false, .iload_n 1, 1, 0, (0, 0, 0, 0), 0, []),
  (17, false, .invokestatic 62, 3, 574, (102, 1, 0, 0), 0, [0]),
  (20, false, .istore_n 2, 1, 0, (0, 0, 0, 0), 0, []),
  (21, false, .iload_n 1, 1, 0, (0, 0, 0, 0), 0, []),
  (22, false, .getstatic 66, 3, 577, (1, 0, 0, 0), 0, []),
  (25, false, .iload_n 2, 1, 0, (0, 0, 0, 0), 0, []),
  (26, false, .iaload, 1, 0, (1, 0, 0, 0), 0, []),
  (27, false, .isub, 1, 0, (0, 0, 0, 0), 0, []),
  (28, false, .istore_n 3, 1, 0, (0, 0, 0, 0), 0, []),
  (29, false, .aload_n 0, 1, 0, (0, 0, 0, 0), 0, []),
  (30, false, .getfield 36, 3, 261, (8, 7, 0, 0), 1, []),
  (33, false, .ifCond .eq 18, 3, 0, (51, 0, 0, 0), 0, []),
  (36, false, .iload_n 1, 1, 0, (0, 0, 0, 0), 0, []),
  (37, false, .iconst 1, 1, 0, (0, 0, 0, 0), 0, []),
  (38, false, .iadd, 1, 0, (0, 0, 0, 0), 0, []),
  (39, false, .getstatic 66, 3, 577, (1, 0, 0, 0), 0, []),
  (42, false, .iload_n 2, 1, 0, (0, 0, 0, 0), 0, []),
  (43, false, .iconst 1, 1, 0, (0, 0, 0, 0), 0, []),
  (44, false, .iadd, 1, 0, (0, 0, 0, 0), 0, []),
  (45, false, .iaload, 1, 0, (1, 0, 0, 0), 0, []),
  (46, false, .if_icmp .eq 5, 3, 0, (51, 0, 0, 0), 0, []),
  (49, false, .iconst 0, 1, 0, (0, 0, 0, 0), 0, []),
  (50, false, .ireturn, 1, 0, (0, 0, 0, 0), 0, []),
  (51, true, .aload_n 0, 1, 0, (0, 0, 0, 0), 0, []),
  (52, false, .getfield 33, 3, 260, (8, 6, 0, 0), 0, []),
  (55, false, .iload_n 2, 1, 0, (0, 0, 0, 0), 0, []),
  (56, false, .ishr, 1, 0, (0, 0, 0, 0), 0, []),
  (57, false, .iconst 1, 1, 0, (0, 0, 0, 0), 0, []),
  (58, false, .iand, 1, 0, (0, 0, 0, 0), 0, []),
  (59, false, .ifCond .eq 32, 3, 0, (91, 0, 0, 0), 0, []),
  (62, false, .aload_n 0, 1, 0, (0, 0, 0, 0), 0, []),
  (63, false, .getfield 27, 3, 258, (8, 4, 0, 0), 0, []),
  (66, false, .iload_n 3, 1, 0, (0, 0, 0, 0), 0, []),
  (67, false, .ishr, 1, 0, (0, 0, 0, 0), 0, []),
  (68, false, .iconst 1, 1, 0, (0, 0, 0, 0), 0, []),
  (69, false, .iand, 1, 0, (0, 0, 0, 0), 0, []),
  (70, false, .ifCond .eq 21, 3, 0, (91, 0, 0, 0), 0, []),
  (73, false, .aload_n 0, 1, 0, (0, 0, 0, 0), 0, []),
  (74, false, .getfield 30, 3, 259, (8, 5, 0, 0), 0, []),
  (77, false, .iload_n 3, 1, 0, (0, 0, 0, 0), 0, []),
  (78, false, .bipush 7, 2, 0, (0, 0, 0, 0), 0, []),
  (80, false, .idiv, 1, 0, (0, 0, 0, 0), 0, []),
  (81, false, .ishr, 1, 0, (0, 0, 0, 0), 0, []),
  (82, false, .iconst 1, 1, 0, (0, 0, 0, 0), 0, []),
  (83, false, .iand, 1, 0, (0, 0, 0, 0), 0, []),
  (84, false, .ifCond .eq 7, 3, 0, (91, 0, 0, 0), 0, []),
  (87, false, .iconst 1, 1, 0, (0, 0, 0, 0), 0, []),
  (88, false, .goto 4, 3, 0, (92, 0, 0, 0), 0, []),
  (91, false, .iconst 0, 1, 0, (0, 0, 0, 0), 0, []),
  (92, false, .ireturn, 1, 0, (0, 0, 0, 0), 0, [])]
noncomputable def xC_dayFits_51 (v0 v2 v3 : Int) (σ : zz_S) : zz_R := (if v0 = 0 then none else (if (zz_and (zz_shr (zz_h σ 8 v0 6) v2) 1) = 0 then (some (0, σ)) else (if v0 = 0 then none else (if (zz_and (zz_shr (zz_h σ 8 v0 4) v3) 1) = 0 then (some (0, σ)) else (if v0 = 0 then none else (if (zz_and (zz_shr (zz_h σ 8 v0 5) (zz_div v3 7)) 1) = 0 then (some (0, σ)) else (some (1, σ))))))))
set_option maxRecDepth 100000 in
set_option maxHeartbeats 4000000 in
theorem ze_xC_dayFits_51 (v0 v2 v3 : Int) (σ : zz_S) : xC_dayFits_51 v0 v2 v3 σ = zz_ev (zz_CE []) (zz_KE []) zk_xC_dayFits 0 true 0 0 400 true (zz_sk zk_xC_dayFits 51) [(0, 10, v0), (2, 0, v2), (3, 0, v3)] [] σ := rfl
noncomputable def xC_dayFits (v0 v1 : Int) (σ : zz_S) : zz_R := (if v0 = 0 then none else (if (zz_and (zz_shr (zz_h σ 8 v0 3) (zz_rem v1 7)) 1) = 0 then (some (0, σ)) else ((xC_monthOf v1 σ).bind fun q1 => (if zz_b q1.2 1 1 q1.1 then (if v0 = 0 then none else (if (zz_h q1.2 8 v0 7) = 0 then (xC_dayFits_51 v0 q1.1 (zz_r (v1 - (zz_h q1.2 1 1 q1.1))) q1.2) else (if zz_b q1.2 1 1 (zz_r (q1.1 + 1)) then (if (zz_r (v1 + 1)) = (zz_h q1.2 1 1 (zz_r (q1.1 + 1))) then (xC_dayFits_51 v0 q1.1 (zz_r (v1 - (zz_h q1.2 1 1 q1.1))) q1.2) else (some (0, q1.2))) else none))) else none))))
set_option maxRecDepth 100000 in
set_option maxHeartbeats 4000000 in
theorem ze_xC_dayFits (v0 v1 : Int) (σ : zz_S) : xC_dayFits v0 v1 σ = zz_ev (zz_CE [(102, zw_xC_monthOf)]) (zz_KE [(51, [(0, 10, false), (2, 0, false), (3, 0, false)], fun vs σ => match vs with | [b0, b1, b2] => xC_dayFits_51 b0 b1 b2 σ | _ => none)]) zk_xC_dayFits 0 true 0 0 400 true (zz_sk zk_xC_dayFits 0) [(0, 10, v0), (1, 0, v1)] [] σ := rfl
noncomputable def zw_xC_dayFits : List Int → zz_S → zz_R := fun vs σ => match vs with
  | [a0, a1] => xC_dayFits a0 a1 σ
  | _ => none
def zk_xC_fits : List zz_E := [(0, false, .iload_n 1, 1, 0, (0, 0, 0, 0), 0, []),
  (1, false, .ifCond .lt 35, 3, 0, (36, 0, 0, 0), 0, []),
  (4, false, .aload_n 0, 1, 0, (0, 0, 0, 0), 0, []),
  (5, false, .iload_n 1, 1, 0, (0, 0, 0, 0), 0, []),
  (6, false, .invokevirtual 52, 3, 562, (98, 2, 0, 0), 0, [0, 10]),
  (9, false, .ifCond .eq 27, 3, 0, (36, 0, 0, 0), 0, []),
  (12, false, .aload_n 0, 1, 0, (0, 0, 0, 0), 0, []),
  (13, false, .iload_n 1, 1, 0, (0, 0, 0, 0), 0, []),
  (14, false, .invokevirtual 56, 3, 566, (99, 2, 0, 0), 0, [0, 10]),
  (17, false, .ifCond .eq 19, 3, 0, (36, 0, 0, 0), 0, []),
  (20, false, .aload_n 0, 1, 0, (0, 0, 0, 0), 0, []),
  (21, false, .iload_n 1, 1, 0, (0, 0, 0, 0), 0, []),
  (22, false, .sipush 1440, 3, 0, (0, 0, 0, 0), 0, []),
  (25, false, .idiv, 1, 0, (0, 0, 0, 0), 0, []),
  (26, false, .invokevirtual 59, 3, 570, (100, 2, 0, 0), 0, [0, 10]),
  (29, false, .ifCond .eq 7, 3, 0, (36, 0, 0, 0), 0, []),
  (32, false, .iconst 1, 1, 0, (0, 0, 0, 0), 0, []),
  (33, false, .goto 4, 3, 0, (37, 0, 0, 0), 0, []),
  (36, false, .iconst 0, 1, 0, (0, 0, 0, 0), 0, []),
  (37, false, .ireturn, 1, 0, (0, 0, 0, 0), 0, [])]
noncomputable def xC_fits (v0 v1 : Int) (σ : zz_S) : zz_R := (if v1 < 0 then (some (0, σ)) else (if v0 = 0 then none else ((xC_minuteFits v0 v1 σ).bind fun q1 => (if q1.1 = 0 then (some (0, q1.2)) else (if v0 = 0 then none else ((xC_hourFits v0 v1 q1.2).bind fun q2 => (if q2.1 = 0 then (some (0, q2.2)) else (if v0 = 0 then none else ((xC_dayFits v0 (zz_div v1 1440) q2.2).bind fun q3 => (if q3.1 = 0 then (some (0, q3.2)) else (some (1, q3.2))))))))))))
set_option maxRecDepth 100000 in
set_option maxHeartbeats 4000000 in
theorem ze_xC_fits (v0 v1 : Int) (σ : zz_S) : xC_fits v0 v1 σ = zz_ev (zz_CE [(98, zw_xC_minuteFits), (99, zw_xC_hourFits), (100, zw_xC_dayFits)]) (zz_KE []) zk_xC_fits 0 true 0 0 400 true (zz_sk zk_xC_fits 0) [(0, 10, v0), (1, 0, v1)] [] σ := rfl
noncomputable def zw_xC_fits : List Int → zz_S → zz_R := fun vs σ => match vs with
  | [a0, a1] => xC_fits a0 a1 σ
  | _ => none
def zk_x_isDueByKind : List zz_E := [(0, false, .aload_n 1, 1, 0, (0, 0, 0, 0), 0, []),
  (1, false, .getfield 114, 3, 301, (7, 1, 0, 0), 0, []),
  (4, false, .tableswitch 127 0 3 #[32, 49, 85, 102], 32, 0, (131, 0, 0, 0), 0, [36, 53, 89, 106]),
  (36, false, .aload_n 1, 1, 0, (0, 0, 0, 0), 0, []),
  (37, false, .getfield 292, 3, 303, (7, 2, 0, 0), 0, []),
  (40, false, .aload_n 0, 1, 0, (0, 0, 0, 0), 0, []),
  (41, false, .getfield 78, 3, 179, (3, 16, 0, 0), 0, []),
  (44, false, .if_icmp .ne 7, 3, 0, (51, 0, 0, 0), 0, []),
  (47, false, .iconst 1, 1, 0, (0, 0, 0, 0), 0, []),
  (48, false, .goto 4, 3, 0, (52, 0, 0, 0), 0, []),
  (51, false, .iconst 0, 1, 0, (0, 0, 0, 0), 0, []),
  (52, false, .ireturn, 1, 0, (0, 0, 0, 0), 0, []),
  (53, false, .aload_n 1, 1, 0, (0, 0, 0, 0), 0, []),
  (54, false, .getfield 292, 3, 303, (7, 2, 0, 0), 0, []),
  (57, false, .aload_n 0, 1, 0, (0, 0, 0, 0), 0, []),
  (58, false, .getfield 78, 3, 179, (3, 16, 0, 0), 0, []),
  (61, false, .if_icmp .gt 26, 3, 0, (87, 0, 0, 0), 0, []),
  (64, false, .aload_n 0, 1, 0, (0, 0, 0, 0), 0, []),
  (65, false, .getfield 78, 3, 179, (3, 16, 0, 0), 0, []),
  (68, false, .aload_n 1, 1, 0, (0, 0, 0, 0), 0, []),
  (69, false, .getfield 292, 3, 303, (7, 2, 0, 0), 0, []),
  (72, false, .isub, 1, 0, (0, 0, 0, 0), 0, []),
  (73, false, .aload_n 1, 1, 0, (0, 0, 0, 0), 0, []),
  (74, false, .invokevirtual 295, 3, 550, (91, 1, 0, 0), 0, [9]),
  (77, false, .invokestatic 299, 3, 555, (170, 2, 0, 0), 0, [0, 0]),
  (80, false, .ifCond .ne 7, 3, 0, (87, 0, 0, 0), 0, []),
  (83, false, .iconst 1, 1, 0, (0, 0, 0, 0), 0, []),
  (84, false, .goto 4, 3, 0, (88, 0, 0, 0), 0, []),
  (87, false, .iconst 0, 1, 0, (0, 0, 0, 0), 0, []),
  (88, false, .ireturn, 1, 0, (0, 0, 0, 0), 0, []),
  (89, false, .aload_n 1, 1, 0, (0, 0, 0, 0), 0, []),
  (90, false, .getfield 249, 3, 323, (7, 11, 0, 0), 0, []),
  (93, false, .aload_n 0, 1, 0, (0, 0, 0, 0), 0, []),
  (94, false, .getfield 78, 3, 179, (3, 16, 0, 0), 0, []),
  (97, false, .if_icmp .ne 7, 3, 0, (104, 0, 0, 0), 0, []),
  (100, false, .iconst 1, 1, 0, (0, 0, 0, 0), 0, []),
  (101, false, .goto 4, 3, 0, (105, 0, 0, 0), 0, []),
  (104, false, .iconst 0, 1, 0, (0, 0, 0, 0), 0, []),
  (105, false, .ireturn, 1, 0, (0, 0, 0, 0), 0, []),
  (106, false, .iload_n 2, 1, 0, (0, 0, 0, 0), 0, []),
  (107, false, .aload_n 0, 1, 0, (0, 0, 0, 0), 0, []),
  (108, false, .getfield 84, 3, 181, (3, 18, 0, 0), 0, []),
  (111, false, .if_icmp .le 18, 3, 0, (129, 0, 0, 0), 0, []),
  (114, false, .aload_n 1, 1, 0, (0, 0, 0, 0), 0, []),
  (115, false, .getfield 122, 3, 311, (7, 5, 10, 1), 0, []),
  (118, false, .iload_n 2, 1, 0, (0, 0, 0, 0), 0, []),
  (119, false, .invokevirtual 302, 3, 558, (97, 2, 0, 0), 0, [0, 10]),
  (122, false, .ifCond .eq 7, 3, 0, (129, 0, 0, 0), 0, []),
  (125, false, .iconst 1, 1, 0, (0, 0, 0, 0), 0, []),
  (126, false, .goto 4, 3, 0, (130, 0, 0, 0), 0, []),
  (129, false, .iconst 0, 1, 0, (0, 0, 0, 0), 0, []),
  (130, false, .ireturn, 1, 0, (0, 0, 0, 0), 0, []),
  (131, false, .iconst 0, 1, 0, (0, 0, 0, 0), 0, []),
  (132, false, .ireturn, 1, 0, (0, 0, 0, 0), 0, [])]
noncomputable def x_isDueByKind (v1 v2 : Int) (σ : zz_S) : zz_R := (if v1 = 0 then none else (if (zz_h σ 7 v1 1) = 0 then (if v1 = 0 then none else (if (zz_h σ 7 v1 2) = (zz_h σ 3 1 16) then (some (1, σ)) else (some (0, σ)))) else (if (zz_h σ 7 v1 1) = 1 then (if v1 = 0 then none else (if (zz_h σ 7 v1 2) ≤ (zz_h σ 3 1 16) then (if v1 = 0 then none else (if v1 = 0 then none else ((xT_step v1 σ).bind fun q2 => ((j_floorMod (zz_r ((zz_h σ 3 1 16) - (zz_h σ 7 v1 2))) q2.1 q2.2).bind fun q3 => (if q3.1 = 0 then (some (1, q3.2)) else (some (0, q3.2))))))) else (some (0, σ)))) else (if (zz_h σ 7 v1 1) = 2 then (if v1 = 0 then none else (if (zz_h σ 7 v1 11) = (zz_h σ 3 1 16) then (some (1, σ)) else (some (0, σ)))) else (if (zz_h σ 7 v1 1) = 3 then (if v2 ≤ (zz_h σ 3 1 18) then (some (0, σ)) else (if v1 = 0 then none else (if v1 = 0 then none else ((xC_fits v1 v2 σ).bind fun q1 => (if q1.1 = 0 then (some (0, q1.2)) else (some (1, q1.2))))))) else (some (0, σ)))))))
set_option maxRecDepth 100000 in
set_option maxHeartbeats 4000000 in
theorem ze_x_isDueByKind (v1 v2 : Int) (σ : zz_S) : x_isDueByKind v1 v2 σ = zz_ev (zz_CE [(91, zw_xT_step), (97, zw_xC_fits), (170, zw_j_floorMod)]) (zz_KE []) zk_x_isDueByKind 0 true 0 0 400 true (zz_sk zk_x_isDueByKind 0) [(0, 5, 1), (1, 9, v1), (2, 0, v2)] [] σ := rfl
noncomputable def zw_x_isDueByKind : List Int → zz_S → zz_R := fun vs σ => match vs with
  | [a0, a1, a2] => if a0 = 1 then x_isDueByKind a1 a2 σ else none
  | _ => none
def zk_xT_isFiredFor : List zz_E := [(0, false, .aload_n 0, 1, 0, (0, 0, 0, 0), 0, []),
  (1, false, .getfield 60, 3, 338, (7, 18, 0, 0), 0, []),
  (4, false, .iload_n 1, 1, 0, (0, 0, 0, 0), 0, []),
  (5, false, .if_icmp .eq 11, 3, 0, (16, 0, 0, 0), 0, []),
  (8, false, .aload_n 0, 1, 0, (0, 0, 0, 0), 0, []),
  (9, false, .getfield 63, 3, 339, (7, 19, 0, 0), 0, []),
  (12, false, .iload_n 1, 1, 0, (0, 0, 0, 0), 0, []),
  (13, false, .if_icmp .ne 7, 3, 0, (20, 0, 0, 0), 0, []),
  (16, false, .iconst 1, 1, 0, (0, 0, 0, 0), 0, []),
  (17, false, .goto 4, 3, 0, (21, 0, 0, 0), 0, []),
  (20, false, .iconst 0, 1, 0, (0, 0, 0, 0), 0, []),
  (21, false, .ireturn, 1, 0, (0, 0, 0, 0), 0, [])]
noncomputable def xT_isFiredFor (v0 v1 : Int) (σ : zz_S) : zz_R := (if v0 = 0 then none else (if (zz_h σ 7 v0 18) = v1 then (some (1, σ)) else (if v0 = 0 then none else (if (zz_h σ 7 v0 19) = v1 then (some (1, σ)) else (some (0, σ))))))
set_option maxRecDepth 100000 in
set_option maxHeartbeats 4000000 in
theorem ze_xT_isFiredFor (v0 v1 : Int) (σ : zz_S) : xT_isFiredFor v0 v1 σ = zz_ev (zz_CE []) (zz_KE []) zk_xT_isFiredFor 0 true 0 0 400 true (zz_sk zk_xT_isFiredFor 0) [(0, 9, v0), (1, 0, v1)] [] σ := rfl
noncomputable def zw_xT_isFiredFor : List Int → zz_S → zz_R := fun vs σ => match vs with
  | [a0, a1] => xT_isFiredFor a0 a1 σ
  | _ => none
def zk_x_bringDues : List zz_E := [(0, false, .aload_n 0, 1, 0, (0, 0, 0, 0), 0, []),
  (1, false, .getfield 78, 3, 179, (3, 16, 0, 0), 0, []),
  (4, false, .aload_n 0, 1, 0, (0, 0, 0, 0), 0, []),
  (5, false, .getfield 81, 3, 180, (3, 17, 0, 0), 0, []),
  (8, false, .iadd, 1, 0, (0, 0, 0, 0), 0, []),
  (9, false, .istore_n 1, 1, 0, (0, 0, 0, 0), 0, []),
  (10, false, .iconst 0, 1, 0, (0, 0, 0, 0), 0, []),
  (11, false, .istore_n 2, 1, 0, (0, 0, 0, 0), 0, []),
  (12, true, .iload_n 2, 1, 0, (0, 0, 0, 0), 0, []),
  (13, false, .aload_n 0, 1, 0, (0, 0, 0, 0), 0, []),
  (14, false, .getfield 62, 3, 174, (3, 11, 0, 0), 0, []),
  (17, false, .if_icmp .ge 68, 3, 0, (85, 0, 0, 0), 0, []),
  (20, false, .aload_n 0, 1, 0, (0, 0, 0, 0), 0, []),
  (21, false, .iload_n 2, 1, 0, (0, 0, 0, 0), 0, []),
  (22, false, .invokevirtual 100, 3, 385, (73, 2, 9, 0), 0, [0, 5]),
  (25, false, .astore_n 3, 1, 0, (0, 0, 0, 0), 0, []),
  (26, false, .aload_n 3, 1, 0, (0, 0, 0, 0), 0, []),
  (27, false, .invokestatic 273, 3, 515, (74, 1, 0, 0), 0, [9]),
  (30, false, .ifCond .ne 6, 3, 0, (36, 0, 0, 0), 0, []),
  (33, false, .goto 46, 3, 0, (79, 0, 0, 0), 0, []),
  (36, false, .aload_n 0, 1, 0, (0, 0, 0, 0), 0, []),
  (37, false, .aload_n 3, 1, 0, (0, 0, 0, 0), 0, []),
  (38, false, .iload_n 1, 1, 0, (0, 0, 0, 0), 0, []),
  (39, false, .invokevirtual 284, 3, 546, (35, 3, 0, 0), 0, [0, 9, 5]),
  (42, false, .ifCond .eq 21, 3, 0, (63, 0, 0, 0), 0, []),
  (45, false, .aload_n 3, 1, 0, (0, 0, 0, 0), 0, []),
  (46, false, .getfield 114, 3, 301, (7, 1, 0, 0), 0, []),
  (49, false, .iconst 2, 1, 0, (0, 0, 0, 0), 0, []),
  (50, false, .if_icmp .ne 8, 3, 0, (58, 0, 0, 0), 0, []),
  (53, false, .aload_n 3, 1, 0, (0, 0, 0, 0), 0, []),
  (54, false, .iconst (-1), 1, 0, (0, 0, 0, 0), 0, []),
  (55, false, .putfield 249, 3, 323, (7, 11, 0, 0), 0, []),
  (58, false, .aload_n 0, 1, 0, (0, 0, 0, 0), 0, []),
  (59, false, .aload_n 3, 1, 0, (0, 0, 0, 0), 0, []),
  (60, false, .invokevirtual 280, 3, 522, (36, 2, 999, 0), 0, [9, 5]),
  (63, true, .aload_n 3, 1, 0, (0, 0, 0, 0), 0, []),
  (64, false, .aload_n 0, 1, 0, (0, 0, 0, 0), 0, []),
  (65, false, .getfield 78, 3, 179, (3, 16, 0, 0), 0, []),
  (68, false, .invokevirtual 288, 3, 579, (90, 2, 0, 0), 0, [0, 9]),
  (71, false, .ifCond .eq 8, 3, 0, (79, 0, 0, 0), 0, []),
  (74, false, .aload_n 0, 1, 0, (0, 0, 0, 0), 0, []),
  (75, false, .aload_n 3, 1, 0, (0, 0, 0, 0), 0, []),
  (76, false, .invokevirtual 280, 3, 522, (36, 2, 999, 0), 0, [9, 5]),
  (79, false, .iinc 2 1, 3, 0, (0, 0, 0, 0), 0, []),
  (82, false, .goto (-70), 3, 0, (12, 0, 0, 0), 0, []),
  (85, false, .aload_n 0, 1, 0, (0, 0, 0, 0), 0, []),
  (86, false, .aload_n 0, 1, 0, (0, 0, 0, 0), 0, []),
  (87, false, .getfield 84, 3, 181, (3, 18, 0, 0), 0, []),
  (90, false, .iload_n 1, 1, 0, (0, 0, 0, 0), 0, []),
  (91, false, .invokestatic 258, 3, 510, (168, 2, 0, 0), 0, [0, 0]),
  (94, false, .putfield 84, 3, 181, (3, 18, 0, 0), 0, []),
  (97, false, .return_, 1, 0, (0, 0, 0, 0), 0, [])]
noncomputable def x_bringDues_63 (k12 : Int → Int → zz_S → zz_R) (v1 v2 v3 : Int) (σ : zz_S) : zz_R := (if v3 = 0 then none else ((xT_isFiredFor v3 (zz_h σ 3 1 16) σ).bind fun q1 => (if q1.1 = 0 then (k12 v1 (zz_r (v2 + 1)) q1.2) else ((x_comeDue v3 q1.2).bind fun q2 => (k12 v1 (zz_r (v2 + 1)) q2.2)))))
set_option maxRecDepth 100000 in
set_option maxHeartbeats 4000000 in
theorem ze_x_bringDues_63 (k12 : Int → Int → zz_S → zz_R) (v1 v2 v3 : Int) (σ : zz_S) : x_bringDues_63 k12 v1 v2 v3 σ = zz_ev (zz_CE [(36, zw_x_comeDue), (90, zw_xT_isFiredFor)]) (zz_KE [(12, [(0, 5, true), (1, 0, false), (2, 0, false)], fun vs σ => match vs with | [b0, b1] => k12 b0 b1 σ | _ => none)]) zk_x_bringDues 999 false 0 0 400 true (zz_sk zk_x_bringDues 63) [(0, 5, 1), (1, 0, v1), (2, 0, v2), (3, 9, v3)] [] σ := rfl
noncomputable def x_bringDues_12 : Nat → Int → Int → zz_S → zz_R
  | 0, _, _, _ => none
  | n + 1, v1, v2, σ => (if v2 < (zz_h σ 3 1 11) then ((x_taskAt v2 σ).bind fun q1 => ((x_isActive q1.1 q1.2).bind fun q2 => (if q2.1 = 0 then (x_bringDues_12 n v1 (zz_r (v2 + 1)) q2.2) else ((x_isDueByKind q1.1 v1 q2.2).bind fun q3 => (if q3.1 = 0 then (x_bringDues_63 (x_bringDues_12 n) v1 v2 q1.1 q3.2) else (if q1.1 = 0 then none else (if (zz_h q3.2 7 q1.1 1) = 2 then (if q1.1 = 0 then none else (let s4 := zz_w q3.2 7 q1.1 11 (-1); ((x_comeDue q1.1 s4).bind fun q5 => (x_bringDues_63 (x_bringDues_12 n) v1 v2 q1.1 q5.2)))) else ((x_comeDue q1.1 q3.2).bind fun q6 => (x_bringDues_63 (x_bringDues_12 n) v1 v2 q1.1 q6.2))))))))) else ((j_max (zz_h σ 3 1 18) v1 σ).bind fun q7 => (let s8 := zz_w q7.2 3 1 18 q7.1; (some (0, s8)))))
set_option maxRecDepth 100000 in
set_option maxHeartbeats 4000000 in
theorem ze_x_bringDues_12 (n : Nat) (v1 v2 : Int) (σ : zz_S) : x_bringDues_12 (n + 1) v1 v2 σ = zz_ev (zz_CE [(35, zw_x_isDueByKind), (36, zw_x_comeDue), (73, zw_x_taskAt), (74, zw_x_isActive), (168, zw_j_max)]) (zz_KE [(12, [(0, 5, true), (1, 0, false), (2, 0, false)], fun vs σ => match vs with | [b0, b1] => x_bringDues_12 n b0 b1 σ | _ => none), (63, [(0, 5, true), (1, 0, false), (2, 0, false), (3, 9, false)], fun vs σ => match vs with | [b0, b1, b2] => x_bringDues_63 (x_bringDues_12 n) b0 b1 b2 σ | _ => none)]) zk_x_bringDues 999 false 0 0 400 true (zz_sk zk_x_bringDues 12) [(0, 5, 1), (1, 0, v1), (2, 0, v2)] [] σ := rfl
noncomputable def x_bringDues (σ : zz_S) : zz_R := (x_bringDues_12 zz_fu (zz_r ((zz_h σ 3 1 16) + (zz_h σ 3 1 17))) 0 σ)
set_option maxRecDepth 100000 in
set_option maxHeartbeats 4000000 in
theorem ze_x_bringDues (σ : zz_S) : x_bringDues σ = zz_ev (zz_CE []) (zz_KE [(12, [(0, 5, true), (1, 0, false), (2, 0, false)], fun vs σ => match vs with | [b0, b1] => x_bringDues_12 zz_fu b0 b1 σ | _ => none)]) zk_x_bringDues 999 false 0 0 400 true (zz_sk zk_x_bringDues 0) [(0, 5, 1)] [] σ := rfl
noncomputable def zw_x_bringDues : List Int → zz_S → zz_R := fun vs σ => match vs with
  | [a0] => if a0 = 1 then x_bringDues σ else none
  | _ => none
def zk_x_isMissed : List zz_E := [(0, false, .aload_n 0, 1, 0, (0, 0, 0, 0), 0, []),
  (1, false, .getfield 27, 3, 166, (3, 3, 6, 1), 0, []),
  (4, false, .getfield 331, 3, 106, (4, 2, 23, 1), 0, []),
  (7, false, .iload_n 2, 1, 0, (0, 0, 0, 0), 0, []),
  (8, false, .baload, 1, 0, (21, 0, 0, 0), 0, []),
  (9, false, .ifCond .ne 30, 3, 0, (39, 0, 0, 0), 0, []),
  (12, false, .aload_n 0, 1, 0, (0, 0, 0, 0), 0, []),
  (13, false, .getfield 78, 3, 179, (3, 16, 0, 0), 0, []),
  (16, false, .aload_n 0, 1, 0, (0, 0, 0, 0), 0, []),
  (17, false, .getfield 27, 3, 166, (3, 3, 6, 1), 0, []),
  (20, false, .getfield 334, 3, 104, (4, 1, 22, 1), 0, []),
  (23, false, .iload_n 2, 1, 0, (0, 0, 0, 0), 0, []),
  (24, false, .iaload, 1, 0, (20, 0, 0, 0), 0, []),
  (25, false, .isub, 1, 0, (0, 0, 0, 0), 0, []),
  (26, false, .aload_n 1, 1, 0, (0, 0, 0, 0), 0, []),
  (27, false, .getfield 111, 3, 308, (7, 4, 30, 1), 0, []),
  (30, false, .iconst 0, 1, 0, (0, 0, 0, 0), 0, []),
  (31, false, .iaload, 1, 0, (28, 0, 0, 0), 0, []),
  (32, false, .if_icmp .le 7, 3, 0, (39, 0, 0, 0), 0, []),
  (35, false, .iconst 1, 1, 0, (0, 0, 0, 0), 0, []),
  (36, false, .goto 4, 3, 0, (40, 0, 0, 0), 0, []),
  (39, false, .iconst 0, 1, 0, (0, 0, 0, 0), 0, []),
  (40, false, .ireturn, 1, 0, (0, 0, 0, 0), 0, [])]
noncomputable def x_isMissed (v1 v2 : Int) (σ : zz_S) : zz_R := (if zz_b σ 21 1 v2 then (if (zz_h σ 21 1 v2) = 0 then (if zz_b σ 20 1 v2 then (if v1 = 0 then none else (if v1 = 0 then none else (if zz_b σ 28 v1 0 then (if (zz_r ((zz_h σ 3 1 16) - (zz_h σ 20 1 v2))) ≤ (zz_h σ 28 v1 0) then (some (0, σ)) else (some (1, σ))) else none))) else none) else (some (0, σ))) else none)
set_option maxRecDepth 100000 in
set_option maxHeartbeats 4000000 in
theorem ze_x_isMissed (v1 v2 : Int) (σ : zz_S) : x_isMissed v1 v2 σ = zz_ev (zz_CE []) (zz_KE []) zk_x_isMissed 0 true 0 0 400 true (zz_sk zk_x_isMissed 0) [(0, 5, 1), (1, 9, v1), (2, 0, v2)] [] σ := rfl
noncomputable def zw_x_isMissed : List Int → zz_S → zz_R := fun vs σ => match vs with
  | [a0, a1, a2] => if a0 = 1 then x_isMissed a1 a2 σ else none
  | _ => none
def zk_xD_remove : List zz_E := [(0, false, .iload_n 1, 1, 0, (0, 0, 0, 0), 0, []),
  (1, false, .iconst 0, 1, 0, (0, 0, 0, 0), 0, []),
  (2, false, .aload_n 0, 1, 0, (0, 0, 0, 0), 0, []),
  (3, false, .getfield 25, 3, 107, (4, 3, 0, 0), 0, []),
  (6, false, .iconst 1, 1, 0, (0, 0, 0, 0), 0, []),
  (7, false, .isub, 1, 0, (0, 0, 0, 0), 0, []),
  (8, false, .invokestatic 32, 3, 599, (72, 3, 0, 1), 0, [0, 0, 0]),
  (11, false, .ifCond .ne 4, 3, 0, (15, 0, 0, 0), 0, []),
  (14, false, .return_, 1, 0, (0, 0, 0, 0), 0, []),
  (15, false, .aload_n 0, 1, 0, (0, 0, 0, 0), 0, []),
  (16, false, .getfield 11, 3, 101, (4, 0, 21, 1), 0, []),
  (19, false, .iload_n 1, 1, 0, (0, 0, 0, 0), 0, []),
  (20, false, .aaload, 1, 0, (19, 0, 9, 0), 0, []),
  (21, false, .astore_n 2, 1, 0, (0, 0, 0, 0), 0, []),
  (22, false, .aload_n 2, 1, 0, (0, 0, 0, 0), 0, []),
  (23, false, .ifnull 13, 3, 0, (36, 0, 0, 0), 0, []),
  (26, false, .aload_n 2, 1, 0, (0, 0, 0, 0), 0, []),
  (27, false, .dup, 1, 0, (0, 0, 0, 0), 0, []),
  (28, false, .getfield 29, 3, 334, (7, 16, 0, 0), 0, []),
  (31, false, .iconst 1, 1, 0, (0, 0, 0, 0), 0, []),
  (32, false, .isub, 1, 0, (0, 0, 0, 0), 0, []),
  (33, false, .putfield 29, 3, 334, (7, 16, 0, 0), 0, []),
  (36, false, .iload_n 1, 1, 0, (0, 0, 0, 0), 0, []),
  (37, false, .iconst 1, 1, 0, (0, 0, 0, 0), 0, []),
  (38, false, .iadd, 1, 0, (0, 0, 0, 0), 0, []),
  (39, false, .istore_n 3, 1, 0, (0, 0, 0, 0), 0, []),
  (40, true, .iload_n 3, 1, 0, (0, 0, 0, 0), 0, []),
  (41, false, .aload_n 0, 1, 0, (0, 0, 0, 0), 0, []),
  (42, false, .getfield 25, 3, 107, (4, 3, 0, 0), 0, []),
  (45, false, .if_icmp .ge 51, 3, 0, (96, 0, 0, 0), 0, []),
  (48, false, .aload_n 0, 1, 0, (0, 0, 0, 0), 0, []),
  (49, false, .getfield 11, 3, 101, (4, 0, 21, 1), 0, []),
  (52, false, .iload_n 3, 1, 0, (0, 0, 0, 0), 0, []),
  (53, false, .iconst 1, 1, 0, (0, 0, 0, 0), 0, []),
  (54, false, .isub, 1, 0, (0, 0, 0, 0), 0, []),
  (55, false, .aload_n 0, 1, 0, (0, 0, 0, 0), 0, []),
  (56, false, .getfield 11, 3, 101, (4, 0, 21, 1), 0, []),
  (59, false, .iload_n 3, 1, 0, (0, 0, 0, 0), 0, []),
  (60, false, .aaload, 1, 0, (19, 0, 9, 0), 0, []),
  (61, false, .aastore, 1, 0, (19, 0, 9, 0), 0, []),
  (62, false, .aload_n 0, 1, 0, (0, 0, 0, 0), 0, []),
  (63, false, .getfield 17, 3, 103, (4, 1, 22, 1), 0, []),
  (66, false, .iload_n 3, 1, 0, (0, 0, 0, 0), 0, []),
  (67, false, .iconst 1, 1, 0, (0, 0, 0, 0), 0, []),
  (68, false, .isub, 1, 0, (0, 0, 0, 0), 0, []),
  (69, false, .aload_n 0, 1, 0, (0, 0, 0, 0), 0, []),
  (70, false, .getfield 17, 3, 103, (4, 1, 22, 1), 0, []),
  (73, false, .iload_n 3, 1, 0, (0, 0, 0, 0), 0, []),
  (74, false, .iaload, 1, 0, (20, 0, 0, 0), 0, []),
  (75, false, .iastore, 1, 0, (20, 0, 0, 0), 0, []),
  (76, false, .aload_n 0, 1, 0, (0, 0, 0, 0), 0, []),
  (77, false, .getfield 21, 3, 105, (4, 2, 23, 1), 0, []),
  (80, false, .iload_n 3, 1, 0, (0, 0, 0, 0), 0, []),
  (81, false, .iconst 1, 1, 0, (0, 0, 0, 0), 0, []),
  (82, false, .isub, 1, 0, (0, 0, 0, 0), 0, []),
  (83, false, .aload_n 0, 1, 0, (0, 0, 0, 0), 0, []),
  (84, false, .getfield 21, 3, 105, (4, 2, 23, 1), 0, []),
  (87, false, .iload_n 3, 1, 0, (0, 0, 0, 0), 0, []),
  (88, false, .baload, 1, 0, (21, 0, 0, 0), 0, []),
  (89, false, .bastore, 1, 0, (21, 0, 0, 0), 0, []),
  (90, false, .iinc 3 1, 3, 0, (0, 0, 0, 0), 0, []),
  (93, false, .goto (-53), 3, 0, (40, 0, 0, 0), 0, []),
  (96, false, .aload_n 0, 1, 0, (0, 0, 0, 0), 0, []),
  (97, false, .dup, 1, 0, (0, 0, 0, 0), 0, []),
  (98, false, .getfield 25, 3, 107, (4, 3, 0, 0), 0, []),
  (101, false, .iconst 1, 1, 0, (0, 0, 0, 0), 0, []),
  (102, false, .isub, 1, 0, (0, 0, 0, 0), 0, []),
  (103, false, .putfield 25, 3, 107, (4, 3, 0, 0), 0, []),
  (106, false, .return_, 1, 0, (0, 0, 0, 0), 0, [])]
noncomputable def xD_remove_40 : Nat → Int → zz_S → zz_R
  | 0, _, _ => none
  | n + 1, v3, σ => (if v3 < (zz_h σ 4 1 3) then (if zz_b σ 19 1 v3 then (if zz_b σ 19 1 (zz_r (v3 - 1)) then (if (zz_h σ 19 1 v3) = 0 then none else (let s1 := zz_w σ 19 1 (zz_r (v3 - 1)) (zz_h σ 19 1 v3); (if zz_b s1 20 1 v3 then (if zz_b s1 20 1 (zz_r (v3 - 1)) then (let s2 := zz_w s1 20 1 (zz_r (v3 - 1)) (zz_h s1 20 1 v3); (if zz_b s2 21 1 v3 then (if zz_b s2 21 1 (zz_r (v3 - 1)) then (if zz_o (zz_h s2 21 1 v3) then (let s3 := zz_w s2 21 1 (zz_r (v3 - 1)) (zz_h s2 21 1 v3); (xD_remove_40 n (zz_r (v3 + 1)) s3)) else none) else none) else none)) else none) else none))) else none) else none) else (let s4 := zz_w σ 4 1 3 (zz_r ((zz_h σ 4 1 3) - 1)); (some (0, s4))))
set_option maxRecDepth 100000 in
set_option maxHeartbeats 4000000 in
theorem ze_xD_remove_40 (n : Nat) (v3 : Int) (σ : zz_S) : xD_remove_40 (n + 1) v3 σ = zz_ev (zz_CE []) (zz_KE [(40, [(0, 6, true), (3, 0, false)], fun vs σ => match vs with | [b0] => xD_remove_40 n b0 σ | _ => none)]) zk_xD_remove 999 false 0 0 400 true (zz_sk zk_xD_remove 40) [(0, 6, 1), (3, 0, v3)] [] σ := rfl
noncomputable def xD_remove (v1 : Int) (σ : zz_S) : zz_R := ((x_isWithin v1 0 (zz_r ((zz_h σ 4 1 3) - 1)) σ).bind fun q1 => (if q1.1 = 0 then (some (0, q1.2)) else (if zz_b q1.2 19 1 v1 then (if (zz_h q1.2 19 1 v1) = 0 then (xD_remove_40 zz_fu (zz_r (v1 + 1)) q1.2) else (if (zz_h q1.2 19 1 v1) = 0 then none else (if (zz_h q1.2 19 1 v1) = 0 then none else (let s2 := zz_w q1.2 7 (zz_h q1.2 19 1 v1) 16 (zz_r ((zz_h q1.2 7 (zz_h q1.2 19 1 v1) 16) - 1)); (xD_remove_40 zz_fu (zz_r (v1 + 1)) s2))))) else none)))
set_option maxRecDepth 100000 in
set_option maxHeartbeats 4000000 in
theorem ze_xD_remove (v1 : Int) (σ : zz_S) : xD_remove v1 σ = zz_ev (zz_CE [(72, zw_x_isWithin)]) (zz_KE [(40, [(0, 6, true), (3, 0, false)], fun vs σ => match vs with | [b0] => xD_remove_40 zz_fu b0 σ | _ => none)]) zk_xD_remove 999 false 0 0 400 true (zz_sk zk_xD_remove 0) [(0, 6, 1), (1, 0, v1)] [] σ := rfl
noncomputable def zw_xD_remove : List Int → zz_S → zz_R := fun vs σ => match vs with
  | [a0, a1] => if a0 = 1 then xD_remove a1 σ else none
  | _ => none
def zk_x_missDue : List zz_E := [(0, false, .aload_n 1, 1, 0, (0, 0, 0, 0), 0, []),
  (1, false, .getfield 111, 3, 308, (7, 4, 30, 1), 0, []),
  (4, false, .iconst 4, 1, 0, (0, 0, 0, 0), 0, []),
  (5, false, .iaload, 1, 0, (28, 0, 0, 0), 0, []),
  (6, false, .istore_n 3, 1, 0, (0, 0, 0, 0), 0, []),
  (7, false, .iload_n 3, 1, 0, (0, 0, 0, 0), 0, []),
  (8, false, .iconst 2, 1, 0, (0, 0, 0, 0), 0, []),
  (9, false, .if_icmp .eq 16, 3, 0, (25, 0, 0, 0), 0, []),
  (12, false, .iload_n 3, 1, 0, (0, 0, 0, 0), 0, []),
  (13, false, .iconst 1, 1, 0, (0, 0, 0, 0), 0, []),
  (14, false, .if_icmp .ne 46, 3, 0, (60, 0, 0, 0), 0, []),
  (17, false, .aload_n 1, 1, 0, (0, 0, 0, 0), 0, []),
  (18, false, .getfield 337, 3, 335, (7, 16, 0, 0), 0, []),
  (21, false, .iconst 2, 1, 0, (0, 0, 0, 0), 0, []),
  (22, false, .if_icmp .ge 38, 3, 0, (60, 0, 0, 0), 0, []),
  (25, true, .aload_n 0, 1, 0, (0, 0, 0, 0), 0, []),
  (26, false, .getfield 27, 3, 166, (3, 3, 6, 1), 0, []),
  (29, false, .getfield 331, 3, 106, (4, 2, 23, 1), 0, []),
  (32, false, .iload_n 2, 1, 0, (0, 0, 0, 0), 0, []),
  (33, false, .iconst 1, 1, 0, (0, 0, 0, 0), 0, []),
  (34, false, .bastore, 1, 0, (21, 0, 0, 0), 0, []),
  (35, false, .aload_n 0, 1, 0, (0, 0, 0, 0), 0, []),
  (36, false, .getfield 34, 3, 167, (3, 4, 7, 1), 0, []),
  (39, false, .aload_n 1, 1, 0, (0, 0, 0, 0), 0, []),
  (40, false, .getfield 162, 3, 299, (7, 0, 0, 0), 0, []),
  (43, false, .aload_n 0, 1, 0, (0, 0, 0, 0), 0, []),
  (44, false, .getfield 27, 3, 166, (3, 3, 6, 1), 0, []),
  (47, false, .getfield 334, 3, 104, (4, 1, 22, 1), 0, []),
  (50, false, .iload_n 2, 1, 0, (0, 0, 0, 0), 0, []),
  (51, false, .iaload, 1, 0, (20, 0, 0, 0), 0, []),
  (52, false, .iconst 2, 1, 0, (0, 0, 0, 0), 0, []),
  (53, false, .invokevirtual 314, 3, 534, (82, 4, 999, 0), 0, [0, 0, 0, 7]),
  (56, false, .iload_n 2, 1, 0, (0, 0, 0, 0), 0, []),
  (57, false, .iconst 1, 1, 0, (0, 0, 0, 0), 0, []),
  (58, false, .iadd, 1, 0, (0, 0, 0, 0), 0, []),
  (59, false, .ireturn, 1, 0, (0, 0, 0, 0), 0, []),
  (60, true, .aload_n 0, 1, 0, (0, 0, 0, 0), 0, []),
  (61, false, .getfield 34, 3, 167, (3, 4, 7, 1), 0, []),
  (64, false, .aload_n 1, 1, 0, (0, 0, 0, 0), 0, []),
  (65, false, .getfield 162, 3, 299, (7, 0, 0, 0), 0, []),
  (68, false, .aload_n 0, 1, 0, (0, 0, 0, 0), 0, []),
  (69, false, .getfield 27, 3, 166, (3, 3, 6, 1), 0, []),
  (72, false, .getfield 334, 3, 104, (4, 1, 22, 1), 0, []),
  (75, false, .iload_n 2, 1, 0, (0, 0, 0, 0), 0, []),
  (76, false, .iaload, 1, 0, (20, 0, 0, 0), 0, []),
  (77, false, .iload_n 3, 1, 0, (0, 0, 0, 0), 0, []),
  (78, false, .invokevirtual 314, 3, 534, (82, 4, 999, 0), 0, [0, 0, 0, 7]),
  (81, false, .aload_n 0, 1, 0, (0, 0, 0, 0), 0, []),
  (82, false, .getfield 27, 3, 166, (3, 3, 6, 1), 0, []),
  (85, false, .iload_n 2, 1, 0, (0, 0, 0, 0), 0, []),
  (86, false, .invokevirtual 340, 3, 595, (77, 2, 999, 0), 0, [0, 6]),
  (89, false, .aload_n 0, 1, 0, (0, 0, 0, 0), 0, []),
  (90, false, .aload_n 1, 1, 0, (0, 0, 0, 0), 0, []),
  (91, false, .invokevirtual 315, 3, 538, (38, 2, 999, 0), 0, [9, 5]),
  (94, false, .iload_n 2, 1, 0, (0, 0, 0, 0), 0, []),
  (95, false, .ireturn, 1, 0, (0, 0, 0, 0), 0, [])]
noncomputable def x_missDue_60 (v1 v2 v3 : Int) (σ : zz_S) : zz_R := (if v1 = 0 then none else (if zz_b σ 20 1 v2 then ((xB_add (zz_h σ 7 v1 0) (zz_h σ 20 1 v2) v3 σ).bind fun q1 => ((xD_remove v2 q1.2).bind fun q2 => ((x_pauseAgain v1 q2.2).bind fun q3 => (some (v2, q3.2))))) else none))
set_option maxRecDepth 100000 in
set_option maxHeartbeats 4000000 in
theorem ze_x_missDue_60 (v1 v2 v3 : Int) (σ : zz_S) : x_missDue_60 v1 v2 v3 σ = zz_ev (zz_CE [(38, zw_x_pauseAgain), (77, zw_xD_remove), (82, zw_xB_add)]) (zz_KE []) zk_x_missDue 0 false 0 0 400 true (zz_sk zk_x_missDue 60) [(0, 5, 1), (1, 9, v1), (2, 0, v2), (3, 0, v3)] [] σ := rfl
noncomputable def x_missDue_25 (v1 v2 : Int) (σ : zz_S) : zz_R := (if zz_b σ 21 1 v2 then (let s1 := zz_w σ 21 1 v2 1; (if v1 = 0 then none else (if zz_b s1 20 1 v2 then ((xB_add (zz_h s1 7 v1 0) (zz_h s1 20 1 v2) 2 s1).bind fun q2 => (some ((zz_r (v2 + 1)), q2.2))) else none))) else none)
set_option maxRecDepth 100000 in
set_option maxHeartbeats 4000000 in
theorem ze_x_missDue_25 (v1 v2 : Int) (σ : zz_S) : x_missDue_25 v1 v2 σ = zz_ev (zz_CE [(82, zw_xB_add)]) (zz_KE []) zk_x_missDue 0 false 0 0 400 true (zz_sk zk_x_missDue 25) [(0, 5, 1), (1, 9, v1), (2, 0, v2)] [] σ := rfl
noncomputable def x_missDue (v1 v2 : Int) (σ : zz_S) : zz_R := (if v1 = 0 then none else (if v1 = 0 then none else (if zz_b σ 28 v1 4 then (if (zz_h σ 28 v1 4) = 2 then (x_missDue_25 v1 v2 σ) else (if (zz_h σ 28 v1 4) = 1 then (if v1 = 0 then none else (if (zz_h σ 7 v1 16) < 2 then (x_missDue_25 v1 v2 σ) else (x_missDue_60 v1 v2 (zz_h σ 28 v1 4) σ))) else (x_missDue_60 v1 v2 (zz_h σ 28 v1 4) σ))) else none)))
set_option maxRecDepth 100000 in
set_option maxHeartbeats 4000000 in
theorem ze_x_missDue (v1 v2 : Int) (σ : zz_S) : x_missDue v1 v2 σ = zz_ev (zz_CE []) (zz_KE [(25, [(0, 5, true), (1, 9, false), (2, 0, false)], fun vs σ => match vs with | [b0, b1] => x_missDue_25 b0 b1 σ | _ => none), (60, [(0, 5, true), (1, 9, false), (2, 0, false), (3, 0, false)], fun vs σ => match vs with | [b0, b1, b2] => x_missDue_60 b0 b1 b2 σ | _ => none)]) zk_x_missDue 0 false 0 0 400 true (zz_sk zk_x_missDue 0) [(0, 5, 1), (1, 9, v1), (2, 0, v2)] [] σ := rfl
noncomputable def zw_x_missDue : List Int → zz_S → zz_R := fun vs σ => match vs with
  | [a0, a1, a2] => if a0 = 1 then x_missDue a1 a2 σ else none
  | _ => none
def zk_x_missDues : List zz_E := [(0, false, .iconst 0, 1, 0, (0, 0, 0, 0), 0, []),
  (1, false, .istore_n 1, 1, 0, (0, 0, 0, 0), 0, []),
  (2, false, .iconst 0, 1, 0, (0, 0, 0, 0), 0, []),
  (3, false, .istore_n 2, 1, 0, (0, 0, 0, 0), 0, []),
  (4, true, .iload_n 2, 1, 0, (0, 0, 0, 0), 0, []),
  (5, false, .bipush 100, 2, 0, (0, 0, 0, 0), 0, []),
  (7, false, .if_icmp .ge 56, 3, 0, (63, 0, 0, 0), 0, []),
  (10, false, .iload_n 1, 1, 0, (0, 0, 0, 0), 0, []),
  (11, false, .aload_n 0, 1, 0, (0, 0, 0, 0), 0, []),
  (12, false, .getfield 27, 3, 166, (3, 3, 6, 1), 0, []),
  (15, false, .getfield 318, 3, 108, (4, 3, 0, 0), 0, []),
  (18, false, .if_icmp .ge 45, 3, 0, (63, 0, 0, 0), 0, []),
  (21, false, .aload_n 0, 1, 0, (0, 0, 0, 0), 0, []),
  (22, false, .getfield 27, 3, 166, (3, 3, 6, 1), 0, []),
  (25, false, .getfield 322, 3, 102, (4, 0, 21, 1), 0, []),
  (28, false, .iload_n 1, 1, 0, (0, 0, 0, 0), 0, []),
  (29, false, .aaload, 1, 0, (19, 0, 9, 0), 0, []),
  (30, false, .astore_n 3, 1, 0, (0, 0, 0, 0), 0, []),
  (31, false, .aload_n 3, 1, 0, (0, 0, 0, 0), 0, []),
  (32, false, .ifnull 22, 3, 0, (54, 0, 0, 0), 0, []),
  (35, false, .aload_n 0, 1, 0, (0, 0, 0, 0), 0, []),
  (36, false, .aload_n 3, 1, 0, (0, 0, 0, 0), 0, []),
  (37, false, .iload_n 1, 1, 0, (0, 0, 0, 0), 0, []),
  (38, false, .invokevirtual 324, 3, 587, (40, 3, 0, 0), 0, [0, 9, 5]),
  (41, false, .ifCond .eq 13, 3, 0, (54, 0, 0, 0), 0, []),
  (44, false, .aload_n 0, 1, 0, (0, 0, 0, 0), 0, []),
  (45, false, .aload_n 3, 1, 0, (0, 0, 0, 0), 0, []),
  (46, false, .iload_n 1, 1, 0, (0, 0, 0, 0), 0, []),
  (47, false, .invokevirtual 327, 3, 591, (41, 3, 0, 0), 0, [0, 9, 5]),
  (50, false, .istore_n 1, 1, 0, (0, 0, 0, 0), 0, []),
  (51, false, .goto 6, 3, 0, (57, 0, 0, 0), 0, []),
  (54, false, .iinc 1 1, 3, 0, (0, 0, 0, 0), 0, []),
  (57, false, .iinc 2 1, 3, 0, (0, 0, 0, 0), 0, []),
  (60, false, .goto (-56), 3, 0, (4, 0, 0, 0), 0, []),
  (63, false, .return_, 1, 0, (0, 0, 0, 0), 0, [])]
noncomputable def x_missDues_4 : Nat → Int → Int → zz_S → zz_R
  | 0, _, _, _ => none
  | n + 1, v1, v2, σ => (if v2 < 100 then (if v1 < (zz_h σ 4 1 3) then (if zz_b σ 19 1 v1 then (if (zz_h σ 19 1 v1) = 0 then (x_missDues_4 n (zz_r (v1 + 1)) (zz_r (v2 + 1)) σ) else ((x_isMissed (zz_h σ 19 1 v1) v1 σ).bind fun q1 => (if q1.1 = 0 then (x_missDues_4 n (zz_r (v1 + 1)) (zz_r (v2 + 1)) q1.2) else ((x_missDue (zz_h σ 19 1 v1) v1 q1.2).bind fun q2 => (x_missDues_4 n q2.1 (zz_r (v2 + 1)) q2.2))))) else none) else (some (0, σ))) else (some (0, σ)))
set_option maxRecDepth 100000 in
set_option maxHeartbeats 4000000 in
theorem ze_x_missDues_4 (n : Nat) (v1 v2 : Int) (σ : zz_S) : x_missDues_4 (n + 1) v1 v2 σ = zz_ev (zz_CE [(40, zw_x_isMissed), (41, zw_x_missDue)]) (zz_KE [(4, [(0, 5, true), (1, 0, false), (2, 0, false)], fun vs σ => match vs with | [b0, b1] => x_missDues_4 n b0 b1 σ | _ => none)]) zk_x_missDues 999 false 0 0 400 true (zz_sk zk_x_missDues 4) [(0, 5, 1), (1, 0, v1), (2, 0, v2)] [] σ := rfl
noncomputable def x_missDues (σ : zz_S) : zz_R := (x_missDues_4 zz_fu 0 0 σ)
set_option maxRecDepth 100000 in
set_option maxHeartbeats 4000000 in
theorem ze_x_missDues (σ : zz_S) : x_missDues σ = zz_ev (zz_CE []) (zz_KE [(4, [(0, 5, true), (1, 0, false), (2, 0, false)], fun vs σ => match vs with | [b0, b1] => x_missDues_4 zz_fu b0 b1 σ | _ => none)]) zk_x_missDues 999 false 0 0 400 true (zz_sk zk_x_missDues 0) [(0, 5, 1)] [] σ := rfl
noncomputable def zw_x_missDues : List Int → zz_S → zz_R := fun vs σ => match vs with
  | [a0] => if a0 = 1 then x_missDues σ else none
  | _ => none
def zk_x_freeWorker : List zz_E := [(0, false, .iconst 0, 1, 0, (0, 0, 0, 0), 0, []),
  (1, false, .istore_n 1, 1, 0, (0, 0, 0, 0), 0, []),
  (2, true, .iload_n 1, 1, 0, (0, 0, 0, 0), 0, []),
  (3, false, .aload_n 0, 1, 0, (0, 0, 0, 0), 0, []),
  (4, false, .getfield 75, 3, 178, (3, 15, 0, 0), 0, []),
  (7, false, .if_icmp .ge 20, 3, 0, (27, 0, 0, 0), 0, []),
  (10, false, .aload_n 0, 1, 0, (0, 0, 0, 0), 0, []),
  (11, false, .getfield 52, 3, 171, (3, 8, 18, 1), 0, []),
  (14, false, .iload_n 1, 1, 0, (0, 0, 0, 0), 0, []),
  (15, false, .baload, 1, 0, (16, 0, 0, 0), 0, []),
  (16, false, .ifCond .ne 5, 3, 0, (21, 0, 0, 0), 0, []),
  (19, false, .iload_n 1, 1, 0, (0, 0, 0, 0), 0, []),
  (20, false, .ireturn, 1, 0, (0, 0, 0, 0), 0, []),
  (21, false, .iinc 1 1, 3, 0, (0, 0, 0, 0), 0, []),
  (24, false, .goto (-22), 3, 0, (2, 0, 0, 0), 0, []),
  (27, false, .iconst (-1), 1, 0, (0, 0, 0, 0), 0, []),
  (28, false, .ireturn, 1, 0, (0, 0, 0, 0), 0, [])]
noncomputable def x_freeWorker_2 : Nat → Int → zz_S → zz_R
  | 0, _, _ => none
  | n + 1, v1, σ => (if v1 < (zz_h σ 3 1 15) then (if zz_b σ 16 1 v1 then (if (zz_h σ 16 1 v1) = 0 then (some (v1, σ)) else (x_freeWorker_2 n (zz_r (v1 + 1)) σ)) else none) else (some ((-1), σ)))
set_option maxRecDepth 100000 in
set_option maxHeartbeats 4000000 in
theorem ze_x_freeWorker_2 (n : Nat) (v1 : Int) (σ : zz_S) : x_freeWorker_2 (n + 1) v1 σ = zz_ev (zz_CE []) (zz_KE [(2, [(0, 5, true), (1, 0, false)], fun vs σ => match vs with | [b0] => x_freeWorker_2 n b0 σ | _ => none)]) zk_x_freeWorker 0 false 0 0 400 true (zz_sk zk_x_freeWorker 2) [(0, 5, 1), (1, 0, v1)] [] σ := rfl
noncomputable def x_freeWorker (σ : zz_S) : zz_R := (x_freeWorker_2 zz_fu 0 σ)
set_option maxRecDepth 100000 in
set_option maxHeartbeats 4000000 in
theorem ze_x_freeWorker (σ : zz_S) : x_freeWorker σ = zz_ev (zz_CE []) (zz_KE [(2, [(0, 5, true), (1, 0, false)], fun vs σ => match vs with | [b0] => x_freeWorker_2 zz_fu b0 σ | _ => none)]) zk_x_freeWorker 0 false 0 0 400 true (zz_sk zk_x_freeWorker 0) [(0, 5, 1)] [] σ := rfl
noncomputable def zw_x_freeWorker : List Int → zz_S → zz_R := fun vs σ => match vs with
  | [a0] => if a0 = 1 then x_freeWorker σ else none
  | _ => none
def zk_x_workIn : List zz_E := [(0, false, .iconst 0, 1, 0, (0, 0, 0, 0), 0, []),
  (1, false, .istore_n 2, 1, 0, (0, 0, 0, 0), 0, []),
  (2, false, .iconst 0, 1, 0, (0, 0, 0, 0), 0, []),
  (3, false, .istore_n 3, 1, 0, (0, 0, 0, 0), 0, []),
  (4, true, .iload_n 3, 1, 0, (0, 0, 0, 0), 0, []),
  (5, false, .aload_n 0, 1, 0, (0, 0, 0, 0), 0, []),
  (6, false, .getfield 69, 3, 176, (3, 13, 0, 0), 0, []),
  (9, false, .if_icmp .ge 34, 3, 0, (43, 0, 0, 0), 0, []),
  (12, false, .aload_n 0, 1, 0, (0, 0, 0, 0), 0, []),
  (13, false, .getfield 21, 3, 165, (3, 2, 15, 1), 0, []),
  (16, false, .iload_n 3, 1, 0, (0, 0, 0, 0), 0, []),
  (17, false, .aaload, 1, 0, (13, 0, 12, 0), 0, []),
  (18, false, .astore 4, 2, 0, (0, 0, 0, 0), 0, []),
  (20, false, .aload 4, 2, 0, (0, 0, 0, 0), 0, []),
  (22, false, .ifnull 15, 3, 0, (37, 0, 0, 0), 0, []),
  (25, false, .aload 4, 2, 0, (0, 0, 0, 0), 0, []),
  (27, false, .getfield 361, 3, 648, (10, 7, 0, 0), 0, []),
  (30, false, .iload_n 1, 1, 0, (0, 0, 0, 0), 0, []),
  (31, false, .if_icmp .ne 6, 3, 0, (37, 0, 0, 0), 0, []),
  (34, false, .iinc 2 1, 3, 0, (0, 0, 0, 0), 0, []),
  (37, false, .iinc 3 1, 3, 0, (0, 0, 0, 0), 0, []),
  (40, false, .goto (-36), 3, 0, (4, 0, 0, 0), 0, []),
  (43, false, .iload_n 2, 1, 0, (0, 0, 0, 0), 0, []),
  (44, false, .ireturn, 1, 0, (0, 0, 0, 0), 0, [])]
noncomputable def x_workIn_4 : Nat → Int → Int → Int → zz_S → zz_R
  | 0, _, _, _, _ => none
  | n + 1, v1, v2, v3, σ => (if v3 < (zz_h σ 3 1 13) then (if zz_b σ 13 1 v3 then (if (zz_h σ 13 1 v3) = 0 then (x_workIn_4 n v1 v2 (zz_r (v3 + 1)) σ) else (if (zz_h σ 13 1 v3) = 0 then none else (if (zz_h σ 10 (zz_h σ 13 1 v3) 7) = v1 then (x_workIn_4 n v1 (zz_r (v2 + 1)) (zz_r (v3 + 1)) σ) else (x_workIn_4 n v1 v2 (zz_r (v3 + 1)) σ)))) else none) else (some (v2, σ)))
set_option maxRecDepth 100000 in
set_option maxHeartbeats 4000000 in
theorem ze_x_workIn_4 (n : Nat) (v1 v2 v3 : Int) (σ : zz_S) : x_workIn_4 (n + 1) v1 v2 v3 σ = zz_ev (zz_CE []) (zz_KE [(4, [(0, 5, true), (1, 0, false), (2, 0, false), (3, 0, false)], fun vs σ => match vs with | [b0, b1, b2] => x_workIn_4 n b0 b1 b2 σ | _ => none)]) zk_x_workIn 0 false 0 0 400 true (zz_sk zk_x_workIn 4) [(0, 5, 1), (1, 0, v1), (2, 0, v2), (3, 0, v3)] [] σ := rfl
noncomputable def x_workIn (v1 : Int) (σ : zz_S) : zz_R := (x_workIn_4 zz_fu v1 0 0 σ)
set_option maxRecDepth 100000 in
set_option maxHeartbeats 4000000 in
theorem ze_x_workIn (v1 : Int) (σ : zz_S) : x_workIn v1 σ = zz_ev (zz_CE []) (zz_KE [(4, [(0, 5, true), (1, 0, false), (2, 0, false), (3, 0, false)], fun vs σ => match vs with | [b0, b1, b2] => x_workIn_4 zz_fu b0 b1 b2 σ | _ => none)]) zk_x_workIn 0 false 0 0 400 true (zz_sk zk_x_workIn 0) [(0, 5, 1), (1, 0, v1)] [] σ := rfl
noncomputable def zw_x_workIn : List Int → zz_S → zz_R := fun vs σ => match vs with
  | [a0, a1] => if a0 = 1 then x_workIn a1 σ else none
  | _ => none
def zk_x_mayBegin : List zz_E := [(0, false, .aload_n 1, 1, 0, (0, 0, 0, 0), 0, []),
  (1, false, .ifnull 20, 3, 0, (21, 0, 0, 0), 0, []),
  (4, false, .aload_n 1, 1, 0, (0, 0, 0, 0), 0, []),
  (5, false, .getfield 111, 3, 308, (7, 4, 30, 1), 0, []),
  (8, false, .iconst 3, 1, 0, (0, 0, 0, 0), 0, []),
  (9, false, .iaload, 1, 0, (28, 0, 0, 0), 0, []),
  (10, false, .iconst 2, 1, 0, (0, 0, 0, 0), 0, []),
  (11, false, .if_icmp .eq 12, 3, 0, (23, 0, 0, 0), 0, []),
  (14, false, .aload_n 1, 1, 0, (0, 0, 0, 0), 0, []),
  (15, false, .getfield 264, 3, 332, (7, 15, 0, 0), 0, []),
  (18, false, .ifCond .le 5, 3, 0, (23, 0, 0, 0), 0, []),
  (21, false, .iconst 0, 1, 0, (0, 0, 0, 0), 0, []),
  (22, false, .ireturn, 1, 0, (0, 0, 0, 0), 0, []),
  (23, true, .aload_n 1, 1, 0, (0, 0, 0, 0), 0, []),
  (24, false, .getfield 111, 3, 308, (7, 4, 30, 1), 0, []),
  (27, false, .iconst 2, 1, 0, (0, 0, 0, 0), 0, []),
  (28, false, .iaload, 1, 0, (28, 0, 0, 0), 0, []),
  (29, false, .istore_n 2, 1, 0, (0, 0, 0, 0), 0, []),
  (30, false, .iload_n 2, 1, 0, (0, 0, 0, 0), 0, []),
  (31, false, .iconst 0, 1, 0, (0, 0, 0, 0), 0, []),
  (32, false, .aload_n 0, 1, 0, (0, 0, 0, 0), 0, []),
  (33, false, .getfield 72, 3, 177, (3, 14, 0, 0), 0, []),
  (36, false, .iconst 1, 1, 0, (0, 0, 0, 0), 0, []),
  (37, false, .isub, 1, 0, (0, 0, 0, 0), 0, []),
  (38, false, .invokestatic 91, 3, 228, (72, 3, 0, 0), 0, [0, 0, 0]),
  (41, false, .ifCond .eq 17, 3, 0, (58, 0, 0, 0), 0, []),
  (44, false, .aload_n 0, 1, 0, (0, 0, 0, 0), 0, []),
  (45, false, .iload_n 2, 1, 0, (0, 0, 0, 0), 0, []),
  (46, false, .invokevirtual 358, 3, 616, (46, 2, 0, 0), 0, [0, 5]),
  (49, false, .aload_n 0, 1, 0, (0, 0, 0, 0), 0, []),
  (50, false, .getfield 45, 3, 169, (3, 6, 16, 1), 0, []),
  (53, false, .iload_n 2, 1, 0, (0, 0, 0, 0), 0, []),
  (54, false, .iaload, 1, 0, (14, 0, 0, 0), 0, []),
  (55, false, .if_icmp .ge 7, 3, 0, (62, 0, 0, 0), 0, []),
  (58, false, .iconst 1, 1, 0, (0, 0, 0, 0), 0, []),
  (59, false, .goto 4, 3, 0, (63, 0, 0, 0), 0, []),
  (62, false, .iconst 0, 1, 0, (0, 0, 0, 0), 0, []),
  (63, false, .ireturn, 1, 0, (0, 0, 0, 0), 0, [])]
noncomputable def x_mayBegin_23 (v1 : Int) (σ : zz_S) : zz_R := (if v1 = 0 then none else (if v1 = 0 then none else (if zz_b σ 28 v1 2 then ((x_isWithin (zz_h σ 28 v1 2) 0 (zz_r ((zz_h σ 3 1 14) - 1)) σ).bind fun q1 => (if q1.1 = 0 then (some (1, q1.2)) else ((x_workIn (zz_h σ 28 v1 2) q1.2).bind fun q2 => (if zz_b q2.2 14 1 (zz_h σ 28 v1 2) then (if q2.1 < (zz_h q2.2 14 1 (zz_h σ 28 v1 2)) then (some (1, q2.2)) else (some (0, q2.2))) else none)))) else none)))
set_option maxRecDepth 100000 in
set_option maxHeartbeats 4000000 in
theorem ze_x_mayBegin_23 (v1 : Int) (σ : zz_S) : x_mayBegin_23 v1 σ = zz_ev (zz_CE [(46, zw_x_workIn), (72, zw_x_isWithin)]) (zz_KE []) zk_x_mayBegin 0 true 0 0 400 true (zz_sk zk_x_mayBegin 23) [(0, 5, 1), (1, 9, v1)] [] σ := rfl
noncomputable def x_mayBegin (v1 : Int) (σ : zz_S) : zz_R := (if v1 = 0 then (some (0, σ)) else (if v1 = 0 then none else (if v1 = 0 then none else (if zz_b σ 28 v1 3 then (if (zz_h σ 28 v1 3) = 2 then (x_mayBegin_23 v1 σ) else (if v1 = 0 then none else (if (zz_h σ 7 v1 15) ≤ 0 then (x_mayBegin_23 v1 σ) else (some (0, σ))))) else none))))
set_option maxRecDepth 100000 in
set_option maxHeartbeats 4000000 in
theorem ze_x_mayBegin (v1 : Int) (σ : zz_S) : x_mayBegin v1 σ = zz_ev (zz_CE []) (zz_KE [(23, [(0, 5, true), (1, 9, false)], fun vs σ => match vs with | [b0] => x_mayBegin_23 b0 σ | _ => none)]) zk_x_mayBegin 0 true 0 0 400 true (zz_sk zk_x_mayBegin 0) [(0, 5, 1), (1, 9, v1)] [] σ := rfl
noncomputable def zw_x_mayBegin : List Int → zz_S → zz_R := fun vs σ => match vs with
  | [a0, a1] => if a0 = 1 then x_mayBegin a1 σ else none
  | _ => none
def zk_xD_isAhead : List zz_E := [(0, false, .aload_n 0, 1, 0, (0, 0, 0, 0), 0, []),
  (1, false, .getfield 11, 3, 101, (4, 0, 21, 1), 0, []),
  (4, false, .iload_n 1, 1, 0, (0, 0, 0, 0), 0, []),
  (5, false, .aaload, 1, 0, (19, 0, 9, 0), 0, []),
  (6, false, .astore_n 3, 1, 0, (0, 0, 0, 0), 0, []),
  (7, false, .aload_n 0, 1, 0, (0, 0, 0, 0), 0, []),
  (8, false, .getfield 11, 3, 101, (4, 0, 21, 1), 0, []),
  (11, false, .iload_n 2, 1, 0, (0, 0, 0, 0), 0, []),
  (12, false, .aaload, 1, 0, (19, 0, 9, 0), 0, []),
  (13, false, .astore 4, 2, 0, (0, 0, 0, 0), 0, []),
  (15, false, .aload_n 3, 1, 0, (0, 0, 0, 0), 0, []),
  (16, false, .ifnull 8, 3, 0, (24, 0, 0, 0), 0, []),
  (19, false, .aload 4, 2, 0, (0, 0, 0, 0), 0, []),
  (21, false, .ifnonnull 5, 3, 0, (26, 0, 0, 0), 0, []),
  (24, false, .iconst 0, 1, 0, (0, 0, 0, 0), 0, []),
  (25, false, .ireturn, 1, 0, (0, 0, 0, 0), 0, []),
  (26, false, .aload_n 3, 1, 0, (0, 0, 0, 0), 0, []),
  (27, false, .getfield 36, 3, 309, (7, 4, 30, 1), 0, []),
  (30, false, .iconst 1, 1, 0, (0, 0, 0, 0), 0, []),
  (31, false, .iaload, 1, 0, (28, 0, 0, 0), 0, []),
  (32, false, .aload 4, 2, 0, (0, 0, 0, 0), 0, []),
  (34, false, .getfield 36, 3, 309, (7, 4, 30, 1), 0, []),
  (37, false, .iconst 1, 1, 0, (0, 0, 0, 0), 0, []),
  (38, false, .iaload, 1, 0, (28, 0, 0, 0), 0, []),
  (39, false, .if_icmp .eq 25, 3, 0, (64, 0, 0, 0), 0, []),
  (42, false, .aload_n 3, 1, 0, (0, 0, 0, 0), 0, []),
  (43, false, .getfield 36, 3, 309, (7, 4, 30, 1), 0, []),
  (46, false, .iconst 1, 1, 0, (0, 0, 0, 0), 0, []),
  (47, false, .iaload, 1, 0, (28, 0, 0, 0), 0, []),
  (48, false, .aload 4, 2, 0, (0, 0, 0, 0), 0, []),
  (50, false, .getfield 36, 3, 309, (7, 4, 30, 1), 0, []),
  (53, false, .iconst 1, 1, 0, (0, 0, 0, 0), 0, []),
  (54, false, .iaload, 1, 0, (28, 0, 0, 0), 0, []),
  (55, false, .if_icmp .le 7, 3, 0, (62, 0, 0, 0), 0, []),
  (58, false, .iconst 1, 1, 0, (0, 0, 0, 0), 0, []),
  (59, false, .goto 4, 3, 0, (63, 0, 0, 0), 0, []),
  (62, false, .iconst 0, 1, 0, (0, 0, 0, 0), 0, []),
  (63, false, .ireturn, 1, 0, (0, 0, 0, 0), 0, []),
  (64, false, .aload_n 0, 1, 0, (0, 0, 0, 0), 0, []),
  (65, false, .getfield 17, 3, 103, (4, 1, 22, 1), 0, []),
  (68, false, .iload_n 1, 1, 0, (0, 0, 0, 0), 0, []),
  (69, false, .iaload, 1, 0, (20, 0, 0, 0), 0, []),
  (70, false, .aload_n 0, 1, 0, (0, 0, 0, 0), 0, []),
  (71, false, .getfield 17, 3, 103, (4, 1, 22, 1), 0, []),
  (74, false, .iload_n 2, 1, 0, (0, 0, 0, 0), 0, []),
  (75, false, .iaload, 1, 0, (20, 0, 0, 0), 0, []),
  (76, false, .if_icmp .eq 24, 3, 0, (100, 0, 0, 0), 0, []),
  (79, false, .aload_n 0, 1, 0, (0, 0, 0, 0), 0, []),
  (80, false, .getfield 17, 3, 103, (4, 1, 22, 1), 0, []),
  (83, false, .iload_n 1, 1, 0, (0, 0, 0, 0), 0, []),
  (84, false, .iaload, 1, 0, (20, 0, 0, 0), 0, []),
  (85, false, .aload_n 0, 1, 0, (0, 0, 0, 0), 0, []),
  (86, false, .getfield 17, 3, 103, (4, 1, 22, 1), 0, []),
  (89, false, .iload_n 2, 1, 0, (0, 0, 0, 0), 0, []),
  (90, false, .iaload, 1, 0, (20, 0, 0, 0), 0, []),
  (91, false, .if_icmp .ge 7, 3, 0, (98, 0, 0, 0), 0, []),
  (94, false, .iconst 1, 1, 0, (0, 0, 0, 0), 0, []),
  (95, false, .goto 4, 3, 0, (99, 0, 0, 0), 0, []),
  (98, false, .iconst 0, 1, 0, (0, 0, 0, 0), 0, []),
  (99, false, .ireturn, 1, 0, (0, 0, 0, 0), 0, []),
  (100, false, .aload_n 3, 1, 0, (0, 0, 0, 0), 0, []),
  (101, false, .getfield 39, 3, 298, (7, 0, 0, 0), 0, []),
  (104, false, .aload 4, 2, 0, (0, 0, 0, 0), 0, []),
  (106, false, .getfield 39, 3, 298, (7, 0, 0, 0), 0, []),
  (109, false, .if_icmp .ge 7, 3, 0, (116, 0, 0, 0), 0, []),
  (112, false, .iconst 1, 1, 0, (0, 0, 0, 0), 0, []),
  (113, false, .goto 4, 3, 0, (117, 0, 0, 0), 0, []),
  (116, false, .iconst 0, 1, 0, (0, 0, 0, 0), 0, []),
  (117, false, .ireturn, 1, 0, (0, 0, 0, 0), 0, [])]
noncomputable def xD_isAhead (v1 v2 : Int) (σ : zz_S) : zz_R := (if zz_b σ 19 1 v1 then (if zz_b σ 19 1 v2 then (if (zz_h σ 19 1 v1) = 0 then (some (0, σ)) else (if (zz_h σ 19 1 v2) = 0 then (some (0, σ)) else (if (zz_h σ 19 1 v1) = 0 then none else (if (zz_h σ 19 1 v1) = 0 then none else (if zz_b σ 28 (zz_h σ 19 1 v1) 1 then (if (zz_h σ 19 1 v2) = 0 then none else (if (zz_h σ 19 1 v2) = 0 then none else (if zz_b σ 28 (zz_h σ 19 1 v2) 1 then (if (zz_h σ 28 (zz_h σ 19 1 v1) 1) = (zz_h σ 28 (zz_h σ 19 1 v2) 1) then (if zz_b σ 20 1 v1 then (if zz_b σ 20 1 v2 then (if (zz_h σ 20 1 v1) = (zz_h σ 20 1 v2) then (if (zz_h σ 19 1 v1) = 0 then none else (if (zz_h σ 19 1 v2) = 0 then none else (if (zz_h σ 7 (zz_h σ 19 1 v1) 0) < (zz_h σ 7 (zz_h σ 19 1 v2) 0) then (some (1, σ)) else (some (0, σ))))) else (if zz_b σ 20 1 v1 then (if zz_b σ 20 1 v2 then (if (zz_h σ 20 1 v1) < (zz_h σ 20 1 v2) then (some (1, σ)) else (some (0, σ))) else none) else none)) else none) else none) else (if (zz_h σ 19 1 v1) = 0 then none else (if (zz_h σ 19 1 v1) = 0 then none else (if zz_b σ 28 (zz_h σ 19 1 v1) 1 then (if (zz_h σ 19 1 v2) = 0 then none else (if (zz_h σ 19 1 v2) = 0 then none else (if zz_b σ 28 (zz_h σ 19 1 v2) 1 then (if (zz_h σ 28 (zz_h σ 19 1 v1) 1) ≤ (zz_h σ 28 (zz_h σ 19 1 v2) 1) then (some (0, σ)) else (some (1, σ))) else none))) else none)))) else none))) else none))))) else none) else none)
set_option maxRecDepth 100000 in
set_option maxHeartbeats 4000000 in
theorem ze_xD_isAhead (v1 v2 : Int) (σ : zz_S) : xD_isAhead v1 v2 σ = zz_ev (zz_CE []) (zz_KE []) zk_xD_isAhead 0 true 0 0 400 true (zz_sk zk_xD_isAhead 0) [(0, 6, 1), (1, 0, v1), (2, 0, v2)] [] σ := rfl
noncomputable def zw_xD_isAhead : List Int → zz_S → zz_R := fun vs σ => match vs with
  | [a0, a1, a2] => if a0 = 1 then xD_isAhead a1 a2 σ else none
  | _ => none
def zk_x_firstToBegin : List zz_E := [(0, false, .iconst (-1), 1, 0, (0, 0, 0, 0), 0, []),
  (1, false, .istore_n 1, 1, 0, (0, 0, 0, 0), 0, []),
  (2, false, .iconst 0, 1, 0, (0, 0, 0, 0), 0, []),
  (3, false, .istore_n 2, 1, 0, (0, 0, 0, 0), 0, []),
  (4, true, .iload_n 2, 1, 0, (0, 0, 0, 0), 0, []),
  (5, false, .aload_n 0, 1, 0, (0, 0, 0, 0), 0, []),
  (6, false, .getfield 27, 3, 166, (3, 3, 6, 1), 0, []),
  (9, false, .getfield 318, 3, 108, (4, 3, 0, 0), 0, []),
  (12, false, .if_icmp .ge 44, 3, 0, (56, 0, 0, 0), 0, []),
  (15, false, .aload_n 0, 1, 0, (0, 0, 0, 0), 0, []),
  (16, false, .aload_n 0, 1, 0, (0, 0, 0, 0), 0, []),
  (17, false, .getfield 27, 3, 166, (3, 3, 6, 1), 0, []),
  (20, false, .getfield 322, 3, 102, (4, 0, 21, 1), 0, []),
  (23, false, .iload_n 2, 1, 0, (0, 0, 0, 0), 0, []),
  (24, false, .aaload, 1, 0, (19, 0, 9, 0), 0, []),
  (25, false, .invokevirtual 352, 3, 612, (45, 2, 0, 0), 0, [9, 5]),
  (28, false, .ifCond .eq 22, 3, 0, (50, 0, 0, 0), 0, []),
  (31, false, .iload_n 1, 1, 0, (0, 0, 0, 0), 0, []),
  (32, false, .iconst (-1), 1, 0, (0, 0, 0, 0), 0, []),
  (33, false, .if_icmp .eq 15, 3, 0, (48, 0, 0, 0), 0, []),
  (36, false, .aload_n 0, 1, 0, (0, 0, 0, 0), 0, []),
  (37, false, .getfield 27, 3, 166, (3, 3, 6, 1), 0, []),
  (40, false, .iload_n 2, 1, 0, (0, 0, 0, 0), 0, []),
  (41, false, .iload_n 1, 1, 0, (0, 0, 0, 0), 0, []),
  (42, false, .invokevirtual 355, 3, 620, (80, 3, 0, 0), 0, [0, 0, 6]),
  (45, false, .ifCond .eq 5, 3, 0, (50, 0, 0, 0), 0, []),
  (48, false, .iload_n 2, 1, 0, (0, 0, 0, 0), 0, []),
  (49, false, .istore_n 1, 1, 0, (0, 0, 0, 0), 0, []),
  (50, false, .iinc 2 1, 3, 0, (0, 0, 0, 0), 0, []),
  (53, false, .goto (-49), 3, 0, (4, 0, 0, 0), 0, []),
  (56, false, .iload_n 1, 1, 0, (0, 0, 0, 0), 0, []),
  (57, false, .ireturn, 1, 0, (0, 0, 0, 0), 0, [])]
noncomputable def x_firstToBegin_4 : Nat → Int → Int → zz_S → zz_R
  | 0, _, _, _ => none
  | n + 1, v1, v2, σ => (if v2 < (zz_h σ 4 1 3) then (if zz_b σ 19 1 v2 then ((x_mayBegin (zz_h σ 19 1 v2) σ).bind fun q1 => (if q1.1 = 0 then (x_firstToBegin_4 n v1 (zz_r (v2 + 1)) q1.2) else (if v1 = (-1) then (x_firstToBegin_4 n v2 (zz_r (v2 + 1)) q1.2) else ((xD_isAhead v2 v1 q1.2).bind fun q2 => (if q2.1 = 0 then (x_firstToBegin_4 n v1 (zz_r (v2 + 1)) q2.2) else (x_firstToBegin_4 n v2 (zz_r (v2 + 1)) q2.2)))))) else none) else (some (v1, σ)))
set_option maxRecDepth 100000 in
set_option maxHeartbeats 4000000 in
theorem ze_x_firstToBegin_4 (n : Nat) (v1 v2 : Int) (σ : zz_S) : x_firstToBegin_4 (n + 1) v1 v2 σ = zz_ev (zz_CE [(45, zw_x_mayBegin), (80, zw_xD_isAhead)]) (zz_KE [(4, [(0, 5, true), (1, 0, false), (2, 0, false)], fun vs σ => match vs with | [b0, b1] => x_firstToBegin_4 n b0 b1 σ | _ => none)]) zk_x_firstToBegin 0 false 0 0 400 true (zz_sk zk_x_firstToBegin 4) [(0, 5, 1), (1, 0, v1), (2, 0, v2)] [] σ := rfl
noncomputable def x_firstToBegin (σ : zz_S) : zz_R := (x_firstToBegin_4 zz_fu (-1) 0 σ)
set_option maxRecDepth 100000 in
set_option maxHeartbeats 4000000 in
theorem ze_x_firstToBegin (σ : zz_S) : x_firstToBegin σ = zz_ev (zz_CE []) (zz_KE [(4, [(0, 5, true), (1, 0, false), (2, 0, false)], fun vs σ => match vs with | [b0, b1] => x_firstToBegin_4 zz_fu b0 b1 σ | _ => none)]) zk_x_firstToBegin 0 false 0 0 400 true (zz_sk zk_x_firstToBegin 0) [(0, 5, 1)] [] σ := rfl
noncomputable def zw_x_firstToBegin : List Int → zz_S → zz_R := fun vs σ => match vs with
  | [a0] => if a0 = 1 then x_firstToBegin σ else none
  | _ => none
def zk_xR_new : List zz_E := [(0, false, .aload_n 0, 1, 0, (0, 0, 0, 0), 0, []),
  (1, false, .invokespecial 3, 3, 632, (0, 0, 0, 0), 0, []),
  (4, false, .aload_n 0, 1, 0, (0, 0, 0, 0), 0, []),
  (5, false, .iconst (-1), 1, 0, (0, 0, 0, 0), 0, []),
  (6, false, .putfield 9, 3, 649, (10, 8, 0, 0), 0, []),
  (9, false, .aload_n 0, 1, 0, (0, 0, 0, 0), 0, []),
  (10, false, .iconst 0, 1, 0, (0, 0, 0, 0), 0, []),
  (11, false, .putfield 15, 3, 651, (10, 9, 0, 0), 0, []),
  (14, false, .aload_n 0, 1, 0, (0, 0, 0, 0), 0, []),
  (15, false, .iconst (-1), 1, 0, (0, 0, 0, 0), 0, []),
  (16, false, .putfield 18, 3, 653, (10, 10, 0, 0), 0, []),
  (19, false, .aload_n 0, 1, 0, (0, 0, 0, 0), 0, []),
  (20, false, .iload_n 1, 1, 0, (0, 0, 0, 0), 0, []),
  (21, false, .putfield 21, 3, 633, (10, 0, 0, 0), 0, []),
  (24, false, .aload_n 0, 1, 0, (0, 0, 0, 0), 0, []),
  (25, false, .aload_n 2, 1, 0, (0, 0, 0, 0), 0, []),
  (26, false, .putfield 24, 3, 635, (10, 1, 9, 0), 0, []),
  (29, false, .aload_n 0, 1, 0, (0, 0, 0, 0), 0, []),
  (30, false, .aload_n 2, 1, 0, (0, 0, 0, 0), 0, []),
  (31, false, .getfield 28, 3, 328, (7, 14, 0, 0), 0, []),
  (34, false, .putfield 33, 3, 637, (10, 2, 0, 0), 0, []),
  (37, false, .aload_n 0, 1, 0, (0, 0, 0, 0), 0, []),
  (38, false, .iload_n 3, 1, 0, (0, 0, 0, 0), 0, []),
  (39, false, .putfield 36, 3, 639, (10, 3, 0, 0), 0, []),
  (42, false, .aload_n 0, 1, 0, (0, 0, 0, 0), 0, []),
  (43, false, .iload 4, 2, 0, (0, 0, 0, 0), 0, []),
  (45, false, .putfield 39, 3, 641, (10, 4, 0, 0), 0, []),
  (48, false, .aload_n 0, 1, 0, (0, 0, 0, 0), 0, []),
  (49, false, .iload 4, 2, 0, (0, 0, 0, 0), 0, []),
  (51, false, .aload_n 2, 1, 0, (0, 0, 0, 0), 0, []),
  (52, false, .getfield 40, 3, 307, (7, 4, 30, 1), 0, []),
  (55, false, .iconst 0, 1, 0, (0, 0, 0, 0), 0, []),
  (56, false, .iaload, 1, 0, (28, 0, 0, 0), 0, []),
  (57, false, .iadd, 1, 0, (0, 0, 0, 0), 0, []),
  (58, false, .putfield 44, 3, 643, (10, 5, 0, 0), 0, []),
  (61, false, .aload_n 0, 1, 0, (0, 0, 0, 0), 0, []),
  (62, false, .iload 5, 2, 0, (0, 0, 0, 0), 0, []),
  (64, false, .putfield 47, 3, 645, (10, 6, 0, 0), 0, []),
  (67, false, .aload_n 0, 1, 0, (0, 0, 0, 0), 0, []),
  (68, false, .aload_n 2, 1, 0, (0, 0, 0, 0), 0, []),
  (69, false, .getfield 40, 3, 307, (7, 4, 30, 1), 0, []),
  (72, false, .iconst 2, 1, 0, (0, 0, 0, 0), 0, []),
  (73, false, .iaload, 1, 0, (28, 0, 0, 0), 0, []),
  (74, false, .putfield 50, 3, 647, (10, 7, 0, 0), 0, []),
  (77, false, .return_, 1, 0, (0, 0, 0, 0), 0, [])]
noncomputable def xR_new (v0 v1 v2 v3 v4 v5 : Int) (σ : zz_S) : zz_R := (let s1 := zz_w σ 10 v0 8 (-1); (let s2 := zz_w s1 10 v0 9 0; (let s3 := zz_w s2 10 v0 10 (-1); (let s4 := zz_w s3 10 v0 0 v1; (let s5 := zz_w s4 10 v0 1 v2; (if v2 = 0 then none else (let s6 := zz_w s5 10 v0 2 (zz_h s5 7 v2 14); (let s7 := zz_w s6 10 v0 3 v3; (let s8 := zz_w s7 10 v0 4 v4; (if v2 = 0 then none else (if v2 = 0 then none else (if zz_b s8 28 v2 0 then (let s9 := zz_w s8 10 v0 5 (zz_r (v4 + (zz_h s8 28 v2 0))); (let s10 := zz_w s9 10 v0 6 v5; (if v2 = 0 then none else (if v2 = 0 then none else (if zz_b s10 28 v2 2 then (let s11 := zz_w s10 10 v0 7 (zz_h s10 28 v2 2); (if zz_ow s11 10 v0 (zz_own 10) = true ∧ zz_m s11 10 + 1 = v0 then (some (0, zz_f s11 10)) else none)) else none))))) else none))))))))))))
set_option maxRecDepth 100000 in
set_option maxHeartbeats 4000000 in
theorem ze_xR_new (v0 v1 v2 v3 v4 v5 : Int) (σ : zz_S) : xR_new v0 v1 v2 v3 v4 v5 σ = zz_ev (zz_CE []) (zz_KE []) zk_xR_new 999 false 10 0 400 true (zz_sk zk_xR_new 0) [(0, 1010, v0), (1, 0, v1), (2, 9, v2), (3, 0, v3), (4, 0, v4), (5, 0, v5)] [] σ := rfl
noncomputable def zw_xR_new : List Int → zz_S → zz_R := fun vs σ => match vs with
  | [a0, a1, a2, a3, a4, a5] => xR_new a0 a1 a2 a3 a4 a5 σ
  | _ => none
def zk_x_beginRun : List zz_E := [(0, false, .aload_n 0, 1, 0, (0, 0, 0, 0), 0, []),
  (1, false, .getfield 27, 3, 166, (3, 3, 6, 1), 0, []),
  (4, false, .getfield 322, 3, 102, (4, 0, 21, 1), 0, []),
  (7, false, .iload_n 1, 1, 0, (0, 0, 0, 0), 0, []),
  (8, false, .aaload, 1, 0, (19, 0, 9, 0), 0, []),
  (9, false, .astore_n 3, 1, 0, (0, 0, 0, 0), 0, []),
  (10, false, .aload_n 3, 1, 0, (0, 0, 0, 0), 0, []),
  (11, false, .ifnull 22, 3, 0, (33, 0, 0, 0), 0, []),
  (14, false, .aload_n 0, 1, 0, (0, 0, 0, 0), 0, []),
  (15, false, .getfield 69, 3, 176, (3, 13, 0, 0), 0, []),
  (18, false, .bipush 8, 2, 0, (0, 0, 0, 0), 0, []),
  (20, false, .if_icmp .ge 13, 3, 0, (33, 0, 0, 0), 0, []),
  (23, false, .aload_n 0, 1, 0, (0, 0, 0, 0), 0, []),
  (24, false, .getfield 66, 3, 175, (3, 12, 0, 0), 0, []),
  (27, false, .sipush 2000, 3, 0, (0, 0, 0, 0), 0, []),
  (30, false, .if_icmp .lt 4, 3, 0, (34, 0, 0, 0), 0, []),
  (33, false, .return_, 1, 0, (0, 0, 0, 0), 0, []),
  (34, false, .aload_n 3, 1, 0, (0, 0, 0, 0), 0, []),
  (35, false, .dup, 1, 0, (0, 0, 0, 0), 0, []),
  (36, false, .getfield 364, 3, 330, (7, 14, 0, 0), 0, []),
  (39, false, .iconst 1, 1, 0, (0, 0, 0, 0), 0, []),
  (40, false, .iadd, 1, 0, (0, 0, 0, 0), 0, []),
  (41, false, .putfield 364, 3, 330, (7, 14, 0, 0), 0, []),
  (44, false, .aload_n 3, 1, 0, (0, 0, 0, 0), 0, []),
  (45, false, .dup, 1, 0, (0, 0, 0, 0), 0, []),
  (46, false, .getfield 264, 3, 332, (7, 15, 0, 0), 0, []),
  (49, false, .iconst 1, 1, 0, (0, 0, 0, 0), 0, []),
  (50, false, .iadd, 1, 0, (0, 0, 0, 0), 0, []),
  (51, false, .putfield 264, 3, 332, (7, 15, 0, 0), 0, []),
  (54, false, .new 15, 3, 92, (10, 0, 0, 0), 0, []),
  (57, false, .dup, 1, 0, (0, 0, 0, 0), 0, []),
  (58, false, .aload_n 0, 1, 0, (0, 0, 0, 0), 0, []),
  (59, false, .getfield 66, 3, 175, (3, 12, 0, 0), 0, []),
  (62, false, .aload_n 3, 1, 0, (0, 0, 0, 0), 0, []),
  (63, false, .aload_n 0, 1, 0, (0, 0, 0, 0), 0, []),
  (64, false, .getfield 27, 3, 166, (3, 3, 6, 1), 0, []),
  (67, false, .getfield 334, 3, 104, (4, 1, 22, 1), 0, []),
  (70, false, .iload_n 1, 1, 0, (0, 0, 0, 0), 0, []),
  (71, false, .iaload, 1, 0, (20, 0, 0, 0), 0, []),
  (72, false, .aload_n 0, 1, 0, (0, 0, 0, 0), 0, []),
  (73, false, .getfield 78, 3, 179, (3, 16, 0, 0), 0, []),
  (76, false, .iload_n 2, 1, 0, (0, 0, 0, 0), 0, []),
  (77, false, .invokespecial 367, 3, 629, (106, 10, 999, 0), 0, [0, 0, 0, 9, 0, 1010]),
  (80, false, .astore 4, 2, 0, (0, 0, 0, 0), 0, []),
  (82, false, .aload_n 0, 1, 0, (0, 0, 0, 0), 0, []),
  (83, false, .getfield 27, 3, 166, (3, 3, 6, 1), 0, []),
  (86, false, .iload_n 1, 1, 0, (0, 0, 0, 0), 0, []),
  (87, false, .invokevirtual 340, 3, 595, (77, 2, 999, 0), 0, [0, 6]),
  (90, false, .aload_n 0, 1, 0, (0, 0, 0, 0), 0, []),
  (91, false, .getfield 17, 3, 164, (3, 1, 14, 1), 0, []),
  (94, false, .aload_n 0, 1, 0, (0, 0, 0, 0), 0, []),
  (95, false, .getfield 66, 3, 175, (3, 12, 0, 0), 0, []),
  (98, false, .aload 4, 2, 0, (0, 0, 0, 0), 0, []),
  (100, false, .aastore, 1, 0, (12, 0, 12, 0), 0, []),
  (101, false, .aload_n 0, 1, 0, (0, 0, 0, 0), 0, []),
  (102, false, .dup, 1, 0, (0, 0, 0, 0), 0, []),
  (103, false, .getfield 66, 3, 175, (3, 12, 0, 0), 0, []),
  (106, false, .iconst 1, 1, 0, (0, 0, 0, 0), 0, []),
  (107, false, .iadd, 1, 0, (0, 0, 0, 0), 0, []),
  (108, false, .putfield 66, 3, 175, (3, 12, 0, 0), 0, []),
  (111, false, .aload_n 0, 1, 0, (0, 0, 0, 0), 0, []),
  (112, false, .getfield 21, 3, 165, (3, 2, 15, 1), 0, []),
  (115, false, .aload_n 0, 1, 0, (0, 0, 0, 0), 0, []),
  (116, false, .getfield 69, 3, 176, (3, 13, 0, 0), 0, []),
  (119, false, .aload 4, 2, 0, (0, 0, 0, 0), 0, []),
  (121, false, .aastore, 1, 0, (13, 0, 12, 0), 0, []),
  (122, false, .aload_n 0, 1, 0, (0, 0, 0, 0), 0, []),
  (123, false, .dup, 1, 0, (0, 0, 0, 0), 0, []),
  (124, false, .getfield 69, 3, 176, (3, 13, 0, 0), 0, []),
  (127, false, .iconst 1, 1, 0, (0, 0, 0, 0), 0, []),
  (128, false, .iadd, 1, 0, (0, 0, 0, 0), 0, []),
  (129, false, .putfield 69, 3, 176, (3, 13, 0, 0), 0, []),
  (132, false, .aload_n 0, 1, 0, (0, 0, 0, 0), 0, []),
  (133, false, .getfield 52, 3, 171, (3, 8, 18, 1), 0, []),
  (136, false, .iload_n 2, 1, 0, (0, 0, 0, 0), 0, []),
  (137, false, .iconst 1, 1, 0, (0, 0, 0, 0), 0, []),
  (138, false, .bastore, 1, 0, (16, 0, 0, 0), 0, []),
  (139, false, .return_, 1, 0, (0, 0, 0, 0), 0, [])]
noncomputable def x_beginRun (v1 v2 : Int) (σ : zz_S) : zz_R := (if zz_b σ 19 1 v1 then (if (zz_h σ 19 1 v1) = 0 then (some (0, σ)) else (if (zz_h σ 3 1 13) < 8 then (if (zz_h σ 3 1 12) < 2000 then (if (zz_h σ 19 1 v1) = 0 then none else (if (zz_h σ 19 1 v1) = 0 then none else (let s1 := zz_w σ 7 (zz_h σ 19 1 v1) 14 (zz_r ((zz_h σ 7 (zz_h σ 19 1 v1) 14) + 1)); (if (zz_h σ 19 1 v1) = 0 then none else (if (zz_h σ 19 1 v1) = 0 then none else (let s2 := zz_w s1 7 (zz_h σ 19 1 v1) 15 (zz_r ((zz_h s1 7 (zz_h σ 19 1 v1) 15) + 1)); (let s3 := zz_n s2 10 0 11; (if zz_b s3 20 1 v1 then ((xR_new (zz_c s2 10 + 1) (zz_h s3 3 1 12) (zz_h σ 19 1 v1) (zz_h s3 20 1 v1) (zz_h s3 3 1 16) v2 s3).bind fun q4 => ((xD_remove v1 q4.2).bind fun q5 => (if zz_b q5.2 12 1 (zz_h q5.2 3 1 12) then (if (zz_c s2 10 + 1) = 0 then none else (let s6 := zz_w q5.2 12 1 (zz_h q5.2 3 1 12) (zz_c s2 10 + 1); (let s7 := zz_w s6 3 1 12 (zz_r ((zz_h s6 3 1 12) + 1)); (if zz_b s7 13 1 (zz_h s7 3 1 13) then (if (zz_c s2 10 + 1) = 0 then none else (let s8 := zz_w s7 13 1 (zz_h s7 3 1 13) (zz_c s2 10 + 1); (let s9 := zz_w s8 3 1 13 (zz_r ((zz_h s8 3 1 13) + 1)); (if zz_b s9 16 1 v2 then (let s10 := zz_w s9 16 1 v2 1; (some (0, s10))) else none)))) else none)))) else none))) else none)))))))) else (some (0, σ))) else (some (0, σ)))) else none)
set_option maxRecDepth 100000 in
set_option maxHeartbeats 4000000 in
theorem ze_x_beginRun (v1 v2 : Int) (σ : zz_S) : x_beginRun v1 v2 σ = zz_ev (zz_CE [(77, zw_xD_remove), (106, zw_xR_new)]) (zz_KE []) zk_x_beginRun 999 false 0 0 400 true (zz_sk zk_x_beginRun 0) [(0, 5, 1), (1, 0, v1), (2, 0, v2)] [] σ := rfl
noncomputable def zw_x_beginRun : List Int → zz_S → zz_R := fun vs σ => match vs with
  | [a0, a1, a2] => if a0 = 1 then x_beginRun a1 a2 σ else none
  | _ => none
def zk_x_beginRuns : List zz_E := [(0, false, .iconst 0, 1, 0, (0, 0, 0, 0), 0, []),
  (1, false, .istore_n 1, 1, 0, (0, 0, 0, 0), 0, []),
  (2, true, .iload_n 1, 1, 0, (0, 0, 0, 0), 0, []),
  (3, false, .bipush 8, 2, 0, (0, 0, 0, 0), 0, []),
  (5, false, .if_icmp .ge 47, 3, 0, (52, 0, 0, 0), 0, []),
  (8, false, .aload_n 0, 1, 0, (0, 0, 0, 0), 0, []),
  (9, false, .invokevirtual 343, 3, 604, (43, 1, 0, 0), 0, [5]),
  (12, false, .istore_n 2, 1, 0, (0, 0, 0, 0), 0, []),
  (13, false, .iload_n 2, 1, 0, (0, 0, 0, 0), 0, []),
  (14, false, .iconst (-1), 1, 0, (0, 0, 0, 0), 0, []),
  (15, false, .if_icmp .eq 13, 3, 0, (28, 0, 0, 0), 0, []),
  (18, false, .aload_n 0, 1, 0, (0, 0, 0, 0), 0, []),
  (19, false, .getfield 66, 3, 175, (3, 12, 0, 0), 0, []),
  (22, false, .sipush 2000, 3, 0, (0, 0, 0, 0), 0, []),
  (25, false, .if_icmp .lt 4, 3, 0, (29, 0, 0, 0), 0, []),
  (28, false, .return_, 1, 0, (0, 0, 0, 0), 0, []),
  (29, false, .aload_n 0, 1, 0, (0, 0, 0, 0), 0, []),
  (30, false, .invokevirtual 346, 3, 608, (44, 1, 0, 0), 0, [5]),
  (33, false, .istore_n 3, 1, 0, (0, 0, 0, 0), 0, []),
  (34, false, .iload_n 3, 1, 0, (0, 0, 0, 0), 0, []),
  (35, false, .iconst (-1), 1, 0, (0, 0, 0, 0), 0, []),
  (36, false, .if_icmp .ne 4, 3, 0, (40, 0, 0, 0), 0, []),
  (39, false, .return_, 1, 0, (0, 0, 0, 0), 0, []),
  (40, false, .aload_n 0, 1, 0, (0, 0, 0, 0), 0, []),
  (41, false, .iload_n 3, 1, 0, (0, 0, 0, 0), 0, []),
  (42, false, .iload_n 2, 1, 0, (0, 0, 0, 0), 0, []),
  (43, false, .invokevirtual 349, 3, 624, (47, 3, 999, 0), 0, [0, 0, 5]),
  (46, false, .iinc 1 1, 3, 0, (0, 0, 0, 0), 0, []),
  (49, false, .goto (-47), 3, 0, (2, 0, 0, 0), 0, []),
  (52, false, .return_, 1, 0, (0, 0, 0, 0), 0, [])]
noncomputable def x_beginRuns_2 : Nat → Int → zz_S → zz_R
  | 0, _, _ => none
  | n + 1, v1, σ => (if v1 < 8 then ((x_freeWorker σ).bind fun q1 => (if q1.1 = (-1) then (some (0, q1.2)) else (if (zz_h q1.2 3 1 12) < 2000 then ((x_firstToBegin q1.2).bind fun q2 => (if q2.1 = (-1) then (some (0, q2.2)) else ((x_beginRun q2.1 q1.1 q2.2).bind fun q3 => (x_beginRuns_2 n (zz_r (v1 + 1)) q3.2)))) else (some (0, q1.2))))) else (some (0, σ)))
set_option maxRecDepth 100000 in
set_option maxHeartbeats 4000000 in
theorem ze_x_beginRuns_2 (n : Nat) (v1 : Int) (σ : zz_S) : x_beginRuns_2 (n + 1) v1 σ = zz_ev (zz_CE [(43, zw_x_freeWorker), (44, zw_x_firstToBegin), (47, zw_x_beginRun)]) (zz_KE [(2, [(0, 5, true), (1, 0, false)], fun vs σ => match vs with | [b0] => x_beginRuns_2 n b0 σ | _ => none)]) zk_x_beginRuns 999 false 0 0 400 true (zz_sk zk_x_beginRuns 2) [(0, 5, 1), (1, 0, v1)] [] σ := rfl
noncomputable def x_beginRuns (σ : zz_S) : zz_R := (x_beginRuns_2 zz_fu 0 σ)
set_option maxRecDepth 100000 in
set_option maxHeartbeats 4000000 in
theorem ze_x_beginRuns (σ : zz_S) : x_beginRuns σ = zz_ev (zz_CE []) (zz_KE [(2, [(0, 5, true), (1, 0, false)], fun vs σ => match vs with | [b0] => x_beginRuns_2 zz_fu b0 σ | _ => none)]) zk_x_beginRuns 999 false 0 0 400 true (zz_sk zk_x_beginRuns 0) [(0, 5, 1)] [] σ := rfl
noncomputable def zw_x_beginRuns : List Int → zz_S → zz_R := fun vs σ => match vs with
  | [a0] => if a0 = 1 then x_beginRuns σ else none
  | _ => none
def zk_x_treatMinute : List zz_E := [(0, false, .aload_n 0, 1, 0, (0, 0, 0, 0), 0, []),
  (1, false, .invokevirtual 180, 3, 463, (26, 1, 999, 0), 0, [5]),
  (4, false, .aload_n 0, 1, 0, (0, 0, 0, 0), 0, []),
  (5, false, .invokevirtual 183, 3, 542, (34, 1, 999, 0), 0, [5]),
  (8, false, .aload_n 0, 1, 0, (0, 0, 0, 0), 0, []),
  (9, false, .invokevirtual 186, 3, 583, (39, 1, 999, 0), 0, [5]),
  (12, false, .aload_n 0, 1, 0, (0, 0, 0, 0), 0, []),
  (13, false, .invokevirtual 189, 3, 600, (42, 1, 999, 0), 0, [5]),
  (16, false, .iconst 0, 1, 0, (0, 0, 0, 0), 0, []),
  (17, false, .istore_n 1, 1, 0, (0, 0, 0, 0), 0, []),
  (18, true, .iload_n 1, 1, 0, (0, 0, 0, 0), 0, []),
  (19, false, .aload_n 0, 1, 0, (0, 0, 0, 0), 0, []),
  (20, false, .getfield 75, 3, 178, (3, 15, 0, 0), 0, []),
  (23, false, .if_icmp .ge 28, 3, 0, (51, 0, 0, 0), 0, []),
  (26, false, .aload_n 0, 1, 0, (0, 0, 0, 0), 0, []),
  (27, false, .getfield 52, 3, 171, (3, 8, 18, 1), 0, []),
  (30, false, .iload_n 1, 1, 0, (0, 0, 0, 0), 0, []),
  (31, false, .baload, 1, 0, (16, 0, 0, 0), 0, []),
  (32, false, .ifCond .ne 13, 3, 0, (45, 0, 0, 0), 0, []),
  (35, false, .aload_n 0, 1, 0, (0, 0, 0, 0), 0, []),
  (36, false, .getfield 49, 3, 170, (3, 7, 17, 1), 0, []),
  (39, false, .iload_n 1, 1, 0, (0, 0, 0, 0), 0, []),
  (40, false, .dup2, 1, 0, (0, 0, 0, 0), 0, []),
  (41, false, .iaload, 1, 0, (15, 0, 0, 0), 0, []),
  (42, false, .iconst 1, 1, 0, (0, 0, 0, 0), 0, []),
  (43, false, .iadd, 1, 0, (0, 0, 0, 0), 0, []),
  (44, false, .iastore, 1, 0, (15, 0, 0, 0), 0, []),
  (45, false, .iinc 1 1, 3, 0, (0, 0, 0, 0), 0, []),
  (48, false, .goto (-30), 3, 0, (18, 0, 0, 0), 0, []),
  (51, false, .aload_n 0, 1, 0, (0, 0, 0, 0), 0, []),
  (52, false, .dup, 1, 0, (0, 0, 0, 0), 0, []),
  (53, false, .getfield 78, 3, 179, (3, 16, 0, 0), 0, []),
  (56, false, .iconst 1, 1, 0, (0, 0, 0, 0), 0, []),
  (57, false, .iadd, 1, 0, (0, 0, 0, 0), 0, []),
  (58, false, .putfield 78, 3, 179, (3, 16, 0, 0), 0, []),
  (61, false, .return_, 1, 0, (0, 0, 0, 0), 0, [])]
noncomputable def x_treatMinute_18 : Nat → Int → zz_S → zz_R
  | 0, _, _ => none
  | n + 1, v1, σ => (if v1 < (zz_h σ 3 1 15) then (if zz_b σ 16 1 v1 then (if (zz_h σ 16 1 v1) = 0 then (if zz_b σ 15 1 v1 then (if zz_b σ 15 1 v1 then (let s1 := zz_w σ 15 1 v1 (zz_r ((zz_h σ 15 1 v1) + 1)); (x_treatMinute_18 n (zz_r (v1 + 1)) s1)) else none) else none) else (x_treatMinute_18 n (zz_r (v1 + 1)) σ)) else none) else (let s2 := zz_w σ 3 1 16 (zz_r ((zz_h σ 3 1 16) + 1)); (some (0, s2))))
set_option maxRecDepth 100000 in
set_option maxHeartbeats 4000000 in
theorem ze_x_treatMinute_18 (n : Nat) (v1 : Int) (σ : zz_S) : x_treatMinute_18 (n + 1) v1 σ = zz_ev (zz_CE []) (zz_KE [(18, [(0, 5, true), (1, 0, false)], fun vs σ => match vs with | [b0] => x_treatMinute_18 n b0 σ | _ => none)]) zk_x_treatMinute 999 false 0 0 400 true (zz_sk zk_x_treatMinute 18) [(0, 5, 1), (1, 0, v1)] [] σ := rfl
noncomputable def x_treatMinute (σ : zz_S) : zz_R := ((x_endRuns σ).bind fun q1 => ((x_bringDues q1.2).bind fun q2 => ((x_missDues q2.2).bind fun q3 => ((x_beginRuns q3.2).bind fun q4 => (x_treatMinute_18 zz_fu 0 q4.2)))))
set_option maxRecDepth 100000 in
set_option maxHeartbeats 4000000 in
theorem ze_x_treatMinute (σ : zz_S) : x_treatMinute σ = zz_ev (zz_CE [(26, zw_x_endRuns), (34, zw_x_bringDues), (39, zw_x_missDues), (42, zw_x_beginRuns)]) (zz_KE [(18, [(0, 5, true), (1, 0, false)], fun vs σ => match vs with | [b0] => x_treatMinute_18 zz_fu b0 σ | _ => none)]) zk_x_treatMinute 999 false 0 0 400 true (zz_sk zk_x_treatMinute 0) [(0, 5, 1)] [] σ := rfl
noncomputable def zw_x_treatMinute : List Int → zz_S → zz_R := fun vs σ => match vs with
  | [a0] => if a0 = 1 then x_treatMinute σ else none
  | _ => none
def zk_x_clock : List zz_E := [(0, false, .iload_n 1, 1, 0, (0, 0, 0, 0), 0, []),
  (1, false, .aload_n 0, 1, 0, (0, 0, 0, 0), 0, []),
  (2, false, .getfield 78, 3, 179, (3, 16, 0, 0), 0, []),
  (5, false, .aload_n 0, 1, 0, (0, 0, 0, 0), 0, []),
  (6, false, .getfield 78, 3, 179, (3, 16, 0, 0), 0, []),
  (9, false, .sipush 5000, 3, 0, (0, 0, 0, 0), 0, []),
  (12, false, .iadd, 1, 0, (0, 0, 0, 0), 0, []),
  (13, false, .ldc 95, 2, 239, (0, 0, 0, 0), 400000, []),
  (15, false, .invokestatic 172, 3, 456, (169, 2, 0, 0), 0, [0, 0]),
  (18, false, .invokestatic 91, 3, 228, (72, 3, 0, 0), 0, [0, 0, 0]),
  (21, false, .ifCond .ne 6, 3, 0, (27, 0, 0, 0), 0, []),
  (24, false, .bipush (-2), 2, 0, (0, 0, 0, 0), 0, []),
  (26, false, .ireturn, 1, 0, (0, 0, 0, 0), 0, []),
  (27, false, .aload_n 0, 1, 0, (0, 0, 0, 0), 0, []),
  (28, false, .getfield 66, 3, 175, (3, 12, 0, 0), 0, []),
  (31, false, .istore_n 2, 1, 0, (0, 0, 0, 0), 0, []),
  (32, false, .iload_n 1, 1, 0, (0, 0, 0, 0), 0, []),
  (33, false, .aload_n 0, 1, 0, (0, 0, 0, 0), 0, []),
  (34, false, .getfield 78, 3, 179, (3, 16, 0, 0), 0, []),
  (37, false, .isub, 1, 0, (0, 0, 0, 0), 0, []),
  (38, false, .istore_n 3, 1, 0, (0, 0, 0, 0), 0, []),
  (39, false, .iconst 0, 1, 0, (0, 0, 0, 0), 0, []),
  (40, false, .istore 4, 2, 0, (0, 0, 0, 0), 0, []),
  (42, true, .iload 4, 2, 0, (0, 0, 0, 0), 0, []),
  (44, false, .iload_n 3, 1, 0, (0, 0, 0, 0), 0, []),
  (45, false, .if_icmp .ge 13, 3, 0, (58, 0, 0, 0), 0, []),
  (48, false, .aload_n 0, 1, 0, (0, 0, 0, 0), 0, []),
  (49, false, .invokevirtual 177, 3, 459, (25, 1, 999, 0), 0, [5]),
  (52, false, .iinc 4 1, 3, 0, (0, 0, 0, 0), 0, []),
  (55, false, .goto (-13), 3, 0, (42, 0, 0, 0), 0, []),
  (58, false, .aload_n 0, 1, 0, (0, 0, 0, 0), 0, []),
  (59, false, .getfield 66, 3, 175, (3, 12, 0, 0), 0, []),
  (62, false, .iload_n 2, 1, 0, (0, 0, 0, 0), 0, []),
  (63, false, .isub, 1, 0, (0, 0, 0, 0), 0, []),
  (64, false, .ireturn, 1, 0, (0, 0, 0, 0), 0, [])]
noncomputable def x_clock_42 : Nat → Int → Int → Int → zz_S → zz_R
  | 0, _, _, _, _ => none
  | n + 1, v2, v3, v4, σ => (if v4 < v3 then ((x_treatMinute σ).bind fun q1 => (x_clock_42 n v2 v3 (zz_r (v4 + 1)) q1.2)) else (some ((zz_r ((zz_h σ 3 1 12) - v2)), σ)))
set_option maxRecDepth 100000 in
set_option maxHeartbeats 4000000 in
theorem ze_x_clock_42 (n : Nat) (v2 v3 v4 : Int) (σ : zz_S) : x_clock_42 (n + 1) v2 v3 v4 σ = zz_ev (zz_CE [(25, zw_x_treatMinute)]) (zz_KE [(42, [(0, 5, true), (2, 0, false), (3, 0, false), (4, 0, false)], fun vs σ => match vs with | [b0, b1, b2] => x_clock_42 n b0 b1 b2 σ | _ => none)]) zk_x_clock 0 false 0 0 400 true (zz_sk zk_x_clock 42) [(0, 5, 1), (2, 0, v2), (3, 0, v3), (4, 0, v4)] [] σ := rfl
noncomputable def x_clock (v1 : Int) (σ : zz_S) : zz_R := ((j_min (zz_r ((zz_h σ 3 1 16) + 5000)) 400000 σ).bind fun q1 => ((x_isWithin v1 (zz_h σ 3 1 16) q1.1 q1.2).bind fun q2 => (if q2.1 = 0 then (some ((-2), q2.2)) else (x_clock_42 zz_fu (zz_h q2.2 3 1 12) (zz_r (v1 - (zz_h q2.2 3 1 16))) 0 q2.2))))
set_option maxRecDepth 100000 in
set_option maxHeartbeats 4000000 in
theorem ze_x_clock (v1 : Int) (σ : zz_S) : x_clock v1 σ = zz_ev (zz_CE [(72, zw_x_isWithin), (169, zw_j_min)]) (zz_KE [(42, [(0, 5, true), (2, 0, false), (3, 0, false), (4, 0, false)], fun vs σ => match vs with | [b0, b1, b2] => x_clock_42 zz_fu b0 b1 b2 σ | _ => none)]) zk_x_clock 0 false 0 0 400 true (zz_sk zk_x_clock 0) [(0, 5, 1), (1, 0, v1)] [] σ := rfl
noncomputable def zw_x_clock : List Int → zz_S → zz_R := fun vs σ => match vs with
  | [a0, a1] => if a0 = 1 then x_clock a1 σ else none
  | _ => none
def zk_xC_firstFit : List zz_E := [(0, false, .aload_n 0, 1, 0, (0, 0, 0, 0), 0, []),
  (1, false, .getfield 17, 3, 255, (8, 1, 1, 0), 0, []),
  (4, false, .lconst 0, 1, 0, (0, 0, 0, 0), 0, []),
  (5, false, .lcmp, 1, 0, (0, 0, 0, 0), 0, []),
  (6, false, .ifCond .eq 17, 3, 0, (23, 0, 0, 0), 0, []),
  (9, false, .aload_n 0, 1, 0, (0, 0, 0, 0), 0, []),
  (10, false, .getfield 21, 3, 256, (8, 2, 0, 0), 0, []),
  (13, false, .ifCond .eq 10, 3, 0, (23, 0, 0, 0), 0, []),
  (16, false, .aload_n 0, 1, 0, (0, 0, 0, 0), 0, []),
  (17, false, .getfield 24, 3, 257, (8, 3, 0, 0), 0, []),
  (20, false, .ifCond .ne 5, 3, 0, (25, 0, 0, 0), 0, []),
  (23, false, .iconst (-1), 1, 0, (0, 0, 0, 0), 0, []),
  (24, false, .ireturn, 1, 0, (0, 0, 0, 0), 0, []),
  (25, false, .iload_n 1, 1, 0, (0, 0, 0, 0), 0, []),
  (26, false, .iconst 0, 1, 0, (0, 0, 0, 0), 0, []),
  (27, false, .invokestatic 69, 3, 694, (168, 2, 0, 0), 0, [0, 0]),
  (30, false, .istore_n 3, 1, 0, (0, 0, 0, 0), 0, []),
  (31, true, .iload_n 3, 1, 0, (0, 0, 0, 0), 0, []),
  (32, false, .iload_n 2, 1, 0, (0, 0, 0, 0), 0, []),
  (33, false, .if_icmp .gt 73, 3, 0, (106, 0, 0, 0), 0, []),
  (36, false, .iload_n 3, 1, 0, (0, 0, 0, 0), 0, []),
  (37, false, .ldc 75, 2, 695, (0, 0, 0, 0), 525600, []),
  (39, false, .if_icmp .ge 67, 3, 0, (106, 0, 0, 0), 0, []),
  (42, false, .aload_n 0, 1, 0, (0, 0, 0, 0), 0, []),
  (43, false, .iload_n 3, 1, 0, (0, 0, 0, 0), 0, []),
  (44, false, .sipush 1440, 3, 0, (0, 0, 0, 0), 0, []),
  (47, false, .idiv, 1, 0, (0, 0, 0, 0), 0, []),
  (48, false, .invokevirtual 59, 3, 570, (100, 2, 0, 0), 0, [0, 10]),
  (51, false, .ifCond .ne 18, 3, 0, (69, 0, 0, 0), 0, []),
  (54, false, .iload_n 3, 1, 0, (0, 0, 0, 0), 0, []),
  (55, false, .sipush 1440, 3, 0, (0, 0, 0, 0), 0, []),
  (58, false, .idiv, 1, 0, (0, 0, 0, 0), 0, []),
  (59, false, .iconst 1, 1, 0, (0, 0, 0, 0), 0, []),
  (60, false, .iadd, 1, 0, (0, 0, 0, 0), 0, []),
  (61, false, .sipush 1440, 3, 0, (0, 0, 0, 0), 0, []),
  (64, false, .imul, 1, 0, (0, 0, 0, 0), 0, []),
  (65, false, .istore_n 3, 1, 0, (0, 0, 0, 0), 0, []),
  (66, false, .goto (-35), 3, 0, (31, 0, 0, 0), 0, []),
  (69, false, .aload_n 0, 1, 0, (0, 0, 0, 0), 0, []),
  (70, false, .iload_n 3, 1, 0, (0, 0, 0, 0), 0, []),
  (71, false, .invokevirtual 56, 3, 566, (99, 2, 0, 0), 0, [0, 10]),
  (74, false, .ifCond .ne 16, 3, 0, (90, 0, 0, 0), 0, []),
  (77, false, .iload_n 3, 1, 0, (0, 0, 0, 0), 0, []),
  (78, false, .bipush 60, 2, 0, (0, 0, 0, 0), 0, []),
  (80, false, .idiv, 1, 0, (0, 0, 0, 0), 0, []),
  (81, false, .iconst 1, 1, 0, (0, 0, 0, 0), 0, []),
  (82, false, .iadd, 1, 0, (0, 0, 0, 0), 0, []),
  (83, false, .bipush 60, 2, 0, (0, 0, 0, 0), 0, []),
  (85, false, .imul, 1, 0, (0, 0, 0, 0), 0, []),
  (86, false, .istore_n 3, 1, 0, (0, 0, 0, 0), 0, []),
  (87, false, .goto (-56), 3, 0, (31, 0, 0, 0), 0, []),
  (90, false, .aload_n 0, 1, 0, (0, 0, 0, 0), 0, []),
  (91, false, .iload_n 3, 1, 0, (0, 0, 0, 0), 0, []),
  (92, false, .invokevirtual 52, 3, 562, (98, 2, 0, 0), 0, [0, 10]),
  (95, false, .ifCond .ne 9, 3, 0, (104, 0, 0, 0), 0, []),
  (98, false, .iinc 3 1, 3, 0, (0, 0, 0, 0), 0, []),
  (101, false, .goto (-70), 3, 0, (31, 0, 0, 0), 0, []),
  (104, false, .iload_n 3, 1, 0, (0, 0, 0, 0), 0, []),
  (105, false, .ireturn, 1, 0, (0, 0, 0, 0), 0, []),
  (106, false, .iconst (-1), 1, 0, (0, 0, 0, 0), 0, []),
  (107, false, .ireturn, 1, 0, (0, 0, 0, 0), 0, [])]
noncomputable def xC_firstFit_31 : Nat → Int → Int → Int → zz_S → zz_R
  | 0, _, _, _, _ => none
  | n + 1, v0, v2, v3, σ => (if v3 ≤ v2 then (if v3 < 525600 then (if v0 = 0 then none else ((xC_dayFits v0 (zz_div v3 1440) σ).bind fun q1 => (if q1.1 = 0 then (xC_firstFit_31 n v0 v2 (zz_r ((zz_r ((zz_div v3 1440) + 1)) * 1440)) q1.2) else (if v0 = 0 then none else ((xC_hourFits v0 v3 q1.2).bind fun q2 => (if q2.1 = 0 then (xC_firstFit_31 n v0 v2 (zz_r ((zz_r ((zz_div v3 60) + 1)) * 60)) q2.2) else (if v0 = 0 then none else ((xC_minuteFits v0 v3 q2.2).bind fun q3 => (if q3.1 = 0 then (xC_firstFit_31 n v0 v2 (zz_r (v3 + 1)) q3.2) else (some (v3, q3.2))))))))))) else (some ((-1), σ))) else (some ((-1), σ)))
set_option maxRecDepth 100000 in
set_option maxHeartbeats 4000000 in
theorem ze_xC_firstFit_31 (n : Nat) (v0 v2 v3 : Int) (σ : zz_S) : xC_firstFit_31 (n + 1) v0 v2 v3 σ = zz_ev (zz_CE [(98, zw_xC_minuteFits), (99, zw_xC_hourFits), (100, zw_xC_dayFits)]) (zz_KE [(31, [(0, 10, false), (2, 0, false), (3, 0, false)], fun vs σ => match vs with | [b0, b1, b2] => xC_firstFit_31 n b0 b1 b2 σ | _ => none)]) zk_xC_firstFit 0 false 0 0 400 true (zz_sk zk_xC_firstFit 31) [(0, 10, v0), (2, 0, v2), (3, 0, v3)] [] σ := rfl
noncomputable def xC_firstFit (v0 v1 v2 : Int) (σ : zz_S) : zz_R := (if v0 = 0 then none else (if (zz_lc (zz_h σ 8 v0 1) 0) = 0 then (some ((-1), σ)) else (if v0 = 0 then none else (if (zz_h σ 8 v0 2) = 0 then (some ((-1), σ)) else (if v0 = 0 then none else (if (zz_h σ 8 v0 3) = 0 then (some ((-1), σ)) else ((j_max v1 0 σ).bind fun q1 => (xC_firstFit_31 zz_fu v0 v2 q1.1 q1.2))))))))
set_option maxRecDepth 100000 in
set_option maxHeartbeats 4000000 in
theorem ze_xC_firstFit (v0 v1 v2 : Int) (σ : zz_S) : xC_firstFit v0 v1 v2 σ = zz_ev (zz_CE [(168, zw_j_max)]) (zz_KE [(31, [(0, 10, false), (2, 0, false), (3, 0, false)], fun vs σ => match vs with | [b0, b1, b2] => xC_firstFit_31 zz_fu b0 b1 b2 σ | _ => none)]) zk_xC_firstFit 0 false 0 0 400 true (zz_sk zk_xC_firstFit 0) [(0, 10, v0), (1, 0, v1), (2, 0, v2)] [] σ := rfl
noncomputable def zw_xC_firstFit : List Int → zz_S → zz_R := fun vs σ => match vs with
  | [a0, a1, a2] => xC_firstFit a0 a1 a2 σ
  | _ => none
def zk_x_missJumped : List zz_E := [(0, false, .aload_n 1, 1, 0, (0, 0, 0, 0), 0, []),
  (1, false, .getfield 111, 3, 308, (7, 4, 30, 1), 0, []),
  (4, false, .iconst 4, 1, 0, (0, 0, 0, 0), 0, []),
  (5, false, .iaload, 1, 0, (28, 0, 0, 0), 0, []),
  (6, false, .istore 4, 2, 0, (0, 0, 0, 0), 0, []),
  (8, false, .aload_n 1, 1, 0, (0, 0, 0, 0), 0, []),
  (9, false, .getfield 122, 3, 311, (7, 5, 10, 1), 0, []),
  (12, false, .iload_n 2, 1, 0, (0, 0, 0, 0), 0, []),
  (13, false, .iload_n 3, 1, 0, (0, 0, 0, 0), 0, []),
  (14, false, .invokevirtual 377, 3, 690, (101, 3, 0, 0), 0, [0, 0, 10]),
  (17, false, .istore 5, 2, 0, (0, 0, 0, 0), 0, []),
  (19, false, .iconst 0, 1, 0, (0, 0, 0, 0), 0, []),
  (20, false, .istore 6, 2, 0, (0, 0, 0, 0), 0, []),
  (22, true, .iload 6, 2, 0, (0, 0, 0, 0), 0, []),
  (24, false, .sipush 720, 3, 0, (0, 0, 0, 0), 0, []),
  (27, false, .if_icmp .ge 63, 3, 0, (90, 0, 0, 0), 0, []),
  (30, false, .iload 5, 2, 0, (0, 0, 0, 0), 0, []),
  (32, false, .iconst (-1), 1, 0, (0, 0, 0, 0), 0, []),
  (33, false, .if_icmp .eq 57, 3, 0, (90, 0, 0, 0), 0, []),
  (36, false, .iload 4, 2, 0, (0, 0, 0, 0), 0, []),
  (38, false, .ifCond .ne 20, 3, 0, (58, 0, 0, 0), 0, []),
  (41, false, .aload_n 0, 1, 0, (0, 0, 0, 0), 0, []),
  (42, false, .getfield 34, 3, 167, (3, 4, 7, 1), 0, []),
  (45, false, .aload_n 1, 1, 0, (0, 0, 0, 0), 0, []),
  (46, false, .getfield 162, 3, 299, (7, 0, 0, 0), 0, []),
  (49, false, .iload 5, 2, 0, (0, 0, 0, 0), 0, []),
  (51, false, .iconst 3, 1, 0, (0, 0, 0, 0), 0, []),
  (52, false, .invokevirtual 314, 3, 534, (82, 4, 999, 0), 0, [0, 0, 0, 7]),
  (55, false, .goto 8, 3, 0, (63, 0, 0, 0), 0, []),
  (58, false, .aload_n 0, 1, 0, (0, 0, 0, 0), 0, []),
  (59, false, .aload_n 1, 1, 0, (0, 0, 0, 0), 0, []),
  (60, false, .invokevirtual 280, 3, 522, (36, 2, 999, 0), 0, [9, 5]),
  (63, true, .iload 4, 2, 0, (0, 0, 0, 0), 0, []),
  (65, false, .iconst 1, 1, 0, (0, 0, 0, 0), 0, []),
  (66, false, .if_icmp .ne 4, 3, 0, (70, 0, 0, 0), 0, []),
  (69, false, .return_, 1, 0, (0, 0, 0, 0), 0, []),
  (70, false, .aload_n 1, 1, 0, (0, 0, 0, 0), 0, []),
  (71, false, .getfield 122, 3, 311, (7, 5, 10, 1), 0, []),
  (74, false, .iload 5, 2, 0, (0, 0, 0, 0), 0, []),
  (76, false, .iconst 1, 1, 0, (0, 0, 0, 0), 0, []),
  (77, false, .iadd, 1, 0, (0, 0, 0, 0), 0, []),
  (78, false, .iload_n 3, 1, 0, (0, 0, 0, 0), 0, []),
  (79, false, .invokevirtual 377, 3, 690, (101, 3, 0, 0), 0, [0, 0, 10]),
  (82, false, .istore 5, 2, 0, (0, 0, 0, 0), 0, []),
  (84, false, .iinc 6 1, 3, 0, (0, 0, 0, 0), 0, []),
  (87, false, .goto (-65), 3, 0, (22, 0, 0, 0), 0, []),
  (90, false, .return_, 1, 0, (0, 0, 0, 0), 0, [])]
noncomputable def x_missJumped_63 (k22 : Int → Int → Int → Int → Int → zz_S → zz_R) (v1 v3 v4 v5 v6 : Int) (σ : zz_S) : zz_R := (if v4 = 1 then (some (0, σ)) else (if v1 = 0 then none else (if v1 = 0 then none else ((xC_firstFit v1 (zz_r (v5 + 1)) v3 σ).bind fun q1 => (k22 v1 v3 v4 q1.1 (zz_r (v6 + 1)) q1.2)))))
set_option maxRecDepth 100000 in
set_option maxHeartbeats 4000000 in
theorem ze_x_missJumped_63 (k22 : Int → Int → Int → Int → Int → zz_S → zz_R) (v1 v3 v4 v5 v6 : Int) (σ : zz_S) : x_missJumped_63 k22 v1 v3 v4 v5 v6 σ = zz_ev (zz_CE [(101, zw_xC_firstFit)]) (zz_KE [(22, [(0, 5, true), (1, 9, false), (3, 0, false), (4, 0, false), (5, 0, false), (6, 0, false)], fun vs σ => match vs with | [b0, b1, b2, b3, b4] => k22 b0 b1 b2 b3 b4 σ | _ => none)]) zk_x_missJumped 999 false 0 0 400 true (zz_sk zk_x_missJumped 63) [(0, 5, 1), (1, 9, v1), (3, 0, v3), (4, 0, v4), (5, 0, v5), (6, 0, v6)] [] σ := rfl
noncomputable def x_missJumped_22 : Nat → Int → Int → Int → Int → Int → zz_S → zz_R
  | 0, _, _, _, _, _, _ => none
  | n + 1, v1, v3, v4, v5, v6, σ => (if v6 < 720 then (if v5 = (-1) then (some (0, σ)) else (if v4 = 0 then (if v1 = 0 then none else ((xB_add (zz_h σ 7 v1 0) v5 3 σ).bind fun q1 => (x_missJumped_63 (x_missJumped_22 n) v1 v3 v4 v5 v6 q1.2))) else ((x_comeDue v1 σ).bind fun q2 => (x_missJumped_63 (x_missJumped_22 n) v1 v3 v4 v5 v6 q2.2)))) else (some (0, σ)))
set_option maxRecDepth 100000 in
set_option maxHeartbeats 4000000 in
theorem ze_x_missJumped_22 (n : Nat) (v1 v3 v4 v5 v6 : Int) (σ : zz_S) : x_missJumped_22 (n + 1) v1 v3 v4 v5 v6 σ = zz_ev (zz_CE [(36, zw_x_comeDue), (82, zw_xB_add)]) (zz_KE [(63, [(0, 5, true), (1, 9, false), (3, 0, false), (4, 0, false), (5, 0, false), (6, 0, false)], fun vs σ => match vs with | [b0, b1, b2, b3, b4] => x_missJumped_63 (x_missJumped_22 n) b0 b1 b2 b3 b4 σ | _ => none)]) zk_x_missJumped 999 false 0 0 400 true (zz_sk zk_x_missJumped 22) [(0, 5, 1), (1, 9, v1), (3, 0, v3), (4, 0, v4), (5, 0, v5), (6, 0, v6)] [] σ := rfl
noncomputable def x_missJumped (v1 v2 v3 : Int) (σ : zz_S) : zz_R := (if v1 = 0 then none else (if v1 = 0 then none else (if zz_b σ 28 v1 4 then (if v1 = 0 then none else (if v1 = 0 then none else ((xC_firstFit v1 v2 v3 σ).bind fun q1 => (x_missJumped_22 zz_fu v1 v3 (zz_h σ 28 v1 4) q1.1 0 q1.2)))) else none)))
set_option maxRecDepth 100000 in
set_option maxHeartbeats 4000000 in
theorem ze_x_missJumped (v1 v2 v3 : Int) (σ : zz_S) : x_missJumped v1 v2 v3 σ = zz_ev (zz_CE [(101, zw_xC_firstFit)]) (zz_KE [(22, [(0, 5, true), (1, 9, false), (3, 0, false), (4, 0, false), (5, 0, false), (6, 0, false)], fun vs σ => match vs with | [b0, b1, b2, b3, b4] => x_missJumped_22 zz_fu b0 b1 b2 b3 b4 σ | _ => none)]) zk_x_missJumped 999 false 0 0 400 true (zz_sk zk_x_missJumped 0) [(0, 5, 1), (1, 9, v1), (2, 0, v2), (3, 0, v3)] [] σ := rfl
noncomputable def zw_x_missJumped : List Int → zz_S → zz_R := fun vs σ => match vs with
  | [a0, a1, a2, a3] => if a0 = 1 then x_missJumped a1 a2 a3 σ else none
  | _ => none
def zk_x_jumpOver : List zz_E := [(0, false, .iload_n 1, 1, 0, (0, 0, 0, 0), 0, []),
  (1, false, .aload_n 0, 1, 0, (0, 0, 0, 0), 0, []),
  (2, false, .getfield 84, 3, 181, (3, 18, 0, 0), 0, []),
  (5, false, .iconst 1, 1, 0, (0, 0, 0, 0), 0, []),
  (6, false, .iadd, 1, 0, (0, 0, 0, 0), 0, []),
  (7, false, .invokestatic 258, 3, 510, (168, 2, 0, 0), 0, [0, 0]),
  (10, false, .istore_n 3, 1, 0, (0, 0, 0, 0), 0, []),
  (11, false, .iconst 0, 1, 0, (0, 0, 0, 0), 0, []),
  (12, false, .istore 4, 2, 0, (0, 0, 0, 0), 0, []),
  (14, true, .iload 4, 2, 0, (0, 0, 0, 0), 0, []),
  (16, false, .aload_n 0, 1, 0, (0, 0, 0, 0), 0, []),
  (17, false, .getfield 62, 3, 174, (3, 11, 0, 0), 0, []),
  (20, false, .if_icmp .ge 42, 3, 0, (62, 0, 0, 0), 0, []),
  (23, false, .aload_n 0, 1, 0, (0, 0, 0, 0), 0, []),
  (24, false, .iload 4, 2, 0, (0, 0, 0, 0), 0, []),
  (26, false, .invokevirtual 100, 3, 385, (73, 2, 9, 0), 0, [0, 5]),
  (29, false, .astore 5, 2, 0, (0, 0, 0, 0), 0, []),
  (31, false, .aload 5, 2, 0, (0, 0, 0, 0), 0, []),
  (33, false, .invokestatic 273, 3, 515, (74, 1, 0, 0), 0, [9]),
  (36, false, .ifCond .eq 20, 3, 0, (56, 0, 0, 0), 0, []),
  (39, false, .aload 5, 2, 0, (0, 0, 0, 0), 0, []),
  (41, false, .getfield 114, 3, 301, (7, 1, 0, 0), 0, []),
  (44, false, .iconst 3, 1, 0, (0, 0, 0, 0), 0, []),
  (45, false, .if_icmp .ne 11, 3, 0, (56, 0, 0, 0), 0, []),
  (48, false, .aload_n 0, 1, 0, (0, 0, 0, 0), 0, []),
  (49, false, .aload 5, 2, 0, (0, 0, 0, 0), 0, []),
  (51, false, .iload_n 3, 1, 0, (0, 0, 0, 0), 0, []),
  (52, false, .iload_n 2, 1, 0, (0, 0, 0, 0), 0, []),
  (53, false, .invokevirtual 373, 3, 686, (50, 4, 999, 0), 0, [0, 0, 9, 5]),
  (56, false, .iinc 4 1, 3, 0, (0, 0, 0, 0), 0, []),
  (59, false, .goto (-45), 3, 0, (14, 0, 0, 0), 0, []),
  (62, false, .aload_n 0, 1, 0, (0, 0, 0, 0), 0, []),
  (63, false, .aload_n 0, 1, 0, (0, 0, 0, 0), 0, []),
  (64, false, .getfield 84, 3, 181, (3, 18, 0, 0), 0, []),
  (67, false, .iload_n 2, 1, 0, (0, 0, 0, 0), 0, []),
  (68, false, .invokestatic 258, 3, 510, (168, 2, 0, 0), 0, [0, 0]),
  (71, false, .putfield 84, 3, 181, (3, 18, 0, 0), 0, []),
  (74, false, .return_, 1, 0, (0, 0, 0, 0), 0, [])]
noncomputable def x_jumpOver_14 : Nat → Int → Int → Int → zz_S → zz_R
  | 0, _, _, _, _ => none
  | n + 1, v2, v3, v4, σ => (if v4 < (zz_h σ 3 1 11) then ((x_taskAt v4 σ).bind fun q1 => ((x_isActive q1.1 q1.2).bind fun q2 => (if q2.1 = 0 then (x_jumpOver_14 n v2 v3 (zz_r (v4 + 1)) q2.2) else (if q1.1 = 0 then none else (if (zz_h q2.2 7 q1.1 1) = 3 then ((x_missJumped q1.1 v3 v2 q2.2).bind fun q3 => (x_jumpOver_14 n v2 v3 (zz_r (v4 + 1)) q3.2)) else (x_jumpOver_14 n v2 v3 (zz_r (v4 + 1)) q2.2)))))) else ((j_max (zz_h σ 3 1 18) v2 σ).bind fun q4 => (let s5 := zz_w q4.2 3 1 18 q4.1; (some (0, s5)))))
set_option maxRecDepth 100000 in
set_option maxHeartbeats 4000000 in
theorem ze_x_jumpOver_14 (n : Nat) (v2 v3 v4 : Int) (σ : zz_S) : x_jumpOver_14 (n + 1) v2 v3 v4 σ = zz_ev (zz_CE [(50, zw_x_missJumped), (73, zw_x_taskAt), (74, zw_x_isActive), (168, zw_j_max)]) (zz_KE [(14, [(0, 5, true), (2, 0, false), (3, 0, false), (4, 0, false)], fun vs σ => match vs with | [b0, b1, b2] => x_jumpOver_14 n b0 b1 b2 σ | _ => none)]) zk_x_jumpOver 999 false 0 0 400 true (zz_sk zk_x_jumpOver 14) [(0, 5, 1), (2, 0, v2), (3, 0, v3), (4, 0, v4)] [] σ := rfl
noncomputable def x_jumpOver (v1 v2 : Int) (σ : zz_S) : zz_R := ((j_max v1 (zz_r ((zz_h σ 3 1 18) + 1)) σ).bind fun q1 => (x_jumpOver_14 zz_fu v2 q1.1 0 q1.2))
set_option maxRecDepth 100000 in
set_option maxHeartbeats 4000000 in
theorem ze_x_jumpOver (v1 v2 : Int) (σ : zz_S) : x_jumpOver v1 v2 σ = zz_ev (zz_CE [(168, zw_j_max)]) (zz_KE [(14, [(0, 5, true), (2, 0, false), (3, 0, false), (4, 0, false)], fun vs σ => match vs with | [b0, b1, b2] => x_jumpOver_14 zz_fu b0 b1 b2 σ | _ => none)]) zk_x_jumpOver 999 false 0 0 400 true (zz_sk zk_x_jumpOver 0) [(0, 5, 1), (1, 0, v1), (2, 0, v2)] [] σ := rfl
noncomputable def zw_x_jumpOver : List Int → zz_S → zz_R := fun vs σ => match vs with
  | [a0, a1, a2] => if a0 = 1 then x_jumpOver a1 a2 σ else none
  | _ => none
def zk_x_jump : List zz_E := [(0, false, .iload_n 1, 1, 0, (0, 0, 0, 0), 0, []),
  (1, false, .ifCond .eq 16, 3, 0, (17, 0, 0, 0), 0, []),
  (4, false, .iload_n 1, 1, 0, (0, 0, 0, 0), 0, []),
  (5, false, .sipush (-720), 3, 0, (0, 0, 0, 0), 0, []),
  (8, false, .sipush 720, 3, 0, (0, 0, 0, 0), 0, []),
  (11, false, .invokestatic 91, 3, 228, (72, 3, 0, 0), 0, [0, 0, 0]),
  (14, false, .ifCond .ne 6, 3, 0, (20, 0, 0, 0), 0, []),
  (17, false, .bipush (-2), 2, 0, (0, 0, 0, 0), 0, []),
  (19, false, .ireturn, 1, 0, (0, 0, 0, 0), 0, []),
  (20, false, .aload_n 0, 1, 0, (0, 0, 0, 0), 0, []),
  (21, false, .getfield 81, 3, 180, (3, 17, 0, 0), 0, []),
  (24, false, .iload_n 1, 1, 0, (0, 0, 0, 0), 0, []),
  (25, false, .iadd, 1, 0, (0, 0, 0, 0), 0, []),
  (26, false, .sipush (-1440), 3, 0, (0, 0, 0, 0), 0, []),
  (29, false, .sipush 1440, 3, 0, (0, 0, 0, 0), 0, []),
  (32, false, .invokestatic 91, 3, 228, (72, 3, 0, 0), 0, [0, 0, 0]),
  (35, false, .ifCond .eq 17, 3, 0, (52, 0, 0, 0), 0, []),
  (38, false, .aload_n 0, 1, 0, (0, 0, 0, 0), 0, []),
  (39, false, .getfield 78, 3, 179, (3, 16, 0, 0), 0, []),
  (42, false, .aload_n 0, 1, 0, (0, 0, 0, 0), 0, []),
  (43, false, .getfield 81, 3, 180, (3, 17, 0, 0), 0, []),
  (46, false, .iadd, 1, 0, (0, 0, 0, 0), 0, []),
  (47, false, .iload_n 1, 1, 0, (0, 0, 0, 0), 0, []),
  (48, false, .iadd, 1, 0, (0, 0, 0, 0), 0, []),
  (49, false, .ifCond .ge 6, 3, 0, (55, 0, 0, 0), 0, []),
  (52, false, .bipush (-2), 2, 0, (0, 0, 0, 0), 0, []),
  (54, false, .ireturn, 1, 0, (0, 0, 0, 0), 0, []),
  (55, false, .iload_n 1, 1, 0, (0, 0, 0, 0), 0, []),
  (56, false, .ifCond .le 29, 3, 0, (85, 0, 0, 0), 0, []),
  (59, false, .aload_n 0, 1, 0, (0, 0, 0, 0), 0, []),
  (60, false, .aload_n 0, 1, 0, (0, 0, 0, 0), 0, []),
  (61, false, .getfield 78, 3, 179, (3, 16, 0, 0), 0, []),
  (64, false, .aload_n 0, 1, 0, (0, 0, 0, 0), 0, []),
  (65, false, .getfield 81, 3, 180, (3, 17, 0, 0), 0, []),
  (68, false, .iadd, 1, 0, (0, 0, 0, 0), 0, []),
  (69, false, .aload_n 0, 1, 0, (0, 0, 0, 0), 0, []),
  (70, false, .getfield 78, 3, 179, (3, 16, 0, 0), 0, []),
  (73, false, .aload_n 0, 1, 0, (0, 0, 0, 0), 0, []),
  (74, false, .getfield 81, 3, 180, (3, 17, 0, 0), 0, []),
  (77, false, .iadd, 1, 0, (0, 0, 0, 0), 0, []),
  (78, false, .iload_n 1, 1, 0, (0, 0, 0, 0), 0, []),
  (79, false, .iadd, 1, 0, (0, 0, 0, 0), 0, []),
  (80, false, .iconst 1, 1, 0, (0, 0, 0, 0), 0, []),
  (81, false, .isub, 1, 0, (0, 0, 0, 0), 0, []),
  (82, false, .invokevirtual 370, 3, 682, (49, 3, 999, 0), 0, [0, 0, 5]),
  (85, true, .aload_n 0, 1, 0, (0, 0, 0, 0), 0, []),
  (86, false, .dup, 1, 0, (0, 0, 0, 0), 0, []),
  (87, false, .getfield 81, 3, 180, (3, 17, 0, 0), 0, []),
  (90, false, .iload_n 1, 1, 0, (0, 0, 0, 0), 0, []),
  (91, false, .iadd, 1, 0, (0, 0, 0, 0), 0, []),
  (92, false, .putfield 81, 3, 180, (3, 17, 0, 0), 0, []),
  (95, false, .aload_n 0, 1, 0, (0, 0, 0, 0), 0, []),
  (96, false, .getfield 81, 3, 180, (3, 17, 0, 0), 0, []),
  (99, false, .ireturn, 1, 0, (0, 0, 0, 0), 0, [])]
noncomputable def x_jump_85 (v1 : Int) (σ : zz_S) : zz_R := (let s1 := zz_w σ 3 1 17 (zz_r ((zz_h σ 3 1 17) + v1)); (some ((zz_h s1 3 1 17), s1)))
set_option maxRecDepth 100000 in
set_option maxHeartbeats 4000000 in
theorem ze_x_jump_85 (v1 : Int) (σ : zz_S) : x_jump_85 v1 σ = zz_ev (zz_CE []) (zz_KE []) zk_x_jump 0 false 0 0 400 true (zz_sk zk_x_jump 85) [(0, 5, 1), (1, 0, v1)] [] σ := rfl
noncomputable def x_jump (v1 : Int) (σ : zz_S) : zz_R := (if v1 = 0 then (some ((-2), σ)) else ((x_isWithin v1 (-720) 720 σ).bind fun q1 => (if q1.1 = 0 then (some ((-2), q1.2)) else ((x_isWithin (zz_r ((zz_h q1.2 3 1 17) + v1)) (-1440) 1440 q1.2).bind fun q2 => (if q2.1 = 0 then (some ((-2), q2.2)) else (if (zz_r ((zz_r ((zz_h q2.2 3 1 16) + (zz_h q2.2 3 1 17))) + v1)) < 0 then (some ((-2), q2.2)) else (if v1 ≤ 0 then (x_jump_85 v1 q2.2) else ((x_jumpOver (zz_r ((zz_h q2.2 3 1 16) + (zz_h q2.2 3 1 17))) (zz_r ((zz_r ((zz_r ((zz_h q2.2 3 1 16) + (zz_h q2.2 3 1 17))) + v1)) - 1)) q2.2).bind fun q3 => (x_jump_85 v1 q3.2)))))))))
set_option maxRecDepth 100000 in
set_option maxHeartbeats 4000000 in
theorem ze_x_jump (v1 : Int) (σ : zz_S) : x_jump v1 σ = zz_ev (zz_CE [(49, zw_x_jumpOver), (72, zw_x_isWithin)]) (zz_KE [(85, [(0, 5, true), (1, 0, false)], fun vs σ => match vs with | [b0] => x_jump_85 b0 σ | _ => none)]) zk_x_jump 0 false 0 0 400 true (zz_sk zk_x_jump 0) [(0, 5, 1), (1, 0, v1)] [] σ := rfl
noncomputable def zw_x_jump : List Int → zz_S → zz_R := fun vs σ => match vs with
  | [a0, a1] => if a0 = 1 then x_jump a1 σ else none
  | _ => none
def zk_x_firstAtWork : List zz_E := [(0, false, .iconst 0, 1, 0, (0, 0, 0, 0), 0, []),
  (1, false, .istore_n 2, 1, 0, (0, 0, 0, 0), 0, []),
  (2, true, .iload_n 2, 1, 0, (0, 0, 0, 0), 0, []),
  (3, false, .aload_n 0, 1, 0, (0, 0, 0, 0), 0, []),
  (4, false, .getfield 69, 3, 176, (3, 13, 0, 0), 0, []),
  (7, false, .if_icmp .ge 34, 3, 0, (41, 0, 0, 0), 0, []),
  (10, false, .aload_n 0, 1, 0, (0, 0, 0, 0), 0, []),
  (11, false, .getfield 21, 3, 165, (3, 2, 15, 1), 0, []),
  (14, false, .iload_n 2, 1, 0, (0, 0, 0, 0), 0, []),
  (15, false, .aaload, 1, 0, (13, 0, 12, 0), 0, []),
  (16, false, .astore_n 3, 1, 0, (0, 0, 0, 0), 0, []),
  (17, false, .aload_n 3, 1, 0, (0, 0, 0, 0), 0, []),
  (18, false, .ifnull 17, 3, 0, (35, 0, 0, 0), 0, []),
  (21, false, .aload_n 1, 1, 0, (0, 0, 0, 0), 0, []),
  (22, false, .ifnull 11, 3, 0, (33, 0, 0, 0), 0, []),
  (25, false, .aload_n 3, 1, 0, (0, 0, 0, 0), 0, []),
  (26, false, .getfield 203, 3, 636, (10, 1, 9, 0), 0, []),
  (29, false, .aload_n 1, 1, 0, (0, 0, 0, 0), 0, []),
  (30, false, .if_acmp .ne 5, 3, 0, (35, 0, 0, 0), 0, []),
  (33, false, .aload_n 3, 1, 0, (0, 0, 0, 0), 0, []),
  (34, false, .areturn, 1, 0, (0, 0, 0, 0), 0, []),
  (35, false, .iinc 2 1, 3, 0, (0, 0, 0, 0), 0, []),
  (38, false, .goto (-36), 3, 0, (2, 0, 0, 0), 0, []),
  (41, false, .aconst_null, 1, 0, (0, 0, 0, 0), 0, []),
  (42, false, .areturn, 1, 0, (0, 0, 0, 0), 0, [])]
noncomputable def x_firstAtWork_2 : Nat → Int → Int → zz_S → zz_R
  | 0, _, _, _ => none
  | n + 1, v1, v2, σ => (if v2 < (zz_h σ 3 1 13) then (if zz_b σ 13 1 v2 then (if (zz_h σ 13 1 v2) = 0 then (x_firstAtWork_2 n v1 (zz_r (v2 + 1)) σ) else (if v1 = 0 then (some ((zz_h σ 13 1 v2), σ)) else (if (zz_h σ 13 1 v2) = 0 then none else (if (zz_h σ 10 (zz_h σ 13 1 v2) 1) = v1 then (some ((zz_h σ 13 1 v2), σ)) else (x_firstAtWork_2 n v1 (zz_r (v2 + 1)) σ))))) else none) else (some (0, σ)))
set_option maxRecDepth 100000 in
set_option maxHeartbeats 4000000 in
theorem ze_x_firstAtWork_2 (n : Nat) (v1 v2 : Int) (σ : zz_S) : x_firstAtWork_2 (n + 1) v1 v2 σ = zz_ev (zz_CE []) (zz_KE [(2, [(0, 5, true), (1, 9, false), (2, 0, false)], fun vs σ => match vs with | [b0, b1] => x_firstAtWork_2 n b0 b1 σ | _ => none)]) zk_x_firstAtWork 12 false 0 0 400 true (zz_sk zk_x_firstAtWork 2) [(0, 5, 1), (1, 9, v1), (2, 0, v2)] [] σ := rfl
noncomputable def x_firstAtWork (v1 : Int) (σ : zz_S) : zz_R := (x_firstAtWork_2 zz_fu v1 0 σ)
set_option maxRecDepth 100000 in
set_option maxHeartbeats 4000000 in
theorem ze_x_firstAtWork (v1 : Int) (σ : zz_S) : x_firstAtWork v1 σ = zz_ev (zz_CE []) (zz_KE [(2, [(0, 5, true), (1, 9, false), (2, 0, false)], fun vs σ => match vs with | [b0, b1] => x_firstAtWork_2 zz_fu b0 b1 σ | _ => none)]) zk_x_firstAtWork 12 false 0 0 400 true (zz_sk zk_x_firstAtWork 0) [(0, 5, 1), (1, 9, v1)] [] σ := rfl
noncomputable def zw_x_firstAtWork : List Int → zz_S → zz_R := fun vs σ => match vs with
  | [a0, a1] => if a0 = 1 then x_firstAtWork a1 σ else none
  | _ => none
def zk_x_interruptRuns : List zz_E := [(0, false, .iconst 0, 1, 0, (0, 0, 0, 0), 0, []),
  (1, false, .istore_n 2, 1, 0, (0, 0, 0, 0), 0, []),
  (2, true, .iload_n 2, 1, 0, (0, 0, 0, 0), 0, []),
  (3, false, .bipush 8, 2, 0, (0, 0, 0, 0), 0, []),
  (5, false, .if_icmp .ge 47, 3, 0, (52, 0, 0, 0), 0, []),
  (8, false, .aload_n 0, 1, 0, (0, 0, 0, 0), 0, []),
  (9, false, .aload_n 1, 1, 0, (0, 0, 0, 0), 0, []),
  (10, false, .invokevirtual 386, 3, 704, (54, 2, 12, 0), 0, [9, 5]),
  (13, false, .astore_n 3, 1, 0, (0, 0, 0, 0), 0, []),
  (14, false, .aload_n 3, 1, 0, (0, 0, 0, 0), 0, []),
  (15, false, .ifnonnull 4, 3, 0, (19, 0, 0, 0), 0, []),
  (18, false, .return_, 1, 0, (0, 0, 0, 0), 0, []),
  (19, false, .aload_n 0, 1, 0, (0, 0, 0, 0), 0, []),
  (20, false, .aload_n 3, 1, 0, (0, 0, 0, 0), 0, []),
  (21, false, .iconst 3, 1, 0, (0, 0, 0, 0), 0, []),
  (22, false, .invokevirtual 216, 3, 499, (32, 3, 999, 0), 0, [0, 12, 5]),
  (25, false, .aload_n 1, 1, 0, (0, 0, 0, 0), 0, []),
  (26, false, .ifnonnull 11, 3, 0, (37, 0, 0, 0), 0, []),
  (29, false, .aload_n 0, 1, 0, (0, 0, 0, 0), 0, []),
  (30, false, .aload_n 3, 1, 0, (0, 0, 0, 0), 0, []),
  (31, false, .getfield 203, 3, 636, (10, 1, 9, 0), 0, []),
  (34, false, .invokevirtual 315, 3, 538, (38, 2, 999, 0), 0, [9, 5]),
  (37, false, .aload_n 0, 1, 0, (0, 0, 0, 0), 0, []),
  (38, false, .aload_n 3, 1, 0, (0, 0, 0, 0), 0, []),
  (39, false, .getfield 203, 3, 636, (10, 1, 9, 0), 0, []),
  (42, false, .iconst 0, 1, 0, (0, 0, 0, 0), 0, []),
  (43, false, .invokevirtual 234, 3, 511, (33, 3, 999, 0), 0, [0, 9, 5]),
  (46, false, .iinc 2 1, 3, 0, (0, 0, 0, 0), 0, []),
  (49, false, .goto (-47), 3, 0, (2, 0, 0, 0), 0, []),
  (52, false, .return_, 1, 0, (0, 0, 0, 0), 0, [])]
noncomputable def x_interruptRuns_2 : Nat → Int → Int → zz_S → zz_R
  | 0, _, _, _ => none
  | n + 1, v1, v2, σ => (if v2 < 8 then ((x_firstAtWork v1 σ).bind fun q1 => (if q1.1 = 0 then (some (0, q1.2)) else ((x_layDown q1.1 3 q1.2).bind fun q2 => (if v1 = 0 then (if q1.1 = 0 then none else ((x_pauseAgain (zz_h q2.2 10 q1.1 1) q2.2).bind fun q3 => (if q1.1 = 0 then none else ((x_tellAfters (zz_h q3.2 10 q1.1 1) 0 q3.2).bind fun q4 => (x_interruptRuns_2 n v1 (zz_r (v2 + 1)) q4.2))))) else (if q1.1 = 0 then none else ((x_tellAfters (zz_h q2.2 10 q1.1 1) 0 q2.2).bind fun q5 => (x_interruptRuns_2 n v1 (zz_r (v2 + 1)) q5.2))))))) else (some (0, σ)))
set_option maxRecDepth 100000 in
set_option maxHeartbeats 4000000 in
theorem ze_x_interruptRuns_2 (n : Nat) (v1 v2 : Int) (σ : zz_S) : x_interruptRuns_2 (n + 1) v1 v2 σ = zz_ev (zz_CE [(32, zw_x_layDown), (33, zw_x_tellAfters), (38, zw_x_pauseAgain), (54, zw_x_firstAtWork)]) (zz_KE [(2, [(0, 5, true), (1, 9, false), (2, 0, false)], fun vs σ => match vs with | [b0, b1] => x_interruptRuns_2 n b0 b1 σ | _ => none)]) zk_x_interruptRuns 999 false 0 0 400 true (zz_sk zk_x_interruptRuns 2) [(0, 5, 1), (1, 9, v1), (2, 0, v2)] [] σ := rfl
noncomputable def x_interruptRuns (v1 : Int) (σ : zz_S) : zz_R := (x_interruptRuns_2 zz_fu v1 0 σ)
set_option maxRecDepth 100000 in
set_option maxHeartbeats 4000000 in
theorem ze_x_interruptRuns (v1 : Int) (σ : zz_S) : x_interruptRuns v1 σ = zz_ev (zz_CE []) (zz_KE [(2, [(0, 5, true), (1, 9, false), (2, 0, false)], fun vs σ => match vs with | [b0, b1] => x_interruptRuns_2 zz_fu b0 b1 σ | _ => none)]) zk_x_interruptRuns 999 false 0 0 400 true (zz_sk zk_x_interruptRuns 0) [(0, 5, 1), (1, 9, v1)] [] σ := rfl
noncomputable def zw_x_interruptRuns : List Int → zz_S → zz_R := fun vs σ => match vs with
  | [a0, a1] => if a0 = 1 then x_interruptRuns a1 σ else none
  | _ => none
def zk_x_cancel : List zz_E := [(0, false, .aload_n 0, 1, 0, (0, 0, 0, 0), 0, []),
  (1, false, .iload_n 1, 1, 0, (0, 0, 0, 0), 0, []),
  (2, false, .invokevirtual 100, 3, 385, (73, 2, 9, 0), 0, [0, 5]),
  (5, false, .astore_n 3, 1, 0, (0, 0, 0, 0), 0, []),
  (6, false, .aload_n 3, 1, 0, (0, 0, 0, 0), 0, []),
  (7, false, .ifnull 12, 3, 0, (19, 0, 0, 0), 0, []),
  (10, false, .iload_n 2, 1, 0, (0, 0, 0, 0), 0, []),
  (11, false, .iconst 0, 1, 0, (0, 0, 0, 0), 0, []),
  (12, false, .iconst 1, 1, 0, (0, 0, 0, 0), 0, []),
  (13, false, .invokestatic 91, 3, 228, (72, 3, 0, 0), 0, [0, 0, 0]),
  (16, false, .ifCond .ne 6, 3, 0, (22, 0, 0, 0), 0, []),
  (19, false, .bipush (-2), 2, 0, (0, 0, 0, 0), 0, []),
  (21, false, .ireturn, 1, 0, (0, 0, 0, 0), 0, []),
  (22, false, .aload_n 3, 1, 0, (0, 0, 0, 0), 0, []),
  (23, false, .invokevirtual 226, 3, 483, (88, 1, 0, 0), 0, [9]),
  (26, false, .ifCond .ne 6, 3, 0, (32, 0, 0, 0), 0, []),
  (29, false, .bipush (-3), 2, 0, (0, 0, 0, 0), 0, []),
  (31, false, .ireturn, 1, 0, (0, 0, 0, 0), 0, []),
  (32, false, .aload_n 0, 1, 0, (0, 0, 0, 0), 0, []),
  (33, false, .aload_n 3, 1, 0, (0, 0, 0, 0), 0, []),
  (34, false, .iconst 3, 1, 0, (0, 0, 0, 0), 0, []),
  (35, false, .invokevirtual 238, 3, 487, (52, 3, 999, 0), 0, [0, 9, 5]),
  (38, false, .iload_n 2, 1, 0, (0, 0, 0, 0), 0, []),
  (39, false, .iconst 1, 1, 0, (0, 0, 0, 0), 0, []),
  (40, false, .if_icmp .ne 8, 3, 0, (48, 0, 0, 0), 0, []),
  (43, false, .aload_n 0, 1, 0, (0, 0, 0, 0), 0, []),
  (44, false, .aload_n 3, 1, 0, (0, 0, 0, 0), 0, []),
  (45, false, .invokevirtual 380, 3, 700, (53, 2, 999, 0), 0, [9, 5]),
  (48, false, .iconst 1, 1, 0, (0, 0, 0, 0), 0, []),
  (49, false, .ireturn, 1, 0, (0, 0, 0, 0), 0, [])]
noncomputable def x_cancel (v1 v2 : Int) (σ : zz_S) : zz_R := ((x_taskAt v1 σ).bind fun q1 => (if q1.1 = 0 then (some ((-2), q1.2)) else ((x_isWithin v2 0 1 q1.2).bind fun q2 => (if q2.1 = 0 then (some ((-2), q2.2)) else (if q1.1 = 0 then none else ((xT_isActive q1.1 q2.2).bind fun q3 => (if q3.1 = 0 then (some ((-3), q3.2)) else ((x_leave q1.1 3 q3.2).bind fun q4 => (if v2 = 1 then ((x_interruptRuns q1.1 q4.2).bind fun q5 => (some (1, q5.2))) else (some (1, q4.2)))))))))))
set_option maxRecDepth 100000 in
set_option maxHeartbeats 4000000 in
theorem ze_x_cancel (v1 v2 : Int) (σ : zz_S) : x_cancel v1 v2 σ = zz_ev (zz_CE [(52, zw_x_leave), (53, zw_x_interruptRuns), (72, zw_x_isWithin), (73, zw_x_taskAt), (88, zw_xT_isActive)]) (zz_KE []) zk_x_cancel 0 false 0 0 400 true (zz_sk zk_x_cancel 0) [(0, 5, 1), (1, 0, v1), (2, 0, v2)] [] σ := rfl
noncomputable def zw_x_cancel : List Int → zz_S → zz_R := fun vs σ => match vs with
  | [a0, a1, a2] => if a0 = 1 then x_cancel a1 a2 σ else none
  | _ => none
def zk_xD_clear : List zz_E := [(0, false, .iconst 0, 1, 0, (0, 0, 0, 0), 0, []),
  (1, false, .istore_n 1, 1, 0, (0, 0, 0, 0), 0, []),
  (2, true, .iload_n 1, 1, 0, (0, 0, 0, 0), 0, []),
  (3, false, .aload_n 0, 1, 0, (0, 0, 0, 0), 0, []),
  (4, false, .getfield 25, 3, 107, (4, 3, 0, 0), 0, []),
  (7, false, .if_icmp .ge 25, 3, 0, (32, 0, 0, 0), 0, []),
  (10, false, .aload_n 0, 1, 0, (0, 0, 0, 0), 0, []),
  (11, false, .getfield 11, 3, 101, (4, 0, 21, 1), 0, []),
  (14, false, .iload_n 1, 1, 0, (0, 0, 0, 0), 0, []),
  (15, false, .aaload, 1, 0, (19, 0, 9, 0), 0, []),
  (16, false, .astore_n 2, 1, 0, (0, 0, 0, 0), 0, []),
  (17, false, .aload_n 2, 1, 0, (0, 0, 0, 0), 0, []),
  (18, false, .ifnull 8, 3, 0, (26, 0, 0, 0), 0, []),
  (21, false, .aload_n 2, 1, 0, (0, 0, 0, 0), 0, []),
  (22, false, .iconst 0, 1, 0, (0, 0, 0, 0), 0, []),
  (23, false, .putfield 29, 3, 334, (7, 16, 0, 0), 0, []),
  (26, false, .iinc 1 1, 3, 0, (0, 0, 0, 0), 0, []),
  (29, false, .goto (-27), 3, 0, (2, 0, 0, 0), 0, []),
  (32, false, .aload_n 0, 1, 0, (0, 0, 0, 0), 0, []),
  (33, false, .iconst 0, 1, 0, (0, 0, 0, 0), 0, []),
  (34, false, .putfield 25, 3, 107, (4, 3, 0, 0), 0, []),
  (37, false, .return_, 1, 0, (0, 0, 0, 0), 0, [])]
noncomputable def xD_clear_2 : Nat → Int → zz_S → zz_R
  | 0, _, _ => none
  | n + 1, v1, σ => (if v1 < (zz_h σ 4 1 3) then (if zz_b σ 19 1 v1 then (if (zz_h σ 19 1 v1) = 0 then (xD_clear_2 n (zz_r (v1 + 1)) σ) else (if (zz_h σ 19 1 v1) = 0 then none else (let s1 := zz_w σ 7 (zz_h σ 19 1 v1) 16 0; (xD_clear_2 n (zz_r (v1 + 1)) s1)))) else none) else (let s2 := zz_w σ 4 1 3 0; (some (0, s2))))
set_option maxRecDepth 100000 in
set_option maxHeartbeats 4000000 in
theorem ze_xD_clear_2 (n : Nat) (v1 : Int) (σ : zz_S) : xD_clear_2 (n + 1) v1 σ = zz_ev (zz_CE []) (zz_KE [(2, [(0, 6, true), (1, 0, false)], fun vs σ => match vs with | [b0] => xD_clear_2 n b0 σ | _ => none)]) zk_xD_clear 999 false 0 0 400 true (zz_sk zk_xD_clear 2) [(0, 6, 1), (1, 0, v1)] [] σ := rfl
noncomputable def xD_clear (σ : zz_S) : zz_R := (xD_clear_2 zz_fu 0 σ)
set_option maxRecDepth 100000 in
set_option maxHeartbeats 4000000 in
theorem ze_xD_clear (σ : zz_S) : xD_clear σ = zz_ev (zz_CE []) (zz_KE [(2, [(0, 6, true), (1, 0, false)], fun vs σ => match vs with | [b0] => xD_clear_2 zz_fu b0 σ | _ => none)]) zk_xD_clear 999 false 0 0 400 true (zz_sk zk_xD_clear 0) [(0, 6, 1)] [] σ := rfl
noncomputable def zw_xD_clear : List Int → zz_S → zz_R := fun vs σ => match vs with
  | [a0] => if a0 = 1 then xD_clear σ else none
  | _ => none
def zk_x_dropDues : List zz_E := [(0, false, .iconst 0, 1, 0, (0, 0, 0, 0), 0, []),
  (1, false, .istore_n 1, 1, 0, (0, 0, 0, 0), 0, []),
  (2, true, .iload_n 1, 1, 0, (0, 0, 0, 0), 0, []),
  (3, false, .aload_n 0, 1, 0, (0, 0, 0, 0), 0, []),
  (4, false, .getfield 27, 3, 166, (3, 3, 6, 1), 0, []),
  (7, false, .getfield 318, 3, 108, (4, 3, 0, 0), 0, []),
  (10, false, .if_icmp .ge 52, 3, 0, (62, 0, 0, 0), 0, []),
  (13, false, .aload_n 0, 1, 0, (0, 0, 0, 0), 0, []),
  (14, false, .getfield 27, 3, 166, (3, 3, 6, 1), 0, []),
  (17, false, .getfield 322, 3, 102, (4, 0, 21, 1), 0, []),
  (20, false, .iload_n 1, 1, 0, (0, 0, 0, 0), 0, []),
  (21, false, .aaload, 1, 0, (19, 0, 9, 0), 0, []),
  (22, false, .astore_n 2, 1, 0, (0, 0, 0, 0), 0, []),
  (23, false, .aload_n 2, 1, 0, (0, 0, 0, 0), 0, []),
  (24, false, .ifnonnull 6, 3, 0, (30, 0, 0, 0), 0, []),
  (27, false, .goto 29, 3, 0, (56, 0, 0, 0), 0, []),
  (30, false, .aload_n 0, 1, 0, (0, 0, 0, 0), 0, []),
  (31, false, .getfield 34, 3, 167, (3, 4, 7, 1), 0, []),
  (34, false, .aload_n 2, 1, 0, (0, 0, 0, 0), 0, []),
  (35, false, .getfield 162, 3, 299, (7, 0, 0, 0), 0, []),
  (38, false, .aload_n 0, 1, 0, (0, 0, 0, 0), 0, []),
  (39, false, .getfield 27, 3, 166, (3, 3, 6, 1), 0, []),
  (42, false, .getfield 334, 3, 104, (4, 1, 22, 1), 0, []),
  (45, false, .iload_n 1, 1, 0, (0, 0, 0, 0), 0, []),
  (46, false, .iaload, 1, 0, (20, 0, 0, 0), 0, []),
  (47, false, .iconst 4, 1, 0, (0, 0, 0, 0), 0, []),
  (48, false, .invokevirtual 314, 3, 534, (82, 4, 999, 0), 0, [0, 0, 0, 7]),
  (51, false, .aload_n 0, 1, 0, (0, 0, 0, 0), 0, []),
  (52, false, .aload_n 2, 1, 0, (0, 0, 0, 0), 0, []),
  (53, false, .invokevirtual 315, 3, 538, (38, 2, 999, 0), 0, [9, 5]),
  (56, false, .iinc 1 1, 3, 0, (0, 0, 0, 0), 0, []),
  (59, false, .goto (-57), 3, 0, (2, 0, 0, 0), 0, []),
  (62, false, .aload_n 0, 1, 0, (0, 0, 0, 0), 0, []),
  (63, false, .getfield 27, 3, 166, (3, 3, 6, 1), 0, []),
  (66, false, .invokevirtual 393, 3, 716, (79, 1, 999, 0), 0, [6]),
  (69, false, .return_, 1, 0, (0, 0, 0, 0), 0, [])]
noncomputable def x_dropDues_2 : Nat → Int → zz_S → zz_R
  | 0, _, _ => none
  | n + 1, v1, σ => (if v1 < (zz_h σ 4 1 3) then (if zz_b σ 19 1 v1 then (if (zz_h σ 19 1 v1) = 0 then (x_dropDues_2 n (zz_r (v1 + 1)) σ) else (if (zz_h σ 19 1 v1) = 0 then none else (if zz_b σ 20 1 v1 then ((xB_add (zz_h σ 7 (zz_h σ 19 1 v1) 0) (zz_h σ 20 1 v1) 4 σ).bind fun q1 => ((x_pauseAgain (zz_h σ 19 1 v1) q1.2).bind fun q2 => (x_dropDues_2 n (zz_r (v1 + 1)) q2.2))) else none))) else none) else ((xD_clear σ).bind fun q3 => (some (0, q3.2))))
set_option maxRecDepth 100000 in
set_option maxHeartbeats 4000000 in
theorem ze_x_dropDues_2 (n : Nat) (v1 : Int) (σ : zz_S) : x_dropDues_2 (n + 1) v1 σ = zz_ev (zz_CE [(38, zw_x_pauseAgain), (79, zw_xD_clear), (82, zw_xB_add)]) (zz_KE [(2, [(0, 5, true), (1, 0, false)], fun vs σ => match vs with | [b0] => x_dropDues_2 n b0 σ | _ => none)]) zk_x_dropDues 999 false 0 0 400 true (zz_sk zk_x_dropDues 2) [(0, 5, 1), (1, 0, v1)] [] σ := rfl
noncomputable def x_dropDues (σ : zz_S) : zz_R := (x_dropDues_2 zz_fu 0 σ)
set_option maxRecDepth 100000 in
set_option maxHeartbeats 4000000 in
theorem ze_x_dropDues (σ : zz_S) : x_dropDues σ = zz_ev (zz_CE []) (zz_KE [(2, [(0, 5, true), (1, 0, false)], fun vs σ => match vs with | [b0] => x_dropDues_2 zz_fu b0 σ | _ => none)]) zk_x_dropDues 999 false 0 0 400 true (zz_sk zk_x_dropDues 0) [(0, 5, 1)] [] σ := rfl
noncomputable def zw_x_dropDues : List Int → zz_S → zz_R := fun vs σ => match vs with
  | [a0] => if a0 = 1 then x_dropDues σ else none
  | _ => none
def zk_x_stop : List zz_E := [(0, false, .iload_n 1, 1, 0, (0, 0, 0, 0), 0, []),
  (1, false, .iconst 0, 1, 0, (0, 0, 0, 0), 0, []),
  (2, false, .iconst 1, 1, 0, (0, 0, 0, 0), 0, []),
  (3, false, .invokestatic 91, 3, 228, (72, 3, 0, 0), 0, [0, 0, 0]),
  (6, false, .ifCond .ne 6, 3, 0, (12, 0, 0, 0), 0, []),
  (9, false, .bipush (-2), 2, 0, (0, 0, 0, 0), 0, []),
  (11, false, .ireturn, 1, 0, (0, 0, 0, 0), 0, []),
  (12, false, .aload_n 0, 1, 0, (0, 0, 0, 0), 0, []),
  (13, false, .getfield 87, 3, 182, (3, 19, 0, 0), 1, []),
  (16, false, .ifCond .eq 6, 3, 0, (22, 0, 0, 0), 0, []),
  (19, false, .bipush (-3), 2, 0, (0, 0, 0, 0), 0, []),
  (21, false, .ireturn, 1, 0, (0, 0, 0, 0), 0, []),
  (22, false, .aload_n 0, 1, 0, (0, 0, 0, 0), 0, []),
  (23, false, .iconst 1, 1, 0, (0, 0, 0, 0), 0, []),
  (24, false, .putfield 87, 3, 182, (3, 19, 0, 0), 1, []),
  (27, false, .iload_n 1, 1, 0, (0, 0, 0, 0), 0, []),
  (28, false, .iconst 1, 1, 0, (0, 0, 0, 0), 0, []),
  (29, false, .if_icmp .ne 12, 3, 0, (41, 0, 0, 0), 0, []),
  (32, false, .aload_n 0, 1, 0, (0, 0, 0, 0), 0, []),
  (33, false, .invokevirtual 390, 3, 712, (56, 1, 999, 0), 0, [5]),
  (36, false, .aload_n 0, 1, 0, (0, 0, 0, 0), 0, []),
  (37, false, .aconst_null, 1, 0, (0, 0, 0, 0), 0, []),
  (38, false, .invokevirtual 380, 3, 700, (53, 2, 999, 0), 0, [9, 5]),
  (41, false, .iconst 1, 1, 0, (0, 0, 0, 0), 0, []),
  (42, false, .ireturn, 1, 0, (0, 0, 0, 0), 0, [])]
noncomputable def x_stop (v1 : Int) (σ : zz_S) : zz_R := ((x_isWithin v1 0 1 σ).bind fun q1 => (if q1.1 = 0 then (some ((-2), q1.2)) else (if (zz_h q1.2 3 1 19) = 0 then (let s2 := zz_w q1.2 3 1 19 1; (if v1 = 1 then ((x_dropDues s2).bind fun q3 => ((x_interruptRuns 0 q3.2).bind fun q4 => (some (1, q4.2)))) else (some (1, s2)))) else (some ((-3), q1.2)))))
set_option maxRecDepth 100000 in
set_option maxHeartbeats 4000000 in
theorem ze_x_stop (v1 : Int) (σ : zz_S) : x_stop v1 σ = zz_ev (zz_CE [(53, zw_x_interruptRuns), (56, zw_x_dropDues), (72, zw_x_isWithin)]) (zz_KE []) zk_x_stop 0 false 0 0 400 true (zz_sk zk_x_stop 0) [(0, 5, 1), (1, 0, v1)] [] σ := rfl
noncomputable def zw_x_stop : List Int → zz_S → zz_R := fun vs σ => match vs with
  | [a0, a1] => if a0 = 1 then x_stop a1 σ else none
  | _ => none
def zk_x_go : List zz_E := [(0, false, .aload_n 0, 1, 0, (0, 0, 0, 0), 0, []),
  (1, false, .getfield 87, 3, 182, (3, 19, 0, 0), 1, []),
  (4, false, .ifCond .ne 6, 3, 0, (10, 0, 0, 0), 0, []),
  (7, false, .bipush (-3), 2, 0, (0, 0, 0, 0), 0, []),
  (9, false, .ireturn, 1, 0, (0, 0, 0, 0), 0, []),
  (10, false, .aload_n 0, 1, 0, (0, 0, 0, 0), 0, []),
  (11, false, .iconst 0, 1, 0, (0, 0, 0, 0), 0, []),
  (12, false, .putfield 87, 3, 182, (3, 19, 0, 0), 1, []),
  (15, false, .iconst 1, 1, 0, (0, 0, 0, 0), 0, []),
  (16, false, .ireturn, 1, 0, (0, 0, 0, 0), 0, [])]
noncomputable def x_go (σ : zz_S) : zz_R := (if (zz_h σ 3 1 19) = 0 then (some ((-3), σ)) else (let s1 := zz_w σ 3 1 19 0; (some (1, s1))))
set_option maxRecDepth 100000 in
set_option maxHeartbeats 4000000 in
theorem ze_x_go (σ : zz_S) : x_go σ = zz_ev (zz_CE []) (zz_KE []) zk_x_go 0 false 0 0 400 true (zz_sk zk_x_go 0) [(0, 5, 1)] [] σ := rfl
noncomputable def zw_x_go : List Int → zz_S → zz_R := fun vs σ => match vs with
  | [a0] => if a0 = 1 then x_go σ else none
  | _ => none
def zk_x_run : List zz_E := [(0, false, .iload_n 1, 1, 0, (0, 0, 0, 0), 0, []),
  (1, false, .iconst 0, 1, 0, (0, 0, 0, 0), 0, []),
  (2, false, .aload_n 0, 1, 0, (0, 0, 0, 0), 0, []),
  (3, false, .getfield 66, 3, 175, (3, 12, 0, 0), 0, []),
  (6, false, .iconst 1, 1, 0, (0, 0, 0, 0), 0, []),
  (7, false, .isub, 1, 0, (0, 0, 0, 0), 0, []),
  (8, false, .invokestatic 91, 3, 228, (72, 3, 0, 0), 0, [0, 0, 0]),
  (11, false, .ifCond .eq 12, 3, 0, (23, 0, 0, 0), 0, []),
  (14, false, .aload_n 0, 1, 0, (0, 0, 0, 0), 0, []),
  (15, false, .getfield 17, 3, 164, (3, 1, 14, 1), 0, []),
  (18, false, .iload_n 1, 1, 0, (0, 0, 0, 0), 0, []),
  (19, false, .aaload, 1, 0, (12, 0, 12, 0), 0, []),
  (20, false, .goto 4, 3, 0, (24, 0, 0, 0), 0, []),
  (23, false, .aconst_null, 1, 0, (0, 0, 0, 0), 0, []),
  (24, false, .astore_n 3, 1, 0, (0, 0, 0, 0), 0, []),
  (25, false, .aload_n 3, 1, 0, (0, 0, 0, 0), 0, []),
  (26, false, .ifnonnull 6, 3, 0, (32, 0, 0, 0), 0, []),
  (29, false, .bipush (-2), 2, 0, (0, 0, 0, 0), 0, []),
  (31, false, .ireturn, 1, 0, (0, 0, 0, 0), 0, []),
  (32, false, .iload_n 2, 1, 0, (0, 0, 0, 0), 0, []),
  (33, false, .tableswitch 90 0 7 #[47, 55, 60, 65, 70, 75, 80, 85], 47, 0, (123, 0, 0, 0), 0, [80, 88, 93, 98, 103, 108, 113, 118]),
  (80, false, .aload_n 3, 1, 0, (0, 0, 0, 0), 0, []),
  (81, false, .getfield 203, 3, 636, (10, 1, 9, 0), 0, []),
  (84, false, .getfield 162, 3, 299, (7, 0, 0, 0), 0, []),
  (87, false, .ireturn, 1, 0, (0, 0, 0, 0), 0, []),
  (88, false, .aload_n 3, 1, 0, (0, 0, 0, 0), 0, []),
  (89, false, .getfield 396, 3, 640, (10, 3, 0, 0), 0, []),
  (92, false, .ireturn, 1, 0, (0, 0, 0, 0), 0, []),
  (93, false, .aload_n 3, 1, 0, (0, 0, 0, 0), 0, []),
  (94, false, .getfield 399, 3, 642, (10, 4, 0, 0), 0, []),
  (97, false, .ireturn, 1, 0, (0, 0, 0, 0), 0, []),
  (98, false, .aload_n 3, 1, 0, (0, 0, 0, 0), 0, []),
  (99, false, .getfield 267, 3, 650, (10, 8, 0, 0), 0, []),
  (102, false, .ireturn, 1, 0, (0, 0, 0, 0), 0, []),
  (103, false, .aload_n 3, 1, 0, (0, 0, 0, 0), 0, []),
  (104, false, .getfield 270, 3, 652, (10, 9, 0, 0), 0, []),
  (107, false, .ireturn, 1, 0, (0, 0, 0, 0), 0, []),
  (108, false, .aload_n 3, 1, 0, (0, 0, 0, 0), 0, []),
  (109, false, .getfield 220, 3, 654, (10, 10, 0, 0), 0, []),
  (112, false, .ireturn, 1, 0, (0, 0, 0, 0), 0, []),
  (113, false, .aload_n 3, 1, 0, (0, 0, 0, 0), 0, []),
  (114, false, .getfield 261, 3, 646, (10, 6, 0, 0), 0, []),
  (117, false, .ireturn, 1, 0, (0, 0, 0, 0), 0, []),
  (118, false, .aload_n 3, 1, 0, (0, 0, 0, 0), 0, []),
  (119, false, .getfield 361, 3, 648, (10, 7, 0, 0), 0, []),
  (122, false, .ireturn, 1, 0, (0, 0, 0, 0), 0, []),
  (123, false, .bipush (-2), 2, 0, (0, 0, 0, 0), 0, []),
  (125, false, .ireturn, 1, 0, (0, 0, 0, 0), 0, [])]
noncomputable def x_run (v1 v2 : Int) (σ : zz_S) : zz_R := ((x_isWithin v1 0 (zz_r ((zz_h σ 3 1 12) - 1)) σ).bind fun q1 => (if q1.1 = 0 then (some ((-2), q1.2)) else (if zz_b q1.2 12 1 v1 then (if (zz_h q1.2 12 1 v1) = 0 then (some ((-2), q1.2)) else (if v2 = 0 then (if (zz_h q1.2 12 1 v1) = 0 then none else (if (zz_h q1.2 10 (zz_h q1.2 12 1 v1) 1) = 0 then none else (some ((zz_h q1.2 7 (zz_h q1.2 10 (zz_h q1.2 12 1 v1) 1) 0), q1.2)))) else (if v2 = 1 then (if (zz_h q1.2 12 1 v1) = 0 then none else (some ((zz_h q1.2 10 (zz_h q1.2 12 1 v1) 3), q1.2))) else (if v2 = 2 then (if (zz_h q1.2 12 1 v1) = 0 then none else (some ((zz_h q1.2 10 (zz_h q1.2 12 1 v1) 4), q1.2))) else (if v2 = 3 then (if (zz_h q1.2 12 1 v1) = 0 then none else (some ((zz_h q1.2 10 (zz_h q1.2 12 1 v1) 8), q1.2))) else (if v2 = 4 then (if (zz_h q1.2 12 1 v1) = 0 then none else (some ((zz_h q1.2 10 (zz_h q1.2 12 1 v1) 9), q1.2))) else (if v2 = 5 then (if (zz_h q1.2 12 1 v1) = 0 then none else (some ((zz_h q1.2 10 (zz_h q1.2 12 1 v1) 10), q1.2))) else (if v2 = 6 then (if (zz_h q1.2 12 1 v1) = 0 then none else (some ((zz_h q1.2 10 (zz_h q1.2 12 1 v1) 6), q1.2))) else (if v2 = 7 then (if (zz_h q1.2 12 1 v1) = 0 then none else (some ((zz_h q1.2 10 (zz_h q1.2 12 1 v1) 7), q1.2))) else (some ((-2), q1.2))))))))))) else none)))
set_option maxRecDepth 100000 in
set_option maxHeartbeats 4000000 in
theorem ze_x_run (v1 v2 : Int) (σ : zz_S) : x_run v1 v2 σ = zz_ev (zz_CE [(72, zw_x_isWithin)]) (zz_KE []) zk_x_run 0 false 0 0 400 true (zz_sk zk_x_run 0) [(0, 5, 1), (1, 0, v1), (2, 0, v2)] [] σ := rfl
noncomputable def zw_x_run : List Int → zz_S → zz_R := fun vs σ => match vs with
  | [a0, a1, a2] => if a0 = 1 then x_run a1 a2 σ else none
  | _ => none
def zk_x_stateOf : List zz_E := [(0, false, .aload_n 1, 1, 0, (0, 0, 0, 0), 0, []),
  (1, false, .invokevirtual 226, 3, 483, (88, 1, 0, 0), 0, [9]),
  (4, false, .ifCond .ne 8, 3, 0, (12, 0, 0, 0), 0, []),
  (7, false, .aload_n 1, 1, 0, (0, 0, 0, 0), 0, []),
  (8, false, .getfield 319, 3, 321, (7, 10, 0, 0), 0, []),
  (11, false, .ireturn, 1, 0, (0, 0, 0, 0), 0, []),
  (12, false, .aload_n 1, 1, 0, (0, 0, 0, 0), 0, []),
  (13, false, .getfield 264, 3, 332, (7, 15, 0, 0), 0, []),
  (16, false, .ifCond .le 5, 3, 0, (21, 0, 0, 0), 0, []),
  (19, false, .iconst 1, 1, 0, (0, 0, 0, 0), 0, []),
  (20, false, .ireturn, 1, 0, (0, 0, 0, 0), 0, []),
  (21, false, .aload_n 1, 1, 0, (0, 0, 0, 0), 0, []),
  (22, false, .getfield 114, 3, 301, (7, 1, 0, 0), 0, []),
  (25, false, .ifCond .ne 25, 3, 0, (50, 0, 0, 0), 0, []),
  (28, false, .aload_n 1, 1, 0, (0, 0, 0, 0), 0, []),
  (29, false, .getfield 292, 3, 303, (7, 2, 0, 0), 0, []),
  (32, false, .aload_n 0, 1, 0, (0, 0, 0, 0), 0, []),
  (33, false, .getfield 78, 3, 179, (3, 16, 0, 0), 0, []),
  (36, false, .if_icmp .ge 14, 3, 0, (50, 0, 0, 0), 0, []),
  (39, false, .aload_n 1, 1, 0, (0, 0, 0, 0), 0, []),
  (40, false, .getfield 337, 3, 335, (7, 16, 0, 0), 0, []),
  (43, false, .ifCond .ne 7, 3, 0, (50, 0, 0, 0), 0, []),
  (46, false, .iconst 1, 1, 0, (0, 0, 0, 0), 0, []),
  (47, false, .goto 4, 3, 0, (51, 0, 0, 0), 0, []),
  (50, true, .iconst 0, 1, 0, (0, 0, 0, 0), 0, []),
  (51, false, .istore_n 2, 1, 0, (0, 0, 0, 0), 0, []),
  (52, false, .iload_n 2, 1, 0, (0, 0, 0, 0), 0, []),
  (53, false, .ifCond .eq 7, 3, 0, (60, 0, 0, 0), 0, []),
  (56, false, .iconst 2, 1, 0, (0, 0, 0, 0), 0, []),
  (57, false, .goto 4, 3, 0, (61, 0, 0, 0), 0, []),
  (60, false, .iconst 0, 1, 0, (0, 0, 0, 0), 0, []),
  (61, false, .ireturn, 1, 0, (0, 0, 0, 0), 0, [])]
noncomputable def x_stateOf_50 (σ : zz_S) : zz_R := (some (0, σ))
set_option maxRecDepth 100000 in
set_option maxHeartbeats 4000000 in
theorem ze_x_stateOf_50 (σ : zz_S) : x_stateOf_50 σ = zz_ev (zz_CE []) (zz_KE []) zk_x_stateOf 0 false 0 0 400 true (zz_sk zk_x_stateOf 50) [] [] σ := rfl
noncomputable def x_stateOf (v1 : Int) (σ : zz_S) : zz_R := (if v1 = 0 then none else ((xT_isActive v1 σ).bind fun q1 => (if q1.1 = 0 then (if v1 = 0 then none else (some ((zz_h q1.2 7 v1 10), q1.2))) else (if v1 = 0 then none else (if (zz_h q1.2 7 v1 15) ≤ 0 then (if v1 = 0 then none else (if (zz_h q1.2 7 v1 1) = 0 then (if v1 = 0 then none else (if (zz_h q1.2 7 v1 2) < (zz_h q1.2 3 1 16) then (if v1 = 0 then none else (if (zz_h q1.2 7 v1 16) = 0 then (some (2, q1.2)) else (x_stateOf_50 q1.2))) else (x_stateOf_50 q1.2))) else (x_stateOf_50 q1.2))) else (some (1, q1.2)))))))
set_option maxRecDepth 100000 in
set_option maxHeartbeats 4000000 in
theorem ze_x_stateOf (v1 : Int) (σ : zz_S) : x_stateOf v1 σ = zz_ev (zz_CE [(88, zw_xT_isActive)]) (zz_KE [(50, [], fun vs σ => match vs with | [] => x_stateOf_50 σ | _ => none)]) zk_x_stateOf 0 false 0 0 400 true (zz_sk zk_x_stateOf 0) [(0, 5, 1), (1, 9, v1)] [] σ := rfl
noncomputable def zw_x_stateOf : List Int → zz_S → zz_R := fun vs σ => match vs with
  | [a0, a1] => if a0 = 1 then x_stateOf a1 σ else none
  | _ => none
def zk_x_of : List zz_E := [(0, false, .aload_n 0, 1, 0, (0, 0, 0, 0), 0, []),
  (1, false, .iload_n 1, 1, 0, (0, 0, 0, 0), 0, []),
  (2, false, .invokevirtual 100, 3, 385, (73, 2, 9, 0), 0, [0, 5]),
  (5, false, .astore_n 3, 1, 0, (0, 0, 0, 0), 0, []),
  (6, false, .aload_n 3, 1, 0, (0, 0, 0, 0), 0, []),
  (7, false, .ifnonnull 6, 3, 0, (13, 0, 0, 0), 0, []),
  (10, false, .bipush (-2), 2, 0, (0, 0, 0, 0), 0, []),
  (12, false, .ireturn, 1, 0, (0, 0, 0, 0), 0, []),
  (13, false, .iload_n 2, 1, 0, (0, 0, 0, 0), 0, []),
  (14, false, .tableswitch 102 0 7 #[46, 52, 57, 62, 67, 72, 77, 97], 46, 0, (116, 0, 0, 0), 0, [60, 66, 71, 76, 81, 86, 91, 111]),
  (60, false, .aload_n 0, 1, 0, (0, 0, 0, 0), 0, []),
  (61, false, .aload_n 3, 1, 0, (0, 0, 0, 0), 0, []),
  (62, false, .invokevirtual 400, 3, 732, (60, 2, 0, 0), 0, [9, 5]),
  (65, false, .ireturn, 1, 0, (0, 0, 0, 0), 0, []),
  (66, false, .aload_n 3, 1, 0, (0, 0, 0, 0), 0, []),
  (67, false, .getfield 114, 3, 301, (7, 1, 0, 0), 0, []),
  (70, false, .ireturn, 1, 0, (0, 0, 0, 0), 0, []),
  (71, false, .aload_n 3, 1, 0, (0, 0, 0, 0), 0, []),
  (72, false, .getfield 364, 3, 330, (7, 14, 0, 0), 0, []),
  (75, false, .ireturn, 1, 0, (0, 0, 0, 0), 0, []),
  (76, false, .aload_n 3, 1, 0, (0, 0, 0, 0), 0, []),
  (77, false, .getfield 311, 3, 337, (7, 17, 0, 0), 0, []),
  (80, false, .ireturn, 1, 0, (0, 0, 0, 0), 0, []),
  (81, false, .aload_n 3, 1, 0, (0, 0, 0, 0), 0, []),
  (82, false, .getfield 337, 3, 335, (7, 16, 0, 0), 0, []),
  (85, false, .ireturn, 1, 0, (0, 0, 0, 0), 0, []),
  (86, false, .aload_n 3, 1, 0, (0, 0, 0, 0), 0, []),
  (87, false, .getfield 223, 3, 327, (7, 13, 0, 0), 0, []),
  (90, false, .ireturn, 1, 0, (0, 0, 0, 0), 0, []),
  (91, false, .aload_n 3, 1, 0, (0, 0, 0, 0), 0, []),
  (92, false, .getfield 255, 3, 325, (7, 12, 0, 0), 0, []),
  (95, false, .aload_n 0, 1, 0, (0, 0, 0, 0), 0, []),
  (96, false, .getfield 78, 3, 179, (3, 16, 0, 0), 0, []),
  (99, false, .if_icmp .le 10, 3, 0, (109, 0, 0, 0), 0, []),
  (102, false, .aload_n 3, 1, 0, (0, 0, 0, 0), 0, []),
  (103, false, .getfield 255, 3, 325, (7, 12, 0, 0), 0, []),
  (106, false, .goto 4, 3, 0, (110, 0, 0, 0), 0, []),
  (109, false, .iconst (-1), 1, 0, (0, 0, 0, 0), 0, []),
  (110, false, .ireturn, 1, 0, (0, 0, 0, 0), 0, []),
  (111, false, .aload_n 3, 1, 0, (0, 0, 0, 0), 0, []),
  (112, false, .getfield 133, 3, 315, (7, 7, 0, 0), 0, []),
  (115, false, .ireturn, 1, 0, (0, 0, 0, 0), 0, []),
  (116, false, .bipush (-2), 2, 0, (0, 0, 0, 0), 0, []),
  (118, false, .ireturn, 1, 0, (0, 0, 0, 0), 0, [])]
noncomputable def x_of (v1 v2 : Int) (σ : zz_S) : zz_R := ((x_taskAt v1 σ).bind fun q1 => (if q1.1 = 0 then (some ((-2), q1.2)) else (if v2 = 0 then ((x_stateOf q1.1 q1.2).bind fun q2 => (some (q2.1, q2.2))) else (if v2 = 1 then (if q1.1 = 0 then none else (some ((zz_h q1.2 7 q1.1 1), q1.2))) else (if v2 = 2 then (if q1.1 = 0 then none else (some ((zz_h q1.2 7 q1.1 14), q1.2))) else (if v2 = 3 then (if q1.1 = 0 then none else (some ((zz_h q1.2 7 q1.1 17), q1.2))) else (if v2 = 4 then (if q1.1 = 0 then none else (some ((zz_h q1.2 7 q1.1 16), q1.2))) else (if v2 = 5 then (if q1.1 = 0 then none else (some ((zz_h q1.2 7 q1.1 13), q1.2))) else (if v2 = 6 then (if q1.1 = 0 then none else (if (zz_h q1.2 7 q1.1 12) ≤ (zz_h q1.2 3 1 16) then (some ((-1), q1.2)) else (if q1.1 = 0 then none else (some ((zz_h q1.2 7 q1.1 12), q1.2))))) else (if v2 = 7 then (if q1.1 = 0 then none else (some ((zz_h q1.2 7 q1.1 7), q1.2))) else (some ((-2), q1.2))))))))))))
set_option maxRecDepth 100000 in
set_option maxHeartbeats 4000000 in
theorem ze_x_of (v1 v2 : Int) (σ : zz_S) : x_of v1 v2 σ = zz_ev (zz_CE [(60, zw_x_stateOf), (73, zw_x_taskAt)]) (zz_KE []) zk_x_of 0 false 0 0 400 true (zz_sk zk_x_of 0) [(0, 5, 1), (1, 0, v1), (2, 0, v2)] [] σ := rfl
noncomputable def zw_x_of : List Int → zz_S → zz_R := fun vs σ => match vs with
  | [a0, a1, a2] => if a0 = 1 then x_of a1 a2 σ else none
  | _ => none
def zk_xT_firstOfRate : List zz_E := [(0, false, .aload_n 0, 1, 0, (0, 0, 0, 0), 0, []),
  (1, false, .getfield 72, 3, 302, (7, 2, 0, 0), 0, []),
  (4, false, .iload_n 1, 1, 0, (0, 0, 0, 0), 0, []),
  (5, false, .if_icmp .lt 8, 3, 0, (13, 0, 0, 0), 0, []),
  (8, false, .aload_n 0, 1, 0, (0, 0, 0, 0), 0, []),
  (9, false, .getfield 72, 3, 302, (7, 2, 0, 0), 0, []),
  (12, false, .ireturn, 1, 0, (0, 0, 0, 0), 0, []),
  (13, false, .iload_n 1, 1, 0, (0, 0, 0, 0), 0, []),
  (14, false, .aload_n 0, 1, 0, (0, 0, 0, 0), 0, []),
  (15, false, .getfield 72, 3, 302, (7, 2, 0, 0), 0, []),
  (18, false, .isub, 1, 0, (0, 0, 0, 0), 0, []),
  (19, false, .aload_n 0, 1, 0, (0, 0, 0, 0), 0, []),
  (20, false, .invokevirtual 87, 3, 748, (91, 1, 0, 0), 0, [9]),
  (23, false, .iadd, 1, 0, (0, 0, 0, 0), 0, []),
  (24, false, .iconst 1, 1, 0, (0, 0, 0, 0), 0, []),
  (25, false, .isub, 1, 0, (0, 0, 0, 0), 0, []),
  (26, false, .aload_n 0, 1, 0, (0, 0, 0, 0), 0, []),
  (27, false, .invokevirtual 87, 3, 748, (91, 1, 0, 0), 0, [9]),
  (30, false, .idiv, 1, 0, (0, 0, 0, 0), 0, []),
  (31, false, .istore_n 2, 1, 0, (0, 0, 0, 0), 0, []),
  (32, false, .aload_n 0, 1, 0, (0, 0, 0, 0), 0, []),
  (33, false, .getfield 72, 3, 302, (7, 2, 0, 0), 0, []),
  (36, false, .iload_n 2, 1, 0, (0, 0, 0, 0), 0, []),
  (37, false, .aload_n 0, 1, 0, (0, 0, 0, 0), 0, []),
  (38, false, .invokevirtual 87, 3, 748, (91, 1, 0, 0), 0, [9]),
  (41, false, .imul, 1, 0, (0, 0, 0, 0), 0, []),
  (42, false, .iadd, 1, 0, (0, 0, 0, 0), 0, []),
  (43, false, .ireturn, 1, 0, (0, 0, 0, 0), 0, [])]
noncomputable def xT_firstOfRate (v0 v1 : Int) (σ : zz_S) : zz_R := (if v0 = 0 then none else (if (zz_h σ 7 v0 2) < v1 then (if v0 = 0 then none else (if v0 = 0 then none else ((xT_step v0 σ).bind fun q1 => (if v0 = 0 then none else ((xT_step v0 q1.2).bind fun q2 => (if q2.1 = 0 then none else (if v0 = 0 then none else (if v0 = 0 then none else ((xT_step v0 q2.2).bind fun q3 => (some ((zz_r ((zz_h q2.2 7 v0 2) + (zz_r ((zz_div (zz_r ((zz_r ((zz_r (v1 - (zz_h σ 7 v0 2))) + q1.1)) - 1)) q2.1) * q3.1)))), q3.2))))))))))) else (if v0 = 0 then none else (some ((zz_h σ 7 v0 2), σ)))))
set_option maxRecDepth 100000 in
set_option maxHeartbeats 4000000 in
theorem ze_xT_firstOfRate (v0 v1 : Int) (σ : zz_S) : xT_firstOfRate v0 v1 σ = zz_ev (zz_CE [(91, zw_xT_step)]) (zz_KE []) zk_xT_firstOfRate 0 false 0 0 400 true (zz_sk zk_xT_firstOfRate 0) [(0, 9, v0), (1, 0, v1)] [] σ := rfl
noncomputable def zw_xT_firstOfRate : List Int → zz_S → zz_R := fun vs σ => match vs with
  | [a0, a1] => xT_firstOfRate a0 a1 σ
  | _ => none
def zk_x_calendarMinute : List zz_E := [(0, false, .ldc 95, 2, 239, (0, 0, 0, 0), 400000, []),
  (2, false, .aload_n 0, 1, 0, (0, 0, 0, 0), 0, []),
  (3, false, .getfield 81, 3, 180, (3, 17, 0, 0), 0, []),
  (6, false, .iadd, 1, 0, (0, 0, 0, 0), 0, []),
  (7, false, .istore_n 3, 1, 0, (0, 0, 0, 0), 0, []),
  (8, false, .aload_n 1, 1, 0, (0, 0, 0, 0), 0, []),
  (9, false, .aload_n 0, 1, 0, (0, 0, 0, 0), 0, []),
  (10, false, .getfield 78, 3, 179, (3, 16, 0, 0), 0, []),
  (13, false, .aload_n 0, 1, 0, (0, 0, 0, 0), 0, []),
  (14, false, .getfield 81, 3, 180, (3, 17, 0, 0), 0, []),
  (17, false, .iadd, 1, 0, (0, 0, 0, 0), 0, []),
  (18, false, .aload_n 0, 1, 0, (0, 0, 0, 0), 0, []),
  (19, false, .getfield 84, 3, 181, (3, 18, 0, 0), 0, []),
  (22, false, .iconst 1, 1, 0, (0, 0, 0, 0), 0, []),
  (23, false, .iadd, 1, 0, (0, 0, 0, 0), 0, []),
  (24, false, .invokestatic 258, 3, 510, (168, 2, 0, 0), 0, [0, 0]),
  (27, false, .iload_n 3, 1, 0, (0, 0, 0, 0), 0, []),
  (28, false, .invokevirtual 377, 3, 690, (101, 3, 0, 0), 0, [0, 0, 10]),
  (31, false, .istore 4, 2, 0, (0, 0, 0, 0), 0, []),
  (33, false, .iconst 0, 1, 0, (0, 0, 0, 0), 0, []),
  (34, false, .istore 5, 2, 0, (0, 0, 0, 0), 0, []),
  (36, true, .iload 5, 2, 0, (0, 0, 0, 0), 0, []),
  (38, false, .iload_n 2, 1, 0, (0, 0, 0, 0), 0, []),
  (39, false, .if_icmp .ge 26, 3, 0, (65, 0, 0, 0), 0, []),
  (42, false, .iload 4, 2, 0, (0, 0, 0, 0), 0, []),
  (44, false, .iconst (-1), 1, 0, (0, 0, 0, 0), 0, []),
  (45, false, .if_icmp .eq 20, 3, 0, (65, 0, 0, 0), 0, []),
  (48, false, .aload_n 1, 1, 0, (0, 0, 0, 0), 0, []),
  (49, false, .iload 4, 2, 0, (0, 0, 0, 0), 0, []),
  (51, false, .iconst 1, 1, 0, (0, 0, 0, 0), 0, []),
  (52, false, .iadd, 1, 0, (0, 0, 0, 0), 0, []),
  (53, false, .iload_n 3, 1, 0, (0, 0, 0, 0), 0, []),
  (54, false, .invokevirtual 377, 3, 690, (101, 3, 0, 0), 0, [0, 0, 10]),
  (57, false, .istore 4, 2, 0, (0, 0, 0, 0), 0, []),
  (59, false, .iinc 5 1, 3, 0, (0, 0, 0, 0), 0, []),
  (62, false, .goto (-26), 3, 0, (36, 0, 0, 0), 0, []),
  (65, true, .iload 4, 2, 0, (0, 0, 0, 0), 0, []),
  (67, false, .iconst (-1), 1, 0, (0, 0, 0, 0), 0, []),
  (68, false, .if_icmp .ne 7, 3, 0, (75, 0, 0, 0), 0, []),
  (71, false, .iconst (-1), 1, 0, (0, 0, 0, 0), 0, []),
  (72, false, .goto 10, 3, 0, (82, 0, 0, 0), 0, []),
  (75, false, .iload 4, 2, 0, (0, 0, 0, 0), 0, []),
  (77, false, .aload_n 0, 1, 0, (0, 0, 0, 0), 0, []),
  (78, false, .getfield 81, 3, 180, (3, 17, 0, 0), 0, []),
  (81, false, .isub, 1, 0, (0, 0, 0, 0), 0, []),
  (82, false, .ireturn, 1, 0, (0, 0, 0, 0), 0, [])]
noncomputable def x_calendarMinute_65 (v4 : Int) (σ : zz_S) : zz_R := (if v4 = (-1) then (some ((-1), σ)) else (some ((zz_r (v4 - (zz_h σ 3 1 17))), σ)))
set_option maxRecDepth 100000 in
set_option maxHeartbeats 4000000 in
theorem ze_x_calendarMinute_65 (v4 : Int) (σ : zz_S) : x_calendarMinute_65 v4 σ = zz_ev (zz_CE []) (zz_KE []) zk_x_calendarMinute 0 false 0 0 400 true (zz_sk zk_x_calendarMinute 65) [(0, 5, 1), (4, 0, v4)] [] σ := rfl
noncomputable def x_calendarMinute_36 : Nat → Int → Int → Int → Int → Int → zz_S → zz_R
  | 0, _, _, _, _, _, _ => none
  | n + 1, v1, v2, v3, v4, v5, σ => (if v5 < v2 then (if v4 = (-1) then (x_calendarMinute_65 v4 σ) else (if v1 = 0 then none else ((xC_firstFit v1 (zz_r (v4 + 1)) v3 σ).bind fun q1 => (x_calendarMinute_36 n v1 v2 v3 q1.1 (zz_r (v5 + 1)) q1.2)))) else (x_calendarMinute_65 v4 σ))
set_option maxRecDepth 100000 in
set_option maxHeartbeats 4000000 in
theorem ze_x_calendarMinute_36 (n : Nat) (v1 v2 v3 v4 v5 : Int) (σ : zz_S) : x_calendarMinute_36 (n + 1) v1 v2 v3 v4 v5 σ = zz_ev (zz_CE [(101, zw_xC_firstFit)]) (zz_KE [(36, [(0, 5, true), (1, 10, false), (2, 0, false), (3, 0, false), (4, 0, false), (5, 0, false)], fun vs σ => match vs with | [b0, b1, b2, b3, b4] => x_calendarMinute_36 n b0 b1 b2 b3 b4 σ | _ => none), (65, [(0, 5, true), (4, 0, false)], fun vs σ => match vs with | [b0] => x_calendarMinute_65 b0 σ | _ => none)]) zk_x_calendarMinute 0 false 0 0 400 true (zz_sk zk_x_calendarMinute 36) [(0, 5, 1), (1, 10, v1), (2, 0, v2), (3, 0, v3), (4, 0, v4), (5, 0, v5)] [] σ := rfl
noncomputable def x_calendarMinute (v1 v2 : Int) (σ : zz_S) : zz_R := ((j_max (zz_r ((zz_h σ 3 1 16) + (zz_h σ 3 1 17))) (zz_r ((zz_h σ 3 1 18) + 1)) σ).bind fun q1 => (if v1 = 0 then none else ((xC_firstFit v1 q1.1 (zz_r (400000 + (zz_h σ 3 1 17))) q1.2).bind fun q2 => (x_calendarMinute_36 zz_fu v1 v2 (zz_r (400000 + (zz_h σ 3 1 17))) q2.1 0 q2.2))))
set_option maxRecDepth 100000 in
set_option maxHeartbeats 4000000 in
theorem ze_x_calendarMinute (v1 v2 : Int) (σ : zz_S) : x_calendarMinute v1 v2 σ = zz_ev (zz_CE [(101, zw_xC_firstFit), (168, zw_j_max)]) (zz_KE [(36, [(0, 5, true), (1, 10, false), (2, 0, false), (3, 0, false), (4, 0, false), (5, 0, false)], fun vs σ => match vs with | [b0, b1, b2, b3, b4] => x_calendarMinute_36 zz_fu b0 b1 b2 b3 b4 σ | _ => none)]) zk_x_calendarMinute 0 false 0 0 400 true (zz_sk zk_x_calendarMinute 0) [(0, 5, 1), (1, 10, v1), (2, 0, v2)] [] σ := rfl
noncomputable def zw_x_calendarMinute : List Int → zz_S → zz_R := fun vs σ => match vs with
  | [a0, a1, a2] => if a0 = 1 then x_calendarMinute a1 a2 σ else none
  | _ => none
def zk_x_dueMinute : List zz_E := [(0, false, .iconst (-1), 1, 0, (0, 0, 0, 0), 0, []),
  (1, false, .istore_n 3, 1, 0, (0, 0, 0, 0), 0, []),
  (2, false, .aload_n 1, 1, 0, (0, 0, 0, 0), 0, []),
  (3, false, .getfield 114, 3, 301, (7, 1, 0, 0), 0, []),
  (6, false, .tableswitch 91 0 3 #[30, 46, 65, 81], 30, 0, (97, 0, 0, 0), 0, [36, 52, 71, 87]),
  (36, false, .iload_n 2, 1, 0, (0, 0, 0, 0), 0, []),
  (37, false, .ifCond .ne 10, 3, 0, (47, 0, 0, 0), 0, []),
  (40, false, .aload_n 1, 1, 0, (0, 0, 0, 0), 0, []),
  (41, false, .getfield 292, 3, 303, (7, 2, 0, 0), 0, []),
  (44, false, .goto 4, 3, 0, (48, 0, 0, 0), 0, []),
  (47, false, .iconst (-1), 1, 0, (0, 0, 0, 0), 0, []),
  (48, false, .istore_n 3, 1, 0, (0, 0, 0, 0), 0, []),
  (49, false, .goto 48, 3, 0, (97, 0, 0, 0), 0, []),
  (52, false, .aload_n 1, 1, 0, (0, 0, 0, 0), 0, []),
  (53, false, .aload_n 0, 1, 0, (0, 0, 0, 0), 0, []),
  (54, false, .getfield 78, 3, 179, (3, 16, 0, 0), 0, []),
  (57, false, .invokevirtual 405, 3, 744, (92, 2, 0, 0), 0, [0, 9]),
  (60, false, .iload_n 2, 1, 0, (0, 0, 0, 0), 0, []),
  (61, false, .aload_n 1, 1, 0, (0, 0, 0, 0), 0, []),
  (62, false, .getfield 246, 3, 305, (7, 3, 0, 0), 0, []),
  (65, false, .imul, 1, 0, (0, 0, 0, 0), 0, []),
  (66, false, .iadd, 1, 0, (0, 0, 0, 0), 0, []),
  (67, false, .istore_n 3, 1, 0, (0, 0, 0, 0), 0, []),
  (68, false, .goto 29, 3, 0, (97, 0, 0, 0), 0, []),
  (71, false, .iload_n 2, 1, 0, (0, 0, 0, 0), 0, []),
  (72, false, .ifCond .ne 10, 3, 0, (82, 0, 0, 0), 0, []),
  (75, false, .aload_n 1, 1, 0, (0, 0, 0, 0), 0, []),
  (76, false, .getfield 249, 3, 323, (7, 11, 0, 0), 0, []),
  (79, false, .goto 4, 3, 0, (83, 0, 0, 0), 0, []),
  (82, false, .iconst (-1), 1, 0, (0, 0, 0, 0), 0, []),
  (83, false, .istore_n 3, 1, 0, (0, 0, 0, 0), 0, []),
  (84, false, .goto 13, 3, 0, (97, 0, 0, 0), 0, []),
  (87, false, .aload_n 0, 1, 0, (0, 0, 0, 0), 0, []),
  (88, false, .aload_n 1, 1, 0, (0, 0, 0, 0), 0, []),
  (89, false, .getfield 122, 3, 311, (7, 5, 10, 1), 0, []),
  (92, false, .iload_n 2, 1, 0, (0, 0, 0, 0), 0, []),
  (93, false, .invokevirtual 408, 3, 749, (63, 3, 0, 0), 0, [0, 10, 5]),
  (96, false, .ireturn, 1, 0, (0, 0, 0, 0), 0, []),
  (97, true, .iload_n 3, 1, 0, (0, 0, 0, 0), 0, []),
  (98, false, .aload_n 0, 1, 0, (0, 0, 0, 0), 0, []),
  (99, false, .getfield 78, 3, 179, (3, 16, 0, 0), 0, []),
  (102, false, .ldc 95, 2, 239, (0, 0, 0, 0), 400000, []),
  (104, false, .invokestatic 91, 3, 228, (72, 3, 0, 0), 0, [0, 0, 0]),
  (107, false, .ifCond .eq 7, 3, 0, (114, 0, 0, 0), 0, []),
  (110, false, .iload_n 3, 1, 0, (0, 0, 0, 0), 0, []),
  (111, false, .goto 4, 3, 0, (115, 0, 0, 0), 0, []),
  (114, false, .iconst (-1), 1, 0, (0, 0, 0, 0), 0, []),
  (115, false, .ireturn, 1, 0, (0, 0, 0, 0), 0, [])]
noncomputable def x_dueMinute_97 (v3 : Int) (σ : zz_S) : zz_R := ((x_isWithin v3 (zz_h σ 3 1 16) 400000 σ).bind fun q1 => (if q1.1 = 0 then (some ((-1), q1.2)) else (some (v3, q1.2))))
set_option maxRecDepth 100000 in
set_option maxHeartbeats 4000000 in
theorem ze_x_dueMinute_97 (v3 : Int) (σ : zz_S) : x_dueMinute_97 v3 σ = zz_ev (zz_CE [(72, zw_x_isWithin)]) (zz_KE []) zk_x_dueMinute 0 false 0 0 400 true (zz_sk zk_x_dueMinute 97) [(0, 5, 1), (3, 0, v3)] [] σ := rfl
noncomputable def x_dueMinute (v1 v2 : Int) (σ : zz_S) : zz_R := (if v1 = 0 then none else (if (zz_h σ 7 v1 1) = 0 then (if v2 = 0 then (if v1 = 0 then none else (x_dueMinute_97 (zz_h σ 7 v1 2) σ)) else (x_dueMinute_97 (-1) σ)) else (if (zz_h σ 7 v1 1) = 1 then (if v1 = 0 then none else ((xT_firstOfRate v1 (zz_h σ 3 1 16) σ).bind fun q2 => (if v1 = 0 then none else (x_dueMinute_97 (zz_r (q2.1 + (zz_r (v2 * (zz_h q2.2 7 v1 3))))) q2.2)))) else (if (zz_h σ 7 v1 1) = 2 then (if v2 = 0 then (if v1 = 0 then none else (x_dueMinute_97 (zz_h σ 7 v1 11) σ)) else (x_dueMinute_97 (-1) σ)) else (if (zz_h σ 7 v1 1) = 3 then (if v1 = 0 then none else ((x_calendarMinute v1 v2 σ).bind fun q1 => (some (q1.1, q1.2)))) else (x_dueMinute_97 (-1) σ))))))
set_option maxRecDepth 100000 in
set_option maxHeartbeats 4000000 in
theorem ze_x_dueMinute (v1 v2 : Int) (σ : zz_S) : x_dueMinute v1 v2 σ = zz_ev (zz_CE [(63, zw_x_calendarMinute), (92, zw_xT_firstOfRate)]) (zz_KE [(97, [(0, 5, true), (3, 0, false)], fun vs σ => match vs with | [b0] => x_dueMinute_97 b0 σ | _ => none)]) zk_x_dueMinute 0 false 0 0 400 true (zz_sk zk_x_dueMinute 0) [(0, 5, 1), (1, 9, v1), (2, 0, v2)] [] σ := rfl
noncomputable def zw_x_dueMinute : List Int → zz_S → zz_R := fun vs σ => match vs with
  | [a0, a1, a2] => if a0 = 1 then x_dueMinute a1 a2 σ else none
  | _ => none
def zk_x_next : List zz_E := [(0, false, .aload_n 0, 1, 0, (0, 0, 0, 0), 0, []),
  (1, false, .iload_n 1, 1, 0, (0, 0, 0, 0), 0, []),
  (2, false, .invokevirtual 100, 3, 385, (73, 2, 9, 0), 0, [0, 5]),
  (5, false, .astore_n 3, 1, 0, (0, 0, 0, 0), 0, []),
  (6, false, .aload_n 3, 1, 0, (0, 0, 0, 0), 0, []),
  (7, false, .ifnull 13, 3, 0, (20, 0, 0, 0), 0, []),
  (10, false, .iload_n 2, 1, 0, (0, 0, 0, 0), 0, []),
  (11, false, .iconst 0, 1, 0, (0, 0, 0, 0), 0, []),
  (12, false, .bipush 9, 2, 0, (0, 0, 0, 0), 0, []),
  (14, false, .invokestatic 91, 3, 228, (72, 3, 0, 0), 0, [0, 0, 0]),
  (17, false, .ifCond .ne 6, 3, 0, (23, 0, 0, 0), 0, []),
  (20, false, .bipush (-2), 2, 0, (0, 0, 0, 0), 0, []),
  (22, false, .ireturn, 1, 0, (0, 0, 0, 0), 0, []),
  (23, false, .aload_n 0, 1, 0, (0, 0, 0, 0), 0, []),
  (24, false, .aload_n 3, 1, 0, (0, 0, 0, 0), 0, []),
  (25, false, .iload_n 2, 1, 0, (0, 0, 0, 0), 0, []),
  (26, false, .invokevirtual 403, 3, 740, (62, 3, 0, 0), 0, [0, 9, 5]),
  (29, false, .ireturn, 1, 0, (0, 0, 0, 0), 0, [])]
noncomputable def x_next (v1 v2 : Int) (σ : zz_S) : zz_R := ((x_taskAt v1 σ).bind fun q1 => (if q1.1 = 0 then (some ((-2), q1.2)) else ((x_isWithin v2 0 9 q1.2).bind fun q2 => (if q2.1 = 0 then (some ((-2), q2.2)) else ((x_dueMinute q1.1 v2 q2.2).bind fun q3 => (some (q3.1, q3.2)))))))
set_option maxRecDepth 100000 in
set_option maxHeartbeats 4000000 in
theorem ze_x_next (v1 v2 : Int) (σ : zz_S) : x_next v1 v2 σ = zz_ev (zz_CE [(62, zw_x_dueMinute), (72, zw_x_isWithin), (73, zw_x_taskAt)]) (zz_KE []) zk_x_next 0 false 0 0 400 true (zz_sk zk_x_next 0) [(0, 5, 1), (1, 0, v1), (2, 0, v2)] [] σ := rfl
noncomputable def zw_x_next : List Int → zz_S → zz_R := fun vs σ => match vs with
  | [a0, a1, a2] => if a0 = 1 then x_next a1 a2 σ else none
  | _ => none
def zk_x_waiting : List zz_E := [(0, false, .iload_n 2, 1, 0, (0, 0, 0, 0), 0, []),
  (1, false, .iconst 0, 1, 0, (0, 0, 0, 0), 0, []),
  (2, false, .iconst 2, 1, 0, (0, 0, 0, 0), 0, []),
  (3, false, .invokestatic 91, 3, 228, (72, 3, 0, 0), 0, [0, 0, 0]),
  (6, false, .ifCond .ne 6, 3, 0, (12, 0, 0, 0), 0, []),
  (9, false, .bipush (-2), 2, 0, (0, 0, 0, 0), 0, []),
  (11, false, .ireturn, 1, 0, (0, 0, 0, 0), 0, []),
  (12, false, .iload_n 1, 1, 0, (0, 0, 0, 0), 0, []),
  (13, false, .iconst 0, 1, 0, (0, 0, 0, 0), 0, []),
  (14, false, .aload_n 0, 1, 0, (0, 0, 0, 0), 0, []),
  (15, false, .getfield 27, 3, 166, (3, 3, 6, 1), 0, []),
  (18, false, .getfield 318, 3, 108, (4, 3, 0, 0), 0, []),
  (21, false, .iconst 1, 1, 0, (0, 0, 0, 0), 0, []),
  (22, false, .isub, 1, 0, (0, 0, 0, 0), 0, []),
  (23, false, .invokestatic 91, 3, 228, (72, 3, 0, 0), 0, [0, 0, 0]),
  (26, false, .ifCond .ne 5, 3, 0, (31, 0, 0, 0), 0, []),
  (29, false, .iconst (-1), 1, 0, (0, 0, 0, 0), 0, []),
  (30, false, .ireturn, 1, 0, (0, 0, 0, 0), 0, []),
  (31, false, .iload_n 2, 1, 0, (0, 0, 0, 0), 0, []),
  (32, false, .iconst 1, 1, 0, (0, 0, 0, 0), 0, []),
  (33, false, .if_icmp .ne 13, 3, 0, (46, 0, 0, 0), 0, []),
  (36, false, .aload_n 0, 1, 0, (0, 0, 0, 0), 0, []),
  (37, false, .getfield 27, 3, 166, (3, 3, 6, 1), 0, []),
  (40, false, .getfield 334, 3, 104, (4, 1, 22, 1), 0, []),
  (43, false, .iload_n 1, 1, 0, (0, 0, 0, 0), 0, []),
  (44, false, .iaload, 1, 0, (20, 0, 0, 0), 0, []),
  (45, false, .ireturn, 1, 0, (0, 0, 0, 0), 0, []),
  (46, false, .iload_n 2, 1, 0, (0, 0, 0, 0), 0, []),
  (47, false, .iconst 2, 1, 0, (0, 0, 0, 0), 0, []),
  (48, false, .if_icmp .ne 21, 3, 0, (69, 0, 0, 0), 0, []),
  (51, false, .aload_n 0, 1, 0, (0, 0, 0, 0), 0, []),
  (52, false, .getfield 27, 3, 166, (3, 3, 6, 1), 0, []),
  (55, false, .getfield 331, 3, 106, (4, 2, 23, 1), 0, []),
  (58, false, .iload_n 1, 1, 0, (0, 0, 0, 0), 0, []),
  (59, false, .baload, 1, 0, (21, 0, 0, 0), 0, []),
  (60, false, .ifCond .eq 7, 3, 0, (67, 0, 0, 0), 0, []),
  (63, false, .iconst 1, 1, 0, (0, 0, 0, 0), 0, []),
  (64, false, .goto 4, 3, 0, (68, 0, 0, 0), 0, []),
  (67, false, .iconst 0, 1, 0, (0, 0, 0, 0), 0, []),
  (68, false, .ireturn, 1, 0, (0, 0, 0, 0), 0, []),
  (69, false, .aload_n 0, 1, 0, (0, 0, 0, 0), 0, []),
  (70, false, .getfield 27, 3, 166, (3, 3, 6, 1), 0, []),
  (73, false, .getfield 322, 3, 102, (4, 0, 21, 1), 0, []),
  (76, false, .iload_n 1, 1, 0, (0, 0, 0, 0), 0, []),
  (77, false, .aaload, 1, 0, (19, 0, 9, 0), 0, []),
  (78, false, .astore_n 3, 1, 0, (0, 0, 0, 0), 0, []),
  (79, false, .aload_n 3, 1, 0, (0, 0, 0, 0), 0, []),
  (80, false, .ifnonnull 7, 3, 0, (87, 0, 0, 0), 0, []),
  (83, false, .iconst (-1), 1, 0, (0, 0, 0, 0), 0, []),
  (84, false, .goto 7, 3, 0, (91, 0, 0, 0), 0, []),
  (87, false, .aload_n 3, 1, 0, (0, 0, 0, 0), 0, []),
  (88, false, .getfield 162, 3, 299, (7, 0, 0, 0), 0, []),
  (91, false, .ireturn, 1, 0, (0, 0, 0, 0), 0, [])]
noncomputable def x_waiting (v1 v2 : Int) (σ : zz_S) : zz_R := ((x_isWithin v2 0 2 σ).bind fun q1 => (if q1.1 = 0 then (some ((-2), q1.2)) else ((x_isWithin v1 0 (zz_r ((zz_h q1.2 4 1 3) - 1)) q1.2).bind fun q2 => (if q2.1 = 0 then (some ((-1), q2.2)) else (if v2 = 1 then (if zz_b q2.2 20 1 v1 then (some ((zz_h q2.2 20 1 v1), q2.2)) else none) else (if v2 = 2 then (if zz_b q2.2 21 1 v1 then (if (zz_h q2.2 21 1 v1) = 0 then (some (0, q2.2)) else (some (1, q2.2))) else none) else (if zz_b q2.2 19 1 v1 then (if (zz_h q2.2 19 1 v1) = 0 then (some ((-1), q2.2)) else (if (zz_h q2.2 19 1 v1) = 0 then none else (some ((zz_h q2.2 7 (zz_h q2.2 19 1 v1) 0), q2.2)))) else none)))))))
set_option maxRecDepth 100000 in
set_option maxHeartbeats 4000000 in
theorem ze_x_waiting (v1 v2 : Int) (σ : zz_S) : x_waiting v1 v2 σ = zz_ev (zz_CE [(72, zw_x_isWithin)]) (zz_KE []) zk_x_waiting 0 false 0 0 400 true (zz_sk zk_x_waiting 0) [(0, 5, 1), (1, 0, v1), (2, 0, v2)] [] σ := rfl
noncomputable def zw_x_waiting : List Int → zz_S → zz_R := fun vs σ => match vs with
  | [a0, a1, a2] => if a0 = 1 then x_waiting a1 a2 σ else none
  | _ => none
def zk_x_book : List zz_E := [(0, false, .iload_n 2, 1, 0, (0, 0, 0, 0), 0, []),
  (1, false, .iconst 0, 1, 0, (0, 0, 0, 0), 0, []),
  (2, false, .iconst 2, 1, 0, (0, 0, 0, 0), 0, []),
  (3, false, .invokestatic 91, 3, 228, (72, 3, 0, 0), 0, [0, 0, 0]),
  (6, false, .ifCond .ne 6, 3, 0, (12, 0, 0, 0), 0, []),
  (9, false, .bipush (-2), 2, 0, (0, 0, 0, 0), 0, []),
  (11, false, .ireturn, 1, 0, (0, 0, 0, 0), 0, []),
  (12, false, .iload_n 1, 1, 0, (0, 0, 0, 0), 0, []),
  (13, false, .iconst 0, 1, 0, (0, 0, 0, 0), 0, []),
  (14, false, .aload_n 0, 1, 0, (0, 0, 0, 0), 0, []),
  (15, false, .getfield 34, 3, 167, (3, 4, 7, 1), 0, []),
  (18, false, .getfield 412, 3, 133, (5, 3, 0, 0), 0, []),
  (21, false, .sipush 300, 3, 0, (0, 0, 0, 0), 0, []),
  (24, false, .invokestatic 172, 3, 456, (169, 2, 0, 0), 0, [0, 0]),
  (27, false, .iconst 1, 1, 0, (0, 0, 0, 0), 0, []),
  (28, false, .isub, 1, 0, (0, 0, 0, 0), 0, []),
  (29, false, .invokestatic 91, 3, 228, (72, 3, 0, 0), 0, [0, 0, 0]),
  (32, false, .ifCond .ne 5, 3, 0, (37, 0, 0, 0), 0, []),
  (35, false, .iconst (-1), 1, 0, (0, 0, 0, 0), 0, []),
  (36, false, .ireturn, 1, 0, (0, 0, 0, 0), 0, []),
  (37, false, .iload_n 2, 1, 0, (0, 0, 0, 0), 0, []),
  (38, false, .ifCond .ne 13, 3, 0, (51, 0, 0, 0), 0, []),
  (41, false, .aload_n 0, 1, 0, (0, 0, 0, 0), 0, []),
  (42, false, .getfield 34, 3, 167, (3, 4, 7, 1), 0, []),
  (45, false, .getfield 415, 3, 127, (5, 0, 24, 1), 0, []),
  (48, false, .iload_n 1, 1, 0, (0, 0, 0, 0), 0, []),
  (49, false, .iaload, 1, 0, (22, 0, 0, 0), 0, []),
  (50, false, .ireturn, 1, 0, (0, 0, 0, 0), 0, []),
  (51, false, .iload_n 2, 1, 0, (0, 0, 0, 0), 0, []),
  (52, false, .iconst 1, 1, 0, (0, 0, 0, 0), 0, []),
  (53, false, .if_icmp .ne 15, 3, 0, (68, 0, 0, 0), 0, []),
  (56, false, .aload_n 0, 1, 0, (0, 0, 0, 0), 0, []),
  (57, false, .getfield 34, 3, 167, (3, 4, 7, 1), 0, []),
  (60, false, .getfield 417, 3, 129, (5, 1, 25, 1), 0, []),
  (63, false, .iload_n 1, 1, 0, (0, 0, 0, 0), 0, []),
  (64, false, .iaload, 1, 0, (23, 0, 0, 0), 0, []),
  (65, false, .goto 12, 3, 0, (77, 0, 0, 0), 0, []),
  (68, false, .aload_n 0, 1, 0, (0, 0, 0, 0), 0, []),
  (69, false, .getfield 34, 3, 167, (3, 4, 7, 1), 0, []),
  (72, false, .getfield 418, 3, 131, (5, 2, 26, 1), 0, []),
  (75, false, .iload_n 1, 1, 0, (0, 0, 0, 0), 0, []),
  (76, false, .iaload, 1, 0, (24, 0, 0, 0), 0, []),
  (77, false, .ireturn, 1, 0, (0, 0, 0, 0), 0, [])]
noncomputable def x_book (v1 v2 : Int) (σ : zz_S) : zz_R := ((x_isWithin v2 0 2 σ).bind fun q1 => (if q1.1 = 0 then (some ((-2), q1.2)) else ((j_min (zz_h q1.2 5 1 3) 300 q1.2).bind fun q2 => ((x_isWithin v1 0 (zz_r (q2.1 - 1)) q2.2).bind fun q3 => (if q3.1 = 0 then (some ((-1), q3.2)) else (if v2 = 0 then (if zz_b q3.2 22 1 v1 then (some ((zz_h q3.2 22 1 v1), q3.2)) else none) else (if v2 = 1 then (if zz_b q3.2 23 1 v1 then (some ((zz_h q3.2 23 1 v1), q3.2)) else none) else (if zz_b q3.2 24 1 v1 then (some ((zz_h q3.2 24 1 v1), q3.2)) else none))))))))
set_option maxRecDepth 100000 in
set_option maxHeartbeats 4000000 in
theorem ze_x_book (v1 v2 : Int) (σ : zz_S) : x_book v1 v2 σ = zz_ev (zz_CE [(72, zw_x_isWithin), (169, zw_j_min)]) (zz_KE []) zk_x_book 0 false 0 0 400 true (zz_sk zk_x_book 0) [(0, 5, 1), (1, 0, v1), (2, 0, v2)] [] σ := rfl
noncomputable def zw_x_book : List Int → zz_S → zz_R := fun vs σ => match vs with
  | [a0, a1, a2] => if a0 = 1 then x_book a1 a2 σ else none
  | _ => none
def zk_x_count : List zz_E := [(0, false, .iload_n 1, 1, 0, (0, 0, 0, 0), 0, []),
  (1, false, .tableswitch 128 0 10 #[59, 64, 69, 77, 82, 87, 92, 100, 105, 110, 115], 59, 0, (129, 0, 0, 0), 0, [60, 65, 70, 78, 83, 88, 93, 101, 106, 111, 116]),
  (60, false, .aload_n 0, 1, 0, (0, 0, 0, 0), 0, []),
  (61, false, .getfield 62, 3, 174, (3, 11, 0, 0), 0, []),
  (64, false, .ireturn, 1, 0, (0, 0, 0, 0), 0, []),
  (65, false, .aload_n 0, 1, 0, (0, 0, 0, 0), 0, []),
  (66, false, .getfield 66, 3, 175, (3, 12, 0, 0), 0, []),
  (69, false, .ireturn, 1, 0, (0, 0, 0, 0), 0, []),
  (70, false, .aload_n 0, 1, 0, (0, 0, 0, 0), 0, []),
  (71, false, .getfield 27, 3, 166, (3, 3, 6, 1), 0, []),
  (74, false, .getfield 318, 3, 108, (4, 3, 0, 0), 0, []),
  (77, false, .ireturn, 1, 0, (0, 0, 0, 0), 0, []),
  (78, false, .aload_n 0, 1, 0, (0, 0, 0, 0), 0, []),
  (79, false, .getfield 69, 3, 176, (3, 13, 0, 0), 0, []),
  (82, false, .ireturn, 1, 0, (0, 0, 0, 0), 0, []),
  (83, false, .aload_n 0, 1, 0, (0, 0, 0, 0), 0, []),
  (84, false, .getfield 78, 3, 179, (3, 16, 0, 0), 0, []),
  (87, false, .ireturn, 1, 0, (0, 0, 0, 0), 0, []),
  (88, false, .aload_n 0, 1, 0, (0, 0, 0, 0), 0, []),
  (89, false, .getfield 81, 3, 180, (3, 17, 0, 0), 0, []),
  (92, false, .ireturn, 1, 0, (0, 0, 0, 0), 0, []),
  (93, false, .aload_n 0, 1, 0, (0, 0, 0, 0), 0, []),
  (94, false, .getfield 34, 3, 167, (3, 4, 7, 1), 0, []),
  (97, false, .getfield 412, 3, 133, (5, 3, 0, 0), 0, []),
  (100, false, .ireturn, 1, 0, (0, 0, 0, 0), 0, []),
  (101, false, .aload_n 0, 1, 0, (0, 0, 0, 0), 0, []),
  (102, false, .getfield 72, 3, 177, (3, 14, 0, 0), 0, []),
  (105, false, .ireturn, 1, 0, (0, 0, 0, 0), 0, []),
  (106, false, .aload_n 0, 1, 0, (0, 0, 0, 0), 0, []),
  (107, false, .getfield 75, 3, 178, (3, 15, 0, 0), 0, []),
  (110, false, .ireturn, 1, 0, (0, 0, 0, 0), 0, []),
  (111, false, .aload_n 0, 1, 0, (0, 0, 0, 0), 0, []),
  (112, false, .getfield 84, 3, 181, (3, 18, 0, 0), 0, []),
  (115, false, .ireturn, 1, 0, (0, 0, 0, 0), 0, []),
  (116, false, .aload_n 0, 1, 0, (0, 0, 0, 0), 0, []),
  (117, false, .getfield 87, 3, 182, (3, 19, 0, 0), 1, []),
  (120, false, .ifCond .eq 7, 3, 0, (127, 0, 0, 0), 0, []),
  (123, false, .iconst 1, 1, 0, (0, 0, 0, 0), 0, []),
  (124, false, .goto 4, 3, 0, (128, 0, 0, 0), 0, []),
  (127, false, .iconst 0, 1, 0, (0, 0, 0, 0), 0, []),
  (128, false, .ireturn, 1, 0, (0, 0, 0, 0), 0, []),
  (129, false, .bipush (-2), 2, 0, (0, 0, 0, 0), 0, []),
  (131, false, .ireturn, 1, 0, (0, 0, 0, 0), 0, [])]
noncomputable def x_count (v1 : Int) (σ : zz_S) : zz_R := (if v1 = 0 then (some ((zz_h σ 3 1 11), σ)) else (if v1 = 1 then (some ((zz_h σ 3 1 12), σ)) else (if v1 = 2 then (some ((zz_h σ 4 1 3), σ)) else (if v1 = 3 then (some ((zz_h σ 3 1 13), σ)) else (if v1 = 4 then (some ((zz_h σ 3 1 16), σ)) else (if v1 = 5 then (some ((zz_h σ 3 1 17), σ)) else (if v1 = 6 then (some ((zz_h σ 5 1 3), σ)) else (if v1 = 7 then (some ((zz_h σ 3 1 14), σ)) else (if v1 = 8 then (some ((zz_h σ 3 1 15), σ)) else (if v1 = 9 then (some ((zz_h σ 3 1 18), σ)) else (if v1 = 10 then (if (zz_h σ 3 1 19) = 0 then (some (0, σ)) else (some (1, σ))) else (some ((-2), σ)))))))))))))
set_option maxRecDepth 100000 in
set_option maxHeartbeats 4000000 in
theorem ze_x_count (v1 : Int) (σ : zz_S) : x_count v1 σ = zz_ev (zz_CE []) (zz_KE []) zk_x_count 0 false 0 0 400 true (zz_sk zk_x_count 0) [(0, 5, 1), (1, 0, v1)] [] σ := rfl
noncomputable def zw_x_count : List Int → zz_S → zz_R := fun vs σ => match vs with
  | [a0, a1] => if a0 = 1 then x_count a1 σ else none
  | _ => none
def zk_x_cell : List zz_E := [(0, false, .iload_n 1, 1, 0, (0, 0, 0, 0), 0, []),
  (1, false, .iconst 0, 1, 0, (0, 0, 0, 0), 0, []),
  (2, false, .bipush 7, 2, 0, (0, 0, 0, 0), 0, []),
  (4, false, .invokestatic 91, 3, 228, (72, 3, 0, 0), 0, [0, 0, 0]),
  (7, false, .ifCond .eq 12, 3, 0, (19, 0, 0, 0), 0, []),
  (10, false, .aload_n 0, 1, 0, (0, 0, 0, 0), 0, []),
  (11, false, .getfield 56, 3, 172, (3, 9, 19, 1), 0, []),
  (14, false, .iload_n 1, 1, 0, (0, 0, 0, 0), 0, []),
  (15, false, .iaload, 1, 0, (17, 0, 0, 0), 0, []),
  (16, false, .goto 4, 3, 0, (20, 0, 0, 0), 0, []),
  (19, false, .iconst 0, 1, 0, (0, 0, 0, 0), 0, []),
  (20, false, .ireturn, 1, 0, (0, 0, 0, 0), 0, [])]
noncomputable def x_cell (v1 : Int) (σ : zz_S) : zz_R := ((x_isWithin v1 0 7 σ).bind fun q1 => (if q1.1 = 0 then (some (0, q1.2)) else (if zz_b q1.2 17 1 v1 then (some ((zz_h q1.2 17 1 v1), q1.2)) else none)))
set_option maxRecDepth 100000 in
set_option maxHeartbeats 4000000 in
theorem ze_x_cell (v1 : Int) (σ : zz_S) : x_cell v1 σ = zz_ev (zz_CE [(72, zw_x_isWithin)]) (zz_KE []) zk_x_cell 0 false 0 0 400 true (zz_sk zk_x_cell 0) [(0, 5, 1), (1, 0, v1)] [] σ := rfl
noncomputable def zw_x_cell : List Int → zz_S → zz_R := fun vs σ => match vs with
  | [a0, a1] => if a0 = 1 then x_cell a1 σ else none
  | _ => none
def zk_x_day : List zz_E := [(0, false, .iload_n 1, 1, 0, (0, 0, 0, 0), 0, []),
  (1, false, .iconst 0, 1, 0, (0, 0, 0, 0), 0, []),
  (2, false, .ldc_w 421, 3, 773, (0, 0, 0, 0), 525599, []),
  (5, false, .invokestatic 91, 3, 228, (72, 3, 0, 0), 0, [0, 0, 0]),
  (8, false, .ifCond .ne 6, 3, 0, (14, 0, 0, 0), 0, []),
  (11, false, .bipush (-2), 2, 0, (0, 0, 0, 0), 0, []),
  (13, false, .ireturn, 1, 0, (0, 0, 0, 0), 0, []),
  (14, false, .iload_n 1, 1, 0, (0, 0, 0, 0), 0, []),
  (15, false, .sipush 1440, 3, 0, (0, 0, 0, 0), 0, []),
  (18, false, .idiv, 1, 0, (0, 0, 0, 0), 0, []),
  (19, false, .istore_n 3, 1, 0, (0, 0, 0, 0), 0, []),
  (20, false, .iload_n 3, 1, 0, (0, 0, 0, 0), 0, []),
  (21, false, .invokestatic 422, 3, 774, (102, 1, 0, 0), 0, [0]),
  (24, false, .istore 4, 2, 0, (0, 0, 0, 0), 0, []),
  (26, false, .iload_n 2, 1, 0, (0, 0, 0, 0), 0, []),
  (27, false, .tableswitch 67 0 4 #[33, 38, 49, 57, 62], 33, 0, (94, 0, 0, 0), 0, [60, 65, 76, 84, 89]),
  (60, false, .iload 4, 2, 0, (0, 0, 0, 0), 0, []),
  (62, false, .iconst 1, 1, 0, (0, 0, 0, 0), 0, []),
  (63, false, .iadd, 1, 0, (0, 0, 0, 0), 0, []),
  (64, false, .ireturn, 1, 0, (0, 0, 0, 0), 0, []),
  (65, false, .iload_n 3, 1, 0, (0, 0, 0, 0), 0, []),
  (66, false, .getstatic 425, 3, 775, (1, 0, 0, 0), 0, []),
  (69, false, .iload 4, 2, 0, (0, 0, 0, 0), 0, []),
  (71, false, .iaload, 1, 0, (1, 0, 0, 0), 0, []),
  (72, false, .isub, 1, 0, (0, 0, 0, 0), 0, []),
  (73, false, .iconst 1, 1, 0, (0, 0, 0, 0), 0, []),
  (74, false, .iadd, 1, 0, (0, 0, 0, 0), 0, []),
  (75, false, .ireturn, 1, 0, (0, 0, 0, 0), 0, []),
  (76, false, .iload_n 1, 1, 0, (0, 0, 0, 0), 0, []),
  (77, false, .bipush 60, 2, 0, (0, 0, 0, 0), 0, []),
  (79, false, .idiv, 1, 0, (0, 0, 0, 0), 0, []),
  (80, false, .bipush 24, 2, 0, (0, 0, 0, 0), 0, []),
  (82, false, .irem, 1, 0, (0, 0, 0, 0), 0, []),
  (83, false, .ireturn, 1, 0, (0, 0, 0, 0), 0, []),
  (84, false, .iload_n 1, 1, 0, (0, 0, 0, 0), 0, []),
  (85, false, .bipush 60, 2, 0, (0, 0, 0, 0), 0, []),
  (87, false, .irem, 1, 0, (0, 0, 0, 0), 0, []),
  (88, false, .ireturn, 1, 0, (0, 0, 0, 0), 0, []),
  (89, false, .iload_n 3, 1, 0, (0, 0, 0, 0), 0, []),
  (90, false, .bipush 7, 2, 0, (0, 0, 0, 0), 0, []),
  (92, false, .irem, 1, 0, (0, 0, 0, 0), 0, []),
  (93, false, .ireturn, 1, 0, (0, 0, 0, 0), 0, []),
  (94, false, .bipush (-2), 2, 0, (0, 0, 0, 0), 0, []),
  (96, false, .ireturn, 1, 0, (0, 0, 0, 0), 0, [])]
noncomputable def x_day (v1 v2 : Int) (σ : zz_S) : zz_R := ((x_isWithin v1 0 525599 σ).bind fun q1 => (if q1.1 = 0 then (some ((-2), q1.2)) else ((xC_monthOf (zz_div v1 1440) q1.2).bind fun q2 => (if v2 = 0 then (some ((zz_r (q2.1 + 1)), q2.2)) else (if v2 = 1 then (if zz_b q2.2 1 1 q2.1 then (some ((zz_r ((zz_r ((zz_div v1 1440) - (zz_h q2.2 1 1 q2.1))) + 1)), q2.2)) else none) else (if v2 = 2 then (some ((zz_rem (zz_div v1 60) 24), q2.2)) else (if v2 = 3 then (some ((zz_rem v1 60), q2.2)) else (if v2 = 4 then (some ((zz_rem (zz_div v1 1440) 7), q2.2)) else (some ((-2), q2.2))))))))))
set_option maxRecDepth 100000 in
set_option maxHeartbeats 4000000 in
theorem ze_x_day (v1 v2 : Int) (σ : zz_S) : x_day v1 v2 σ = zz_ev (zz_CE [(72, zw_x_isWithin), (102, zw_xC_monthOf)]) (zz_KE []) zk_x_day 0 false 0 0 400 true (zz_sk zk_x_day 0) [(0, 5, 1), (1, 0, v1), (2, 0, v2)] [] σ := rfl
noncomputable def zw_x_day : List Int → zz_S → zz_R := fun vs σ => match vs with
  | [a0, a1, a2] => if a0 = 1 then x_day a1 a2 σ else none
  | _ => none
def zk_x_idle : List zz_E := [(0, false, .iload_n 1, 1, 0, (0, 0, 0, 0), 0, []),
  (1, false, .iconst 0, 1, 0, (0, 0, 0, 0), 0, []),
  (2, false, .aload_n 0, 1, 0, (0, 0, 0, 0), 0, []),
  (3, false, .getfield 75, 3, 178, (3, 15, 0, 0), 0, []),
  (6, false, .iconst 1, 1, 0, (0, 0, 0, 0), 0, []),
  (7, false, .isub, 1, 0, (0, 0, 0, 0), 0, []),
  (8, false, .invokestatic 91, 3, 228, (72, 3, 0, 0), 0, [0, 0, 0]),
  (11, false, .ifCond .eq 12, 3, 0, (23, 0, 0, 0), 0, []),
  (14, false, .aload_n 0, 1, 0, (0, 0, 0, 0), 0, []),
  (15, false, .getfield 49, 3, 170, (3, 7, 17, 1), 0, []),
  (18, false, .iload_n 1, 1, 0, (0, 0, 0, 0), 0, []),
  (19, false, .iaload, 1, 0, (15, 0, 0, 0), 0, []),
  (20, false, .goto 5, 3, 0, (25, 0, 0, 0), 0, []),
  (23, false, .bipush (-2), 2, 0, (0, 0, 0, 0), 0, []),
  (25, false, .ireturn, 1, 0, (0, 0, 0, 0), 0, [])]
noncomputable def x_idle (v1 : Int) (σ : zz_S) : zz_R := ((x_isWithin v1 0 (zz_r ((zz_h σ 3 1 15) - 1)) σ).bind fun q1 => (if q1.1 = 0 then (some ((-2), q1.2)) else (if zz_b q1.2 15 1 v1 then (some ((zz_h q1.2 15 1 v1), q1.2)) else none)))
set_option maxRecDepth 100000 in
set_option maxHeartbeats 4000000 in
theorem ze_x_idle (v1 : Int) (σ : zz_S) : x_idle v1 σ = zz_ev (zz_CE [(72, zw_x_isWithin)]) (zz_KE []) zk_x_idle 0 false 0 0 400 true (zz_sk zk_x_idle 0) [(0, 5, 1), (1, 0, v1)] [] σ := rfl
noncomputable def zw_x_idle : List Int → zz_S → zz_R := fun vs σ => match vs with
  | [a0, a1] => if a0 = 1 then x_idle a1 σ else none
  | _ => none
def zk_x_load : List zz_E := [(0, false, .iload_n 1, 1, 0, (0, 0, 0, 0), 0, []),
  (1, false, .iconst 0, 1, 0, (0, 0, 0, 0), 0, []),
  (2, false, .aload_n 0, 1, 0, (0, 0, 0, 0), 0, []),
  (3, false, .getfield 72, 3, 177, (3, 14, 0, 0), 0, []),
  (6, false, .iconst 1, 1, 0, (0, 0, 0, 0), 0, []),
  (7, false, .isub, 1, 0, (0, 0, 0, 0), 0, []),
  (8, false, .invokestatic 91, 3, 228, (72, 3, 0, 0), 0, [0, 0, 0]),
  (11, false, .ifCond .eq 11, 3, 0, (22, 0, 0, 0), 0, []),
  (14, false, .aload_n 0, 1, 0, (0, 0, 0, 0), 0, []),
  (15, false, .iload_n 1, 1, 0, (0, 0, 0, 0), 0, []),
  (16, false, .invokevirtual 358, 3, 616, (46, 2, 0, 0), 0, [0, 5]),
  (19, false, .goto 5, 3, 0, (24, 0, 0, 0), 0, []),
  (22, false, .bipush (-2), 2, 0, (0, 0, 0, 0), 0, []),
  (24, false, .ireturn, 1, 0, (0, 0, 0, 0), 0, [])]
noncomputable def x_load (v1 : Int) (σ : zz_S) : zz_R := ((x_isWithin v1 0 (zz_r ((zz_h σ 3 1 14) - 1)) σ).bind fun q1 => (if q1.1 = 0 then (some ((-2), q1.2)) else ((x_workIn v1 q1.2).bind fun q2 => (some (q2.1, q2.2)))))
set_option maxRecDepth 100000 in
set_option maxHeartbeats 4000000 in
theorem ze_x_load (v1 : Int) (σ : zz_S) : x_load v1 σ = zz_ev (zz_CE [(46, zw_x_workIn), (72, zw_x_isWithin)]) (zz_KE []) zk_x_load 0 false 0 0 400 true (zz_sk zk_x_load 0) [(0, 5, 1), (1, 0, v1)] [] σ := rfl
noncomputable def zw_x_load : List Int → zz_S → zz_R := fun vs σ => match vs with
  | [a0, a1] => if a0 = 1 then x_load a1 σ else none
  | _ => none
def zk_x_quiet : List zz_E := [(0, false, .aload_n 0, 1, 0, (0, 0, 0, 0), 0, []),
  (1, false, .getfield 69, 3, 176, (3, 13, 0, 0), 0, []),
  (4, false, .ifCond .gt 13, 3, 0, (17, 0, 0, 0), 0, []),
  (7, false, .aload_n 0, 1, 0, (0, 0, 0, 0), 0, []),
  (8, false, .getfield 27, 3, 166, (3, 3, 6, 1), 0, []),
  (11, false, .getfield 318, 3, 108, (4, 3, 0, 0), 0, []),
  (14, false, .ifCond .le 5, 3, 0, (19, 0, 0, 0), 0, []),
  (17, false, .iconst 0, 1, 0, (0, 0, 0, 0), 0, []),
  (18, false, .ireturn, 1, 0, (0, 0, 0, 0), 0, []),
  (19, false, .iconst 0, 1, 0, (0, 0, 0, 0), 0, []),
  (20, false, .istore_n 1, 1, 0, (0, 0, 0, 0), 0, []),
  (21, true, .iload_n 1, 1, 0, (0, 0, 0, 0), 0, []),
  (22, false, .aload_n 0, 1, 0, (0, 0, 0, 0), 0, []),
  (23, false, .getfield 62, 3, 174, (3, 11, 0, 0), 0, []),
  (26, false, .if_icmp .ge 45, 3, 0, (71, 0, 0, 0), 0, []),
  (29, false, .aload_n 0, 1, 0, (0, 0, 0, 0), 0, []),
  (30, false, .iload_n 1, 1, 0, (0, 0, 0, 0), 0, []),
  (31, false, .invokevirtual 100, 3, 385, (73, 2, 9, 0), 0, [0, 5]),
  (34, false, .astore_n 2, 1, 0, (0, 0, 0, 0), 0, []),
  (35, false, .aload_n 2, 1, 0, (0, 0, 0, 0), 0, []),
  (36, false, .invokestatic 273, 3, 515, (74, 1, 0, 0), 0, [9]),
  (39, false, .ifCond .eq 26, 3, 0, (65, 0, 0, 0), 0, []),
  (42, false, .aload_n 2, 1, 0, (0, 0, 0, 0), 0, []),
  (43, false, .aload_n 0, 1, 0, (0, 0, 0, 0), 0, []),
  (44, false, .getfield 78, 3, 179, (3, 16, 0, 0), 0, []),
  (47, false, .invokevirtual 288, 3, 579, (90, 2, 0, 0), 0, [0, 9]),
  (50, false, .ifCond .ne 13, 3, 0, (63, 0, 0, 0), 0, []),
  (53, false, .aload_n 0, 1, 0, (0, 0, 0, 0), 0, []),
  (54, false, .aload_n 2, 1, 0, (0, 0, 0, 0), 0, []),
  (55, false, .iconst 0, 1, 0, (0, 0, 0, 0), 0, []),
  (56, false, .invokevirtual 403, 3, 740, (62, 3, 0, 0), 0, [0, 9, 5]),
  (59, false, .iconst (-1), 1, 0, (0, 0, 0, 0), 0, []),
  (60, false, .if_icmp .eq 5, 3, 0, (65, 0, 0, 0), 0, []),
  (63, false, .iconst 0, 1, 0, (0, 0, 0, 0), 0, []),
  (64, false, .ireturn, 1, 0, (0, 0, 0, 0), 0, []),
  (65, false, .iinc 1 1, 3, 0, (0, 0, 0, 0), 0, []),
  (68, false, .goto (-47), 3, 0, (21, 0, 0, 0), 0, []),
  (71, false, .iconst 1, 1, 0, (0, 0, 0, 0), 0, []),
  (72, false, .ireturn, 1, 0, (0, 0, 0, 0), 0, [])]
noncomputable def x_quiet_21 : Nat → Int → zz_S → zz_R
  | 0, _, _ => none
  | n + 1, v1, σ => (if v1 < (zz_h σ 3 1 11) then ((x_taskAt v1 σ).bind fun q1 => ((x_isActive q1.1 q1.2).bind fun q2 => (if q2.1 = 0 then (x_quiet_21 n (zz_r (v1 + 1)) q2.2) else (if q1.1 = 0 then none else ((xT_isFiredFor q1.1 (zz_h q2.2 3 1 16) q2.2).bind fun q3 => (if q3.1 = 0 then ((x_dueMinute q1.1 0 q3.2).bind fun q4 => (if q4.1 = (-1) then (x_quiet_21 n (zz_r (v1 + 1)) q4.2) else (some (0, q4.2)))) else (some (0, q3.2)))))))) else (some (1, σ)))
set_option maxRecDepth 100000 in
set_option maxHeartbeats 4000000 in
theorem ze_x_quiet_21 (n : Nat) (v1 : Int) (σ : zz_S) : x_quiet_21 (n + 1) v1 σ = zz_ev (zz_CE [(62, zw_x_dueMinute), (73, zw_x_taskAt), (74, zw_x_isActive), (90, zw_xT_isFiredFor)]) (zz_KE [(21, [(0, 5, true), (1, 0, false)], fun vs σ => match vs with | [b0] => x_quiet_21 n b0 σ | _ => none)]) zk_x_quiet 0 false 0 0 400 true (zz_sk zk_x_quiet 21) [(0, 5, 1), (1, 0, v1)] [] σ := rfl
noncomputable def x_quiet (σ : zz_S) : zz_R := (if (zz_h σ 3 1 13) ≤ 0 then (if (zz_h σ 4 1 3) ≤ 0 then (x_quiet_21 zz_fu 0 σ) else (some (0, σ))) else (some (0, σ)))
set_option maxRecDepth 100000 in
set_option maxHeartbeats 4000000 in
theorem ze_x_quiet (σ : zz_S) : x_quiet σ = zz_ev (zz_CE []) (zz_KE [(21, [(0, 5, true), (1, 0, false)], fun vs σ => match vs with | [b0] => x_quiet_21 zz_fu b0 σ | _ => none)]) zk_x_quiet 0 false 0 0 400 true (zz_sk zk_x_quiet 0) [(0, 5, 1)] [] σ := rfl
noncomputable def zw_x_quiet : List Int → zz_S → zz_R := fun vs σ => match vs with
  | [a0] => if a0 = 1 then x_quiet σ else none
  | _ => none
def zk_m_new : List zz_E := [(0, false, .aload_n 0, 1, 0, (0, 0, 0, 0), 0, []),
  (1, false, .invokespecial 1, 3, 793, (0, 0, 0, 0), 0, []),
  (4, false, .aload_n 0, 1, 0, (0, 0, 0, 0), 0, []),
  (5, false, .iconst (-1), 1, 0, (0, 0, 0, 0), 0, []),
  (6, false, .putfield 7, 3, 796, (40, 2, 0, 0), 0, []),
  (9, false, .aload_n 0, 1, 0, (0, 0, 0, 0), 0, []),
  (10, false, .iconst 1, 1, 0, (0, 0, 0, 0), 0, []),
  (11, false, .putfield 13, 3, 798, (40, 4, 0, 0), 0, []),
  (14, false, .aload_n 0, 1, 0, (0, 0, 0, 0), 0, []),
  (15, false, .bipush 8, 2, 0, (0, 0, 0, 0), 0, []),
  (17, false, .newarray .int, 2, 0, (41, 0, 0, 0), 0, []),
  (19, false, .putfield 16, 3, 799, (40, 5, 43, 1), 0, []),
  (22, false, .aload_n 0, 1, 0, (0, 0, 0, 0), 0, []),
  (23, false, .bipush 8, 2, 0, (0, 0, 0, 0), 0, []),
  (25, false, .newarray .int, 2, 0, (42, 0, 0, 0), 0, []),
  (27, false, .putfield 20, 3, 800, (40, 6, 44, 1), 0, []),
  (30, false, .aload_n 0, 1, 0, (0, 0, 0, 0), 0, []),
  (31, false, .bipush 8, 2, 0, (0, 0, 0, 0), 0, []),
  (33, false, .newarray .int, 2, 0, (43, 0, 0, 0), 0, []),
  (35, false, .putfield 23, 3, 802, (40, 8, 45, 1), 0, []),
  (38, false, .aload_n 0, 1, 0, (0, 0, 0, 0), 0, []),
  (39, false, .bipush 60, 2, 0, (0, 0, 0, 0), 0, []),
  (41, false, .newarray .int, 2, 0, (44, 0, 0, 0), 0, []),
  (43, false, .putfield 26, 3, 804, (40, 10, 46, 1), 0, []),
  (46, false, .aload_n 0, 1, 0, (0, 0, 0, 0), 0, []),
  (47, false, .bipush 60, 2, 0, (0, 0, 0, 0), 0, []),
  (49, false, .newarray .int, 2, 0, (45, 0, 0, 0), 0, []),
  (51, false, .putfield 29, 3, 805, (40, 11, 47, 1), 0, []),
  (54, false, .aload_n 0, 1, 0, (0, 0, 0, 0), 0, []),
  (55, false, .bipush 60, 2, 0, (0, 0, 0, 0), 0, []),
  (57, false, .newarray .int, 2, 0, (46, 0, 0, 0), 0, []),
  (59, false, .putfield 32, 3, 806, (40, 12, 48, 1), 0, []),
  (62, false, .aload_n 0, 1, 0, (0, 0, 0, 0), 0, []),
  (63, false, .bipush 60, 2, 0, (0, 0, 0, 0), 0, []),
  (65, false, .newarray .int, 2, 0, (47, 0, 0, 0), 0, []),
  (67, false, .putfield 35, 3, 807, (40, 13, 49, 1), 0, []),
  (70, false, .aload_n 0, 1, 0, (0, 0, 0, 0), 0, []),
  (71, false, .bipush 60, 2, 0, (0, 0, 0, 0), 0, []),
  (73, false, .newarray .int, 2, 0, (48, 0, 0, 0), 0, []),
  (75, false, .putfield 38, 3, 808, (40, 14, 50, 1), 0, []),
  (78, false, .aload_n 0, 1, 0, (0, 0, 0, 0), 0, []),
  (79, false, .bipush 60, 2, 0, (0, 0, 0, 0), 0, []),
  (81, false, .newarray .int, 2, 0, (49, 0, 0, 0), 0, []),
  (83, false, .putfield 41, 3, 809, (40, 15, 51, 1), 0, []),
  (86, false, .aload_n 0, 1, 0, (0, 0, 0, 0), 0, []),
  (87, false, .bipush 60, 2, 0, (0, 0, 0, 0), 0, []),
  (89, false, .newarray .int, 2, 0, (50, 0, 0, 0), 0, []),
  (91, false, .putfield 44, 3, 810, (40, 16, 52, 1), 0, []),
  (94, false, .aload_n 0, 1, 0, (0, 0, 0, 0), 0, []),
  (95, false, .bipush 60, 2, 0, (0, 0, 0, 0), 0, []),
  (97, false, .newarray .int, 2, 0, (51, 0, 0, 0), 0, []),
  (99, false, .putfield 47, 3, 811, (40, 17, 53, 1), 0, []),
  (102, false, .aload_n 0, 1, 0, (0, 0, 0, 0), 0, []),
  (103, false, .bipush 60, 2, 0, (0, 0, 0, 0), 0, []),
  (105, false, .newarray .int, 2, 0, (52, 0, 0, 0), 0, []),
  (107, false, .putfield 50, 3, 812, (40, 18, 54, 1), 0, []),
  (110, false, .aload_n 0, 1, 0, (0, 0, 0, 0), 0, []),
  (111, false, .bipush 60, 2, 0, (0, 0, 0, 0), 0, []),
  (113, false, .newarray .int, 2, 0, (53, 0, 0, 0), 0, []),
  (115, false, .putfield 53, 3, 813, (40, 19, 55, 1), 0, []),
  (118, false, .aload_n 0, 1, 0, (0, 0, 0, 0), 0, []),
  (119, false, .bipush 60, 2, 0, (0, 0, 0, 0), 0, []),
  (121, false, .newarray .int, 2, 0, (54, 0, 0, 0), 0, []),
  (123, false, .putfield 56, 3, 814, (40, 20, 56, 1), 0, []),
  (126, false, .aload_n 0, 1, 0, (0, 0, 0, 0), 0, []),
  (127, false, .bipush 60, 2, 0, (0, 0, 0, 0), 0, []),
  (129, false, .newarray .int, 2, 0, (55, 0, 0, 0), 0, []),
  (131, false, .putfield 59, 3, 815, (40, 21, 57, 1), 0, []),
  (134, false, .aload_n 0, 1, 0, (0, 0, 0, 0), 0, []),
  (135, false, .bipush 60, 2, 0, (0, 0, 0, 0), 0, []),
  (137, false, .newarray .int, 2, 0, (56, 0, 0, 0), 0, []),
  (139, false, .putfield 62, 3, 816, (40, 22, 58, 1), 0, []),
  (142, false, .aload_n 0, 1, 0, (0, 0, 0, 0), 0, []),
  (143, false, .bipush 60, 2, 0, (0, 0, 0, 0), 0, []),
  (145, false, .newarray .int, 2, 0, (57, 0, 0, 0), 0, []),
  (147, false, .putfield 65, 3, 817, (40, 23, 59, 1), 0, []),
  (150, false, .aload_n 0, 1, 0, (0, 0, 0, 0), 0, []),
  (151, false, .bipush 60, 2, 0, (0, 0, 0, 0), 0, []),
  (153, false, .newarray .int, 2, 0, (58, 0, 0, 0), 0, []),
  (155, false, .putfield 68, 3, 818, (40, 24, 60, 1), 0, []),
  (158, false, .aload_n 0, 1, 0, (0, 0, 0, 0), 0, []),
  (159, false, .bipush 60, 2, 0, (0, 0, 0, 0), 0, []),
  (161, false, .newarray .int, 2, 0, (59, 0, 0, 0), 0, []),
  (163, false, .putfield 71, 3, 819, (40, 25, 61, 1), 0, []),
  (166, false, .aload_n 0, 1, 0, (0, 0, 0, 0), 0, []),
  (167, false, .bipush 60, 2, 0, (0, 0, 0, 0), 0, []),
  (169, false, .newarray .int, 2, 0, (60, 0, 0, 0), 0, []),
  (171, false, .putfield 74, 3, 820, (40, 26, 62, 1), 0, []),
  (174, false, .aload_n 0, 1, 0, (0, 0, 0, 0), 0, []),
  (175, false, .bipush 60, 2, 0, (0, 0, 0, 0), 0, []),
  (177, false, .newarray .int, 2, 0, (61, 0, 0, 0), 0, []),
  (179, false, .putfield 77, 3, 821, (40, 27, 63, 1), 0, []),
  (182, false, .aload_n 0, 1, 0, (0, 0, 0, 0), 0, []),
  (183, false, .bipush 60, 2, 0, (0, 0, 0, 0), 0, []),
  (185, false, .newarray .boolean, 2, 0, (62, 0, 0, 0), 0, []),
  (187, false, .putfield 80, 3, 822, (40, 28, 64, 1), 0, []),
  (190, false, .aload_n 0, 1, 0, (0, 0, 0, 0), 0, []),
  (191, false, .bipush 60, 2, 0, (0, 0, 0, 0), 0, []),
  (193, false, .newarray .boolean, 2, 0, (63, 0, 0, 0), 0, []),
  (195, false, .putfield 84, 3, 823, (40, 29, 65, 1), 0, []),
  (198, false, .aload_n 0, 1, 0, (0, 0, 0, 0), 0, []),
  (199, false, .bipush 60, 2, 0, (0, 0, 0, 0), 0, []),
  (201, false, .newarray .int, 2, 0, (64, 0, 0, 0), 0, []),
  (203, false, .putfield 87, 3, 824, (40, 30, 66, 1), 0, []),
  (206, false, .aload_n 0, 1, 0, (0, 0, 0, 0), 0, []),
  (207, false, .sipush 240, 3, 0, (0, 0, 0, 0), 0, []),
  (210, false, .newarray .int, 2, 0, (65, 0, 0, 0), 0, []),
  (212, false, .putfield 90, 3, 825, (40, 31, 67, 1), 0, []),
  (215, false, .aload_n 0, 1, 0, (0, 0, 0, 0), 0, []),
  (216, false, .sipush 240, 3, 0, (0, 0, 0, 0), 0, []),
  (219, false, .newarray .int, 2, 0, (66, 0, 0, 0), 0, []),
  (221, false, .putfield 93, 3, 826, (40, 32, 68, 1), 0, []),
  (224, false, .aload_n 0, 1, 0, (0, 0, 0, 0), 0, []),
  (225, false, .sipush 240, 3, 0, (0, 0, 0, 0), 0, []),
  (228, false, .newarray .int, 2, 0, (67, 0, 0, 0), 0, []),
  (230, false, .putfield 96, 3, 827, (40, 33, 69, 1), 0, []),
  (233, false, .aload_n 0, 1, 0, (0, 0, 0, 0), 0, []),
  (234, false, .bipush 60, 2, 0, (0, 0, 0, 0), 0, []),
  (236, false, .newarray .int, 2, 0, (68, 0, 0, 0), 0, []),
  (238, false, .putfield 99, 3, 828, (40, 34, 70, 1), 0, []),
  (241, false, .aload_n 0, 1, 0, (0, 0, 0, 0), 0, []),
  (242, false, .sipush 240, 3, 0, (0, 0, 0, 0), 0, []),
  (245, false, .newarray .int, 2, 0, (69, 0, 0, 0), 0, []),
  (247, false, .putfield 102, 3, 829, (40, 35, 71, 1), 0, []),
  (250, false, .aload_n 0, 1, 0, (0, 0, 0, 0), 0, []),
  (251, false, .sipush 240, 3, 0, (0, 0, 0, 0), 0, []),
  (254, false, .newarray .int, 2, 0, (70, 0, 0, 0), 0, []),
  (256, false, .putfield 105, 3, 830, (40, 36, 72, 1), 0, []),
  (259, false, .aload_n 0, 1, 0, (0, 0, 0, 0), 0, []),
  (260, false, .bipush 40, 2, 0, (0, 0, 0, 0), 0, []),
  (262, false, .newarray .int, 2, 0, (71, 0, 0, 0), 0, []),
  (264, false, .putfield 108, 3, 832, (40, 38, 73, 1), 0, []),
  (267, false, .aload_n 0, 1, 0, (0, 0, 0, 0), 0, []),
  (268, false, .bipush 40, 2, 0, (0, 0, 0, 0), 0, []),
  (270, false, .newarray .int, 2, 0, (72, 0, 0, 0), 0, []),
  (272, false, .putfield 111, 3, 833, (40, 39, 74, 1), 0, []),
  (275, false, .aload_n 0, 1, 0, (0, 0, 0, 0), 0, []),
  (276, false, .bipush 40, 2, 0, (0, 0, 0, 0), 0, []),
  (278, false, .newarray .int, 2, 0, (73, 0, 0, 0), 0, []),
  (280, false, .putfield 114, 3, 834, (40, 40, 75, 1), 0, []),
  (283, false, .aload_n 0, 1, 0, (0, 0, 0, 0), 0, []),
  (284, false, .bipush 8, 2, 0, (0, 0, 0, 0), 0, []),
  (286, false, .newarray .int, 2, 0, (74, 0, 0, 0), 0, []),
  (288, false, .putfield 117, 3, 835, (40, 41, 76, 1), 0, []),
  (291, false, .aload_n 0, 1, 0, (0, 0, 0, 0), 0, []),
  (292, false, .sipush 2000, 3, 0, (0, 0, 0, 0), 0, []),
  (295, false, .newarray .int, 2, 0, (75, 0, 0, 0), 0, []),
  (297, false, .putfield 120, 3, 837, (40, 43, 77, 1), 0, []),
  (300, false, .aload_n 0, 1, 0, (0, 0, 0, 0), 0, []),
  (301, false, .sipush 2000, 3, 0, (0, 0, 0, 0), 0, []),
  (304, false, .newarray .int, 2, 0, (76, 0, 0, 0), 0, []),
  (306, false, .putfield 123, 3, 838, (40, 44, 78, 1), 0, []),
  (309, false, .aload_n 0, 1, 0, (0, 0, 0, 0), 0, []),
  (310, false, .sipush 2000, 3, 0, (0, 0, 0, 0), 0, []),
  (313, false, .newarray .int, 2, 0, (77, 0, 0, 0), 0, []),
  (315, false, .putfield 126, 3, 839, (40, 45, 79, 1), 0, []),
  (318, false, .aload_n 0, 1, 0, (0, 0, 0, 0), 0, []),
  (319, false, .sipush 2000, 3, 0, (0, 0, 0, 0), 0, []),
  (322, false, .newarray .int, 2, 0, (78, 0, 0, 0), 0, []),
  (324, false, .putfield 129, 3, 840, (40, 46, 80, 1), 0, []),
  (327, false, .aload_n 0, 1, 0, (0, 0, 0, 0), 0, []),
  (328, false, .sipush 2000, 3, 0, (0, 0, 0, 0), 0, []),
  (331, false, .newarray .int, 2, 0, (79, 0, 0, 0), 0, []),
  (333, false, .putfield 132, 3, 841, (40, 47, 81, 1), 0, []),
  (336, false, .aload_n 0, 1, 0, (0, 0, 0, 0), 0, []),
  (337, false, .sipush 2000, 3, 0, (0, 0, 0, 0), 0, []),
  (340, false, .newarray .int, 2, 0, (80, 0, 0, 0), 0, []),
  (342, false, .putfield 135, 3, 842, (40, 48, 82, 1), 0, []),
  (345, false, .aload_n 0, 1, 0, (0, 0, 0, 0), 0, []),
  (346, false, .sipush 2000, 3, 0, (0, 0, 0, 0), 0, []),
  (349, false, .newarray .int, 2, 0, (81, 0, 0, 0), 0, []),
  (351, false, .putfield 138, 3, 843, (40, 49, 83, 1), 0, []),
  (354, false, .aload_n 0, 1, 0, (0, 0, 0, 0), 0, []),
  (355, false, .sipush 2000, 3, 0, (0, 0, 0, 0), 0, []),
  (358, false, .newarray .int, 2, 0, (82, 0, 0, 0), 0, []),
  (360, false, .putfield 141, 3, 844, (40, 50, 84, 1), 0, []),
  (363, false, .aload_n 0, 1, 0, (0, 0, 0, 0), 0, []),
  (364, false, .sipush 2000, 3, 0, (0, 0, 0, 0), 0, []),
  (367, false, .newarray .int, 2, 0, (83, 0, 0, 0), 0, []),
  (369, false, .putfield 144, 3, 845, (40, 51, 85, 1), 0, []),
  (372, false, .aload_n 0, 1, 0, (0, 0, 0, 0), 0, []),
  (373, false, .sipush 2000, 3, 0, (0, 0, 0, 0), 0, []),
  (376, false, .newarray .int, 2, 0, (84, 0, 0, 0), 0, []),
  (378, false, .putfield 147, 3, 846, (40, 52, 86, 1), 0, []),
  (381, false, .aload_n 0, 1, 0, (0, 0, 0, 0), 0, []),
  (382, false, .bipush 100, 2, 0, (0, 0, 0, 0), 0, []),
  (384, false, .newarray .int, 2, 0, (85, 0, 0, 0), 0, []),
  (386, false, .putfield 150, 3, 848, (40, 54, 87, 1), 0, []),
  (389, false, .aload_n 0, 1, 0, (0, 0, 0, 0), 0, []),
  (390, false, .bipush 100, 2, 0, (0, 0, 0, 0), 0, []),
  (392, false, .newarray .int, 2, 0, (86, 0, 0, 0), 0, []),
  (394, false, .putfield 153, 3, 849, (40, 55, 88, 1), 0, []),
  (397, false, .aload_n 0, 1, 0, (0, 0, 0, 0), 0, []),
  (398, false, .bipush 100, 2, 0, (0, 0, 0, 0), 0, []),
  (400, false, .newarray .boolean, 2, 0, (87, 0, 0, 0), 0, []),
  (402, false, .putfield 156, 3, 850, (40, 56, 89, 1), 0, []),
  (405, false, .aload_n 0, 1, 0, (0, 0, 0, 0), 0, []),
  (406, false, .sipush 300, 3, 0, (0, 0, 0, 0), 0, []),
  (409, false, .newarray .int, 2, 0, (88, 0, 0, 0), 0, []),
  (411, false, .putfield 159, 3, 852, (40, 58, 90, 1), 0, []),
  (414, false, .aload_n 0, 1, 0, (0, 0, 0, 0), 0, []),
  (415, false, .sipush 300, 3, 0, (0, 0, 0, 0), 0, []),
  (418, false, .newarray .int, 2, 0, (89, 0, 0, 0), 0, []),
  (420, false, .putfield 162, 3, 853, (40, 59, 91, 1), 0, []),
  (423, false, .aload_n 0, 1, 0, (0, 0, 0, 0), 0, []),
  (424, false, .sipush 300, 3, 0, (0, 0, 0, 0), 0, []),
  (427, false, .newarray .int, 2, 0, (90, 0, 0, 0), 0, []),
  (429, false, .putfield 165, 3, 854, (40, 60, 92, 1), 0, []),
  (432, false, .aload_n 0, 1, 0, (0, 0, 0, 0), 0, []),
  (433, false, .bipush 60, 2, 0, (0, 0, 0, 0), 0, []),
  (435, false, .newarray .boolean, 2, 0, (91, 0, 0, 0), 0, []),
  (437, false, .putfield 168, 3, 855, (40, 61, 93, 1), 0, []),
  (440, false, .iconst 0, 1, 0, (0, 0, 0, 0), 0, []),
  (441, false, .istore_n 1, 1, 0, (0, 0, 0, 0), 0, []),
  (442, true, .iload_n 1, 1, 0, (0, 0, 0, 0), 0, []),
  (443, false, .bipush 8, 2, 0, (0, 0, 0, 0), 0, []),
  (445, false, .if_icmp .ge 16, 3, 0, (461, 0, 0, 0), 0, []),
  (448, false, .aload_n 0, 1, 0, (0, 0, 0, 0), 0, []),
  (449, false, .getfield 16, 3, 799, (40, 5, 43, 1), 0, []),
  (452, false, .iload_n 1, 1, 0, (0, 0, 0, 0), 0, []),
  (453, false, .iconst (-1), 1, 0, (0, 0, 0, 0), 0, []),
  (454, false, .iastore, 1, 0, (41, 0, 0, 0), 0, []),
  (455, false, .iinc 1 1, 3, 0, (0, 0, 0, 0), 0, []),
  (458, false, .goto (-16), 3, 0, (442, 0, 0, 0), 0, []),
  (461, false, .return_, 1, 0, (0, 0, 0, 0), 0, [])]
noncomputable def m_new_442 : Nat → Int → Int → zz_S → zz_R
  | 0, _, _, _ => none
  | n + 1, v0, v1, σ => (if v1 < 8 then (if zz_h σ 40 v0 5 = v0 then (if v0 = 0 then none else (if zz_b σ 41 v0 v1 then (let s1 := zz_w σ 41 v0 v1 (-1); (m_new_442 n v0 (zz_r (v1 + 1)) s1)) else none)) else none) else (if zz_ow σ 40 v0 (zz_own 40) = true ∧ zz_m σ 40 + 1 = v0 then (some (0, zz_f σ 40)) else none))
set_option maxRecDepth 100000 in
set_option maxHeartbeats 4000000 in
theorem ze_m_new_442 (n : Nat) (v0 v1 : Int) (σ : zz_S) : m_new_442 (n + 1) v0 v1 σ = zz_ev (zz_CE []) (zz_KE [(442, [(0, 1040, false), (1, 0, false)], fun vs σ => match vs with | [b0, b1] => m_new_442 n b0 b1 σ | _ => none)]) zk_m_new 999 false 40 1 400 true (zz_sk zk_m_new 442) [(0, 1040, v0), (1, 0, v1)] [] σ := rfl
noncomputable def m_new (v0 : Int) (σ : zz_S) : zz_R := (let s1 := zz_w σ 40 v0 2 (-1); (let s2 := zz_w s1 40 v0 4 1; (let s3 := zz_n s2 41 1 8; (if true = true ∧ (zz_c s2 41 + 1) ≠ v0 then none else (let s4 := zz_w s3 40 v0 5 (zz_c s2 41 + 1); (let s5 := zz_n s4 42 1 8; (if true = true ∧ (zz_c s4 42 + 1) ≠ v0 then none else (let s6 := zz_w s5 40 v0 6 (zz_c s4 42 + 1); (let s7 := zz_n s6 43 1 8; (if true = true ∧ (zz_c s6 43 + 1) ≠ v0 then none else (let s8 := zz_w s7 40 v0 8 (zz_c s6 43 + 1); (let s9 := zz_n s8 44 1 60; (if true = true ∧ (zz_c s8 44 + 1) ≠ v0 then none else (let s10 := zz_w s9 40 v0 10 (zz_c s8 44 + 1); (let s11 := zz_n s10 45 1 60; (if true = true ∧ (zz_c s10 45 + 1) ≠ v0 then none else (let s12 := zz_w s11 40 v0 11 (zz_c s10 45 + 1); (let s13 := zz_n s12 46 1 60; (if true = true ∧ (zz_c s12 46 + 1) ≠ v0 then none else (let s14 := zz_w s13 40 v0 12 (zz_c s12 46 + 1); (let s15 := zz_n s14 47 1 60; (if true = true ∧ (zz_c s14 47 + 1) ≠ v0 then none else (let s16 := zz_w s15 40 v0 13 (zz_c s14 47 + 1); (let s17 := zz_n s16 48 1 60; (if true = true ∧ (zz_c s16 48 + 1) ≠ v0 then none else (let s18 := zz_w s17 40 v0 14 (zz_c s16 48 + 1); (let s19 := zz_n s18 49 1 60; (if true = true ∧ (zz_c s18 49 + 1) ≠ v0 then none else (let s20 := zz_w s19 40 v0 15 (zz_c s18 49 + 1); (let s21 := zz_n s20 50 1 60; (if true = true ∧ (zz_c s20 50 + 1) ≠ v0 then none else (let s22 := zz_w s21 40 v0 16 (zz_c s20 50 + 1); (let s23 := zz_n s22 51 1 60; (if true = true ∧ (zz_c s22 51 + 1) ≠ v0 then none else (let s24 := zz_w s23 40 v0 17 (zz_c s22 51 + 1); (let s25 := zz_n s24 52 1 60; (if true = true ∧ (zz_c s24 52 + 1) ≠ v0 then none else (let s26 := zz_w s25 40 v0 18 (zz_c s24 52 + 1); (let s27 := zz_n s26 53 1 60; (if true = true ∧ (zz_c s26 53 + 1) ≠ v0 then none else (let s28 := zz_w s27 40 v0 19 (zz_c s26 53 + 1); (let s29 := zz_n s28 54 1 60; (if true = true ∧ (zz_c s28 54 + 1) ≠ v0 then none else (let s30 := zz_w s29 40 v0 20 (zz_c s28 54 + 1); (let s31 := zz_n s30 55 1 60; (if true = true ∧ (zz_c s30 55 + 1) ≠ v0 then none else (let s32 := zz_w s31 40 v0 21 (zz_c s30 55 + 1); (let s33 := zz_n s32 56 1 60; (if true = true ∧ (zz_c s32 56 + 1) ≠ v0 then none else (let s34 := zz_w s33 40 v0 22 (zz_c s32 56 + 1); (let s35 := zz_n s34 57 1 60; (if true = true ∧ (zz_c s34 57 + 1) ≠ v0 then none else (let s36 := zz_w s35 40 v0 23 (zz_c s34 57 + 1); (let s37 := zz_n s36 58 1 60; (if true = true ∧ (zz_c s36 58 + 1) ≠ v0 then none else (let s38 := zz_w s37 40 v0 24 (zz_c s36 58 + 1); (let s39 := zz_n s38 59 1 60; (if true = true ∧ (zz_c s38 59 + 1) ≠ v0 then none else (let s40 := zz_w s39 40 v0 25 (zz_c s38 59 + 1); (let s41 := zz_n s40 60 1 60; (if true = true ∧ (zz_c s40 60 + 1) ≠ v0 then none else (let s42 := zz_w s41 40 v0 26 (zz_c s40 60 + 1); (let s43 := zz_n s42 61 1 60; (if true = true ∧ (zz_c s42 61 + 1) ≠ v0 then none else (let s44 := zz_w s43 40 v0 27 (zz_c s42 61 + 1); (let s45 := zz_n s44 62 1 60; (if true = true ∧ (zz_c s44 62 + 1) ≠ v0 then none else (let s46 := zz_w s45 40 v0 28 (zz_c s44 62 + 1); (let s47 := zz_n s46 63 1 60; (if true = true ∧ (zz_c s46 63 + 1) ≠ v0 then none else (let s48 := zz_w s47 40 v0 29 (zz_c s46 63 + 1); (let s49 := zz_n s48 64 1 60; (if true = true ∧ (zz_c s48 64 + 1) ≠ v0 then none else (let s50 := zz_w s49 40 v0 30 (zz_c s48 64 + 1); (let s51 := zz_n s50 65 1 240; (if true = true ∧ (zz_c s50 65 + 1) ≠ v0 then none else (let s52 := zz_w s51 40 v0 31 (zz_c s50 65 + 1); (let s53 := zz_n s52 66 1 240; (if true = true ∧ (zz_c s52 66 + 1) ≠ v0 then none else (let s54 := zz_w s53 40 v0 32 (zz_c s52 66 + 1); (let s55 := zz_n s54 67 1 240; (if true = true ∧ (zz_c s54 67 + 1) ≠ v0 then none else (let s56 := zz_w s55 40 v0 33 (zz_c s54 67 + 1); (let s57 := zz_n s56 68 1 60; (if true = true ∧ (zz_c s56 68 + 1) ≠ v0 then none else (let s58 := zz_w s57 40 v0 34 (zz_c s56 68 + 1); (let s59 := zz_n s58 69 1 240; (if true = true ∧ (zz_c s58 69 + 1) ≠ v0 then none else (let s60 := zz_w s59 40 v0 35 (zz_c s58 69 + 1); (let s61 := zz_n s60 70 1 240; (if true = true ∧ (zz_c s60 70 + 1) ≠ v0 then none else (let s62 := zz_w s61 40 v0 36 (zz_c s60 70 + 1); (let s63 := zz_n s62 71 1 40; (if true = true ∧ (zz_c s62 71 + 1) ≠ v0 then none else (let s64 := zz_w s63 40 v0 38 (zz_c s62 71 + 1); (let s65 := zz_n s64 72 1 40; (if true = true ∧ (zz_c s64 72 + 1) ≠ v0 then none else (let s66 := zz_w s65 40 v0 39 (zz_c s64 72 + 1); (let s67 := zz_n s66 73 1 40; (if true = true ∧ (zz_c s66 73 + 1) ≠ v0 then none else (let s68 := zz_w s67 40 v0 40 (zz_c s66 73 + 1); (let s69 := zz_n s68 74 1 8; (if true = true ∧ (zz_c s68 74 + 1) ≠ v0 then none else (let s70 := zz_w s69 40 v0 41 (zz_c s68 74 + 1); (let s71 := zz_n s70 75 1 2000; (if true = true ∧ (zz_c s70 75 + 1) ≠ v0 then none else (let s72 := zz_w s71 40 v0 43 (zz_c s70 75 + 1); (let s73 := zz_n s72 76 1 2000; (if true = true ∧ (zz_c s72 76 + 1) ≠ v0 then none else (let s74 := zz_w s73 40 v0 44 (zz_c s72 76 + 1); (let s75 := zz_n s74 77 1 2000; (if true = true ∧ (zz_c s74 77 + 1) ≠ v0 then none else (let s76 := zz_w s75 40 v0 45 (zz_c s74 77 + 1); (let s77 := zz_n s76 78 1 2000; (if true = true ∧ (zz_c s76 78 + 1) ≠ v0 then none else (let s78 := zz_w s77 40 v0 46 (zz_c s76 78 + 1); (let s79 := zz_n s78 79 1 2000; (if true = true ∧ (zz_c s78 79 + 1) ≠ v0 then none else (let s80 := zz_w s79 40 v0 47 (zz_c s78 79 + 1); (let s81 := zz_n s80 80 1 2000; (if true = true ∧ (zz_c s80 80 + 1) ≠ v0 then none else (let s82 := zz_w s81 40 v0 48 (zz_c s80 80 + 1); (let s83 := zz_n s82 81 1 2000; (if true = true ∧ (zz_c s82 81 + 1) ≠ v0 then none else (let s84 := zz_w s83 40 v0 49 (zz_c s82 81 + 1); (let s85 := zz_n s84 82 1 2000; (if true = true ∧ (zz_c s84 82 + 1) ≠ v0 then none else (let s86 := zz_w s85 40 v0 50 (zz_c s84 82 + 1); (let s87 := zz_n s86 83 1 2000; (if true = true ∧ (zz_c s86 83 + 1) ≠ v0 then none else (let s88 := zz_w s87 40 v0 51 (zz_c s86 83 + 1); (let s89 := zz_n s88 84 1 2000; (if true = true ∧ (zz_c s88 84 + 1) ≠ v0 then none else (let s90 := zz_w s89 40 v0 52 (zz_c s88 84 + 1); (let s91 := zz_n s90 85 1 100; (if true = true ∧ (zz_c s90 85 + 1) ≠ v0 then none else (let s92 := zz_w s91 40 v0 54 (zz_c s90 85 + 1); (let s93 := zz_n s92 86 1 100; (if true = true ∧ (zz_c s92 86 + 1) ≠ v0 then none else (let s94 := zz_w s93 40 v0 55 (zz_c s92 86 + 1); (let s95 := zz_n s94 87 1 100; (if true = true ∧ (zz_c s94 87 + 1) ≠ v0 then none else (let s96 := zz_w s95 40 v0 56 (zz_c s94 87 + 1); (let s97 := zz_n s96 88 1 300; (if true = true ∧ (zz_c s96 88 + 1) ≠ v0 then none else (let s98 := zz_w s97 40 v0 58 (zz_c s96 88 + 1); (let s99 := zz_n s98 89 1 300; (if true = true ∧ (zz_c s98 89 + 1) ≠ v0 then none else (let s100 := zz_w s99 40 v0 59 (zz_c s98 89 + 1); (let s101 := zz_n s100 90 1 300; (if true = true ∧ (zz_c s100 90 + 1) ≠ v0 then none else (let s102 := zz_w s101 40 v0 60 (zz_c s100 90 + 1); (let s103 := zz_n s102 91 1 60; (if true = true ∧ (zz_c s102 91 + 1) ≠ v0 then none else (let s104 := zz_w s103 40 v0 61 (zz_c s102 91 + 1); (m_new_442 zz_fu v0 0 s104))))))))))))))))))))))))))))))))))))))))))))))))))))))))))))))))))))))))))))))))))))))))))))))))))))))))))))))))))))))))))))))))))))))))))))))))))))))))))))
set_option maxRecDepth 100000 in
set_option maxHeartbeats 4000000 in
theorem ze_m_new (v0 : Int) (σ : zz_S) : m_new v0 σ = zz_ev (zz_CE []) (zz_KE [(442, [(0, 1040, false), (1, 0, false)], fun vs σ => match vs with | [b0, b1] => m_new_442 zz_fu b0 b1 σ | _ => none)]) zk_m_new 999 false 40 1 400 true (zz_sk zk_m_new 0) [(0, 1040, v0)] [] σ := rfl
noncomputable def zw_m_new : List Int → zz_S → zz_R := fun vs σ => match vs with
  | [a0] => m_new a0 σ
  | _ => none
def zk_m_in : List zz_E := [(0, false, .iload_n 0, 1, 0, (0, 0, 0, 0), 0, []),
  (1, false, .iload_n 1, 1, 0, (0, 0, 0, 0), 0, []),
  (2, false, .if_icmp .lt 12, 3, 0, (14, 0, 0, 0), 0, []),
  (5, false, .iload_n 0, 1, 0, (0, 0, 0, 0), 0, []),
  (6, false, .iload_n 2, 1, 0, (0, 0, 0, 0), 0, []),
  (7, false, .if_icmp .gt 7, 3, 0, (14, 0, 0, 0), 0, []),
  (10, false, .iconst 1, 1, 0, (0, 0, 0, 0), 0, []),
  (11, false, .goto 4, 3, 0, (15, 0, 0, 0), 0, []),
  (14, false, .iconst 0, 1, 0, (0, 0, 0, 0), 0, []),
  (15, false, .ireturn, 1, 0, (0, 0, 0, 0), 0, [])]
noncomputable def m_in (v0 v1 v2 : Int) (σ : zz_S) : zz_R := (if v0 < v1 then (some (0, σ)) else (if v0 ≤ v2 then (some (1, σ)) else (some (0, σ))))
set_option maxRecDepth 100000 in
set_option maxHeartbeats 4000000 in
theorem ze_m_in (v0 v1 v2 : Int) (σ : zz_S) : m_in v0 v1 v2 σ = zz_ev (zz_CE []) (zz_KE []) zk_m_in 0 true 0 1 400 true (zz_sk zk_m_in 0) [(0, 0, v0), (1, 0, v1), (2, 0, v2)] [] σ := rfl
noncomputable def zw_m_in : List Int → zz_S → zz_R := fun vs σ => match vs with
  | [a0, a1, a2] => m_in a0 a1 a2 σ
  | _ => none
def zk_m_isTask : List zz_E := [(0, false, .iload_n 1, 1, 0, (0, 0, 0, 0), 0, []),
  (1, false, .iconst 0, 1, 0, (0, 0, 0, 0), 0, []),
  (2, false, .aload_n 0, 1, 0, (0, 0, 0, 0), 0, []),
  (3, false, .getfield 171, 3, 803, (40, 9, 0, 0), 0, []),
  (6, false, .iconst 1, 1, 0, (0, 0, 0, 0), 0, []),
  (7, false, .isub, 1, 0, (0, 0, 0, 0), 0, []),
  (8, false, .invokestatic 174, 3, 1021, (108, 3, 0, 0), 0, [0, 0, 0]),
  (11, false, .ireturn, 1, 0, (0, 0, 0, 0), 0, [])]
noncomputable def m_isTask (v1 : Int) (σ : zz_S) : zz_R := ((m_in v1 0 (zz_r ((zz_h σ 40 1 9) - 1)) σ).bind fun q1 => (if zz_o q1.1 then (some (q1.1, q1.2)) else none))
set_option maxRecDepth 100000 in
set_option maxHeartbeats 4000000 in
theorem ze_m_isTask (v1 : Int) (σ : zz_S) : m_isTask v1 σ = zz_ev (zz_CE [(108, zw_m_in)]) (zz_KE []) zk_m_isTask 0 true 0 1 400 true (zz_sk zk_m_isTask 0) [(0, 42, 1), (1, 0, v1)] [] σ := rfl
noncomputable def zw_m_isTask : List Int → zz_S → zz_R := fun vs σ => match vs with
  | [a0, a1] => if a0 = 1 then m_isTask a1 σ else none
  | _ => none
def zk_m_isActive : List zz_E := [(0, false, .aload_n 0, 1, 0, (0, 0, 0, 0), 0, []),
  (1, false, .getfield 62, 3, 816, (40, 22, 58, 1), 0, []),
  (4, false, .iload_n 1, 1, 0, (0, 0, 0, 0), 0, []),
  (5, false, .iaload, 1, 0, (56, 0, 0, 0), 0, []),
  (6, false, .ifCond .ne 7, 3, 0, (13, 0, 0, 0), 0, []),
  (9, false, .iconst 1, 1, 0, (0, 0, 0, 0), 0, []),
  (10, false, .goto 4, 3, 0, (14, 0, 0, 0), 0, []),
  (13, false, .iconst 0, 1, 0, (0, 0, 0, 0), 0, []),
  (14, false, .ireturn, 1, 0, (0, 0, 0, 0), 0, [])]
noncomputable def m_isActive (v1 : Int) (σ : zz_S) : zz_R := (if zz_b σ 56 1 v1 then (if (zz_h σ 56 1 v1) = 0 then (some (1, σ)) else (some (0, σ))) else none)
set_option maxRecDepth 100000 in
set_option maxHeartbeats 4000000 in
theorem ze_m_isActive (v1 : Int) (σ : zz_S) : m_isActive v1 σ = zz_ev (zz_CE []) (zz_KE []) zk_m_isActive 0 true 0 1 400 true (zz_sk zk_m_isActive 0) [(0, 42, 1), (1, 0, v1)] [] σ := rfl
noncomputable def zw_m_isActive : List Int → zz_S → zz_R := fun vs σ => match vs with
  | [a0, a1] => if a0 = 1 then m_isActive a1 σ else none
  | _ => none
def zk_m_atWork : List zz_E := [(0, false, .iconst 0, 1, 0, (0, 0, 0, 0), 0, []),
  (1, false, .istore_n 1, 1, 0, (0, 0, 0, 0), 0, []),
  (2, false, .iconst 0, 1, 0, (0, 0, 0, 0), 0, []),
  (3, false, .istore_n 2, 1, 0, (0, 0, 0, 0), 0, []),
  (4, true, .iload_n 2, 1, 0, (0, 0, 0, 0), 0, []),
  (5, false, .aload_n 0, 1, 0, (0, 0, 0, 0), 0, []),
  (6, false, .getfield 13, 3, 798, (40, 4, 0, 0), 0, []),
  (9, false, .if_icmp .ge 22, 3, 0, (31, 0, 0, 0), 0, []),
  (12, false, .aload_n 0, 1, 0, (0, 0, 0, 0), 0, []),
  (13, false, .getfield 16, 3, 799, (40, 5, 43, 1), 0, []),
  (16, false, .iload_n 2, 1, 0, (0, 0, 0, 0), 0, []),
  (17, false, .iaload, 1, 0, (41, 0, 0, 0), 0, []),
  (18, false, .iconst (-1), 1, 0, (0, 0, 0, 0), 0, []),
  (19, false, .if_icmp .eq 6, 3, 0, (25, 0, 0, 0), 0, []),
  (22, false, .iinc 1 1, 3, 0, (0, 0, 0, 0), 0, []),
  (25, false, .iinc 2 1, 3, 0, (0, 0, 0, 0), 0, []),
  (28, false, .goto (-24), 3, 0, (4, 0, 0, 0), 0, []),
  (31, false, .iload_n 1, 1, 0, (0, 0, 0, 0), 0, []),
  (32, false, .ireturn, 1, 0, (0, 0, 0, 0), 0, [])]
noncomputable def m_atWork_4 : Nat → Int → Int → zz_S → zz_R
  | 0, _, _, _ => none
  | n + 1, v1, v2, σ => (if v2 < (zz_h σ 40 1 4) then (if zz_b σ 41 1 v2 then (if (zz_h σ 41 1 v2) = (-1) then (m_atWork_4 n v1 (zz_r (v2 + 1)) σ) else (m_atWork_4 n (zz_r (v1 + 1)) (zz_r (v2 + 1)) σ)) else none) else (some (v1, σ)))
set_option maxRecDepth 100000 in
set_option maxHeartbeats 4000000 in
theorem ze_m_atWork_4 (n : Nat) (v1 v2 : Int) (σ : zz_S) : m_atWork_4 (n + 1) v1 v2 σ = zz_ev (zz_CE []) (zz_KE [(4, [(0, 42, true), (1, 0, false), (2, 0, false)], fun vs σ => match vs with | [b0, b1] => m_atWork_4 n b0 b1 σ | _ => none)]) zk_m_atWork 0 false 0 1 400 true (zz_sk zk_m_atWork 4) [(0, 42, 1), (1, 0, v1), (2, 0, v2)] [] σ := rfl
noncomputable def m_atWork (σ : zz_S) : zz_R := (m_atWork_4 zz_fu 0 0 σ)
set_option maxRecDepth 100000 in
set_option maxHeartbeats 4000000 in
theorem ze_m_atWork (σ : zz_S) : m_atWork σ = zz_ev (zz_CE []) (zz_KE [(4, [(0, 42, true), (1, 0, false), (2, 0, false)], fun vs σ => match vs with | [b0, b1] => m_atWork_4 zz_fu b0 b1 σ | _ => none)]) zk_m_atWork 0 false 0 1 400 true (zz_sk zk_m_atWork 0) [(0, 42, 1)] [] σ := rfl
noncomputable def zw_m_atWork : List Int → zz_S → zz_R := fun vs σ => match vs with
  | [a0] => if a0 = 1 then m_atWork σ else none
  | _ => none
def zk_m_isRunning : List zz_E := [(0, false, .iconst 0, 1, 0, (0, 0, 0, 0), 0, []),
  (1, false, .istore_n 2, 1, 0, (0, 0, 0, 0), 0, []),
  (2, true, .iload_n 2, 1, 0, (0, 0, 0, 0), 0, []),
  (3, false, .aload_n 0, 1, 0, (0, 0, 0, 0), 0, []),
  (4, false, .getfield 13, 3, 798, (40, 4, 0, 0), 0, []),
  (7, false, .if_icmp .ge 36, 3, 0, (43, 0, 0, 0), 0, []),
  (10, false, .aload_n 0, 1, 0, (0, 0, 0, 0), 0, []),
  (11, false, .getfield 16, 3, 799, (40, 5, 43, 1), 0, []),
  (14, false, .iload_n 2, 1, 0, (0, 0, 0, 0), 0, []),
  (15, false, .iaload, 1, 0, (41, 0, 0, 0), 0, []),
  (16, false, .iconst (-1), 1, 0, (0, 0, 0, 0), 0, []),
  (17, false, .if_icmp .eq 20, 3, 0, (37, 0, 0, 0), 0, []),
  (20, false, .aload_n 0, 1, 0, (0, 0, 0, 0), 0, []),
  (21, false, .getfield 120, 3, 837, (40, 43, 77, 1), 0, []),
  (24, false, .aload_n 0, 1, 0, (0, 0, 0, 0), 0, []),
  (25, false, .getfield 16, 3, 799, (40, 5, 43, 1), 0, []),
  (28, false, .iload_n 2, 1, 0, (0, 0, 0, 0), 0, []),
  (29, false, .iaload, 1, 0, (41, 0, 0, 0), 0, []),
  (30, false, .iaload, 1, 0, (75, 0, 0, 0), 0, []),
  (31, false, .iload_n 1, 1, 0, (0, 0, 0, 0), 0, []),
  (32, false, .if_icmp .ne 5, 3, 0, (37, 0, 0, 0), 0, []),
  (35, false, .iconst 1, 1, 0, (0, 0, 0, 0), 0, []),
  (36, false, .ireturn, 1, 0, (0, 0, 0, 0), 0, []),
  (37, false, .iinc 2 1, 3, 0, (0, 0, 0, 0), 0, []),
  (40, false, .goto (-38), 3, 0, (2, 0, 0, 0), 0, []),
  (43, false, .iconst 0, 1, 0, (0, 0, 0, 0), 0, []),
  (44, false, .ireturn, 1, 0, (0, 0, 0, 0), 0, [])]
noncomputable def m_isRunning_2 : Nat → Int → Int → zz_S → zz_R
  | 0, _, _, _ => none
  | n + 1, v1, v2, σ => (if v2 < (zz_h σ 40 1 4) then (if zz_b σ 41 1 v2 then (if (zz_h σ 41 1 v2) = (-1) then (m_isRunning_2 n v1 (zz_r (v2 + 1)) σ) else (if zz_b σ 41 1 v2 then (if zz_b σ 75 1 (zz_h σ 41 1 v2) then (if (zz_h σ 75 1 (zz_h σ 41 1 v2)) = v1 then (some (1, σ)) else (m_isRunning_2 n v1 (zz_r (v2 + 1)) σ)) else none) else none)) else none) else (some (0, σ)))
set_option maxRecDepth 100000 in
set_option maxHeartbeats 4000000 in
theorem ze_m_isRunning_2 (n : Nat) (v1 v2 : Int) (σ : zz_S) : m_isRunning_2 (n + 1) v1 v2 σ = zz_ev (zz_CE []) (zz_KE [(2, [(0, 42, true), (1, 0, false), (2, 0, false)], fun vs σ => match vs with | [b0, b1] => m_isRunning_2 n b0 b1 σ | _ => none)]) zk_m_isRunning 0 true 0 1 400 true (zz_sk zk_m_isRunning 2) [(0, 42, 1), (1, 0, v1), (2, 0, v2)] [] σ := rfl
noncomputable def m_isRunning (v1 : Int) (σ : zz_S) : zz_R := (m_isRunning_2 zz_fu v1 0 σ)
set_option maxRecDepth 100000 in
set_option maxHeartbeats 4000000 in
theorem ze_m_isRunning (v1 : Int) (σ : zz_S) : m_isRunning v1 σ = zz_ev (zz_CE []) (zz_KE [(2, [(0, 42, true), (1, 0, false), (2, 0, false)], fun vs σ => match vs with | [b0, b1] => m_isRunning_2 zz_fu b0 b1 σ | _ => none)]) zk_m_isRunning 0 true 0 1 400 true (zz_sk zk_m_isRunning 0) [(0, 42, 1), (1, 0, v1)] [] σ := rfl
noncomputable def zw_m_isRunning : List Int → zz_S → zz_R := fun vs σ => match vs with
  | [a0, a1] => if a0 = 1 then m_isRunning a1 σ else none
  | _ => none
def zk_m_loadOf : List zz_E := [(0, false, .iconst 0, 1, 0, (0, 0, 0, 0), 0, []),
  (1, false, .istore_n 2, 1, 0, (0, 0, 0, 0), 0, []),
  (2, false, .iconst 0, 1, 0, (0, 0, 0, 0), 0, []),
  (3, false, .istore_n 3, 1, 0, (0, 0, 0, 0), 0, []),
  (4, true, .iload_n 3, 1, 0, (0, 0, 0, 0), 0, []),
  (5, false, .aload_n 0, 1, 0, (0, 0, 0, 0), 0, []),
  (6, false, .getfield 13, 3, 798, (40, 4, 0, 0), 0, []),
  (9, false, .if_icmp .ge 37, 3, 0, (46, 0, 0, 0), 0, []),
  (12, false, .aload_n 0, 1, 0, (0, 0, 0, 0), 0, []),
  (13, false, .getfield 16, 3, 799, (40, 5, 43, 1), 0, []),
  (16, false, .iload_n 3, 1, 0, (0, 0, 0, 0), 0, []),
  (17, false, .iaload, 1, 0, (41, 0, 0, 0), 0, []),
  (18, false, .iconst (-1), 1, 0, (0, 0, 0, 0), 0, []),
  (19, false, .if_icmp .eq 21, 3, 0, (40, 0, 0, 0), 0, []),
  (22, false, .aload_n 0, 1, 0, (0, 0, 0, 0), 0, []),
  (23, false, .getfield 144, 3, 845, (40, 51, 85, 1), 0, []),
  (26, false, .aload_n 0, 1, 0, (0, 0, 0, 0), 0, []),
  (27, false, .getfield 16, 3, 799, (40, 5, 43, 1), 0, []),
  (30, false, .iload_n 3, 1, 0, (0, 0, 0, 0), 0, []),
  (31, false, .iaload, 1, 0, (41, 0, 0, 0), 0, []),
  (32, false, .iaload, 1, 0, (83, 0, 0, 0), 0, []),
  (33, false, .iload_n 1, 1, 0, (0, 0, 0, 0), 0, []),
  (34, false, .if_icmp .ne 6, 3, 0, (40, 0, 0, 0), 0, []),
  (37, false, .iinc 2 1, 3, 0, (0, 0, 0, 0), 0, []),
  (40, false, .iinc 3 1, 3, 0, (0, 0, 0, 0), 0, []),
  (43, false, .goto (-39), 3, 0, (4, 0, 0, 0), 0, []),
  (46, false, .iload_n 2, 1, 0, (0, 0, 0, 0), 0, []),
  (47, false, .ireturn, 1, 0, (0, 0, 0, 0), 0, [])]
noncomputable def m_loadOf_4 : Nat → Int → Int → Int → zz_S → zz_R
  | 0, _, _, _, _ => none
  | n + 1, v1, v2, v3, σ => (if v3 < (zz_h σ 40 1 4) then (if zz_b σ 41 1 v3 then (if (zz_h σ 41 1 v3) = (-1) then (m_loadOf_4 n v1 v2 (zz_r (v3 + 1)) σ) else (if zz_b σ 41 1 v3 then (if zz_b σ 83 1 (zz_h σ 41 1 v3) then (if (zz_h σ 83 1 (zz_h σ 41 1 v3)) = v1 then (m_loadOf_4 n v1 (zz_r (v2 + 1)) (zz_r (v3 + 1)) σ) else (m_loadOf_4 n v1 v2 (zz_r (v3 + 1)) σ)) else none) else none)) else none) else (some (v2, σ)))
set_option maxRecDepth 100000 in
set_option maxHeartbeats 4000000 in
theorem ze_m_loadOf_4 (n : Nat) (v1 v2 v3 : Int) (σ : zz_S) : m_loadOf_4 (n + 1) v1 v2 v3 σ = zz_ev (zz_CE []) (zz_KE [(4, [(0, 42, true), (1, 0, false), (2, 0, false), (3, 0, false)], fun vs σ => match vs with | [b0, b1, b2] => m_loadOf_4 n b0 b1 b2 σ | _ => none)]) zk_m_loadOf 0 false 0 1 400 true (zz_sk zk_m_loadOf 4) [(0, 42, 1), (1, 0, v1), (2, 0, v2), (3, 0, v3)] [] σ := rfl
noncomputable def m_loadOf (v1 : Int) (σ : zz_S) : zz_R := (m_loadOf_4 zz_fu v1 0 0 σ)
set_option maxRecDepth 100000 in
set_option maxHeartbeats 4000000 in
theorem ze_m_loadOf (v1 : Int) (σ : zz_S) : m_loadOf v1 σ = zz_ev (zz_CE []) (zz_KE [(4, [(0, 42, true), (1, 0, false), (2, 0, false), (3, 0, false)], fun vs σ => match vs with | [b0, b1, b2] => m_loadOf_4 zz_fu b0 b1 b2 σ | _ => none)]) zk_m_loadOf 0 false 0 1 400 true (zz_sk zk_m_loadOf 0) [(0, 42, 1), (1, 0, v1)] [] σ := rfl
noncomputable def zw_m_loadOf : List Int → zz_S → zz_R := fun vs σ => match vs with
  | [a0, a1] => if a0 = 1 then m_loadOf a1 σ else none
  | _ => none
def zk_m_duesOf : List zz_E := [(0, false, .iconst 0, 1, 0, (0, 0, 0, 0), 0, []),
  (1, false, .istore_n 2, 1, 0, (0, 0, 0, 0), 0, []),
  (2, false, .iconst 0, 1, 0, (0, 0, 0, 0), 0, []),
  (3, false, .istore_n 3, 1, 0, (0, 0, 0, 0), 0, []),
  (4, true, .iload_n 3, 1, 0, (0, 0, 0, 0), 0, []),
  (5, false, .aload_n 0, 1, 0, (0, 0, 0, 0), 0, []),
  (6, false, .getfield 178, 3, 847, (40, 53, 0, 0), 0, []),
  (9, false, .if_icmp .ge 22, 3, 0, (31, 0, 0, 0), 0, []),
  (12, false, .aload_n 0, 1, 0, (0, 0, 0, 0), 0, []),
  (13, false, .getfield 150, 3, 848, (40, 54, 87, 1), 0, []),
  (16, false, .iload_n 3, 1, 0, (0, 0, 0, 0), 0, []),
  (17, false, .iaload, 1, 0, (85, 0, 0, 0), 0, []),
  (18, false, .iload_n 1, 1, 0, (0, 0, 0, 0), 0, []),
  (19, false, .if_icmp .ne 6, 3, 0, (25, 0, 0, 0), 0, []),
  (22, false, .iinc 2 1, 3, 0, (0, 0, 0, 0), 0, []),
  (25, false, .iinc 3 1, 3, 0, (0, 0, 0, 0), 0, []),
  (28, false, .goto (-24), 3, 0, (4, 0, 0, 0), 0, []),
  (31, false, .iload_n 2, 1, 0, (0, 0, 0, 0), 0, []),
  (32, false, .ireturn, 1, 0, (0, 0, 0, 0), 0, [])]
noncomputable def m_duesOf_4 : Nat → Int → Int → Int → zz_S → zz_R
  | 0, _, _, _, _ => none
  | n + 1, v1, v2, v3, σ => (if v3 < (zz_h σ 40 1 53) then (if zz_b σ 85 1 v3 then (if (zz_h σ 85 1 v3) = v1 then (m_duesOf_4 n v1 (zz_r (v2 + 1)) (zz_r (v3 + 1)) σ) else (m_duesOf_4 n v1 v2 (zz_r (v3 + 1)) σ)) else none) else (some (v2, σ)))
set_option maxRecDepth 100000 in
set_option maxHeartbeats 4000000 in
theorem ze_m_duesOf_4 (n : Nat) (v1 v2 v3 : Int) (σ : zz_S) : m_duesOf_4 (n + 1) v1 v2 v3 σ = zz_ev (zz_CE []) (zz_KE [(4, [(0, 42, true), (1, 0, false), (2, 0, false), (3, 0, false)], fun vs σ => match vs with | [b0, b1, b2] => m_duesOf_4 n b0 b1 b2 σ | _ => none)]) zk_m_duesOf 0 false 0 1 400 true (zz_sk zk_m_duesOf 4) [(0, 42, 1), (1, 0, v1), (2, 0, v2), (3, 0, v3)] [] σ := rfl
noncomputable def m_duesOf (v1 : Int) (σ : zz_S) : zz_R := (m_duesOf_4 zz_fu v1 0 0 σ)
set_option maxRecDepth 100000 in
set_option maxHeartbeats 4000000 in
theorem ze_m_duesOf (v1 : Int) (σ : zz_S) : m_duesOf v1 σ = zz_ev (zz_CE []) (zz_KE [(4, [(0, 42, true), (1, 0, false), (2, 0, false), (3, 0, false)], fun vs σ => match vs with | [b0, b1, b2] => m_duesOf_4 zz_fu b0 b1 b2 σ | _ => none)]) zk_m_duesOf 0 false 0 1 400 true (zz_sk zk_m_duesOf 0) [(0, 42, 1), (1, 0, v1)] [] σ := rfl
noncomputable def zw_m_duesOf : List Int → zz_S → zz_R := fun vs σ => match vs with
  | [a0, a1] => if a0 = 1 then m_duesOf a1 σ else none
  | _ => none
def zk_m_monthLength : List zz_E := [(0, false, .iload_n 0, 1, 0, (0, 0, 0, 0), 0, []),
  (1, false, .iconst 2, 1, 0, (0, 0, 0, 0), 0, []),
  (2, false, .if_icmp .ne 6, 3, 0, (8, 0, 0, 0), 0, []),
  (5, false, .bipush 28, 2, 0, (0, 0, 0, 0), 0, []),
  (7, false, .ireturn, 1, 0, (0, 0, 0, 0), 0, []),
  (8, false, .iload_n 0, 1, 0, (0, 0, 0, 0), 0, []),
  (9, false, .iconst 4, 1, 0, (0, 0, 0, 0), 0, []),
  (10, false, .if_icmp .eq 21, 3, 0, (31, 0, 0, 0), 0, []),
  (13, false, .iload_n 0, 1, 0, (0, 0, 0, 0), 0, []),
  (14, false, .bipush 6, 2, 0, (0, 0, 0, 0), 0, []),
  (16, false, .if_icmp .eq 15, 3, 0, (31, 0, 0, 0), 0, []),
  (19, false, .iload_n 0, 1, 0, (0, 0, 0, 0), 0, []),
  (20, false, .bipush 9, 2, 0, (0, 0, 0, 0), 0, []),
  (22, false, .if_icmp .eq 9, 3, 0, (31, 0, 0, 0), 0, []),
  (25, false, .iload_n 0, 1, 0, (0, 0, 0, 0), 0, []),
  (26, false, .bipush 11, 2, 0, (0, 0, 0, 0), 0, []),
  (28, false, .if_icmp .ne 8, 3, 0, (36, 0, 0, 0), 0, []),
  (31, false, .bipush 30, 2, 0, (0, 0, 0, 0), 0, []),
  (33, false, .goto 5, 3, 0, (38, 0, 0, 0), 0, []),
  (36, false, .bipush 31, 2, 0, (0, 0, 0, 0), 0, []),
  (38, false, .ireturn, 1, 0, (0, 0, 0, 0), 0, [])]
noncomputable def m_monthLength (v0 : Int) (σ : zz_S) : zz_R := (if v0 = 2 then (some (28, σ)) else (if v0 = 4 then (some (30, σ)) else (if v0 = 6 then (some (30, σ)) else (if v0 = 9 then (some (30, σ)) else (if v0 = 11 then (some (30, σ)) else (some (31, σ)))))))
set_option maxRecDepth 100000 in
set_option maxHeartbeats 4000000 in
theorem ze_m_monthLength (v0 : Int) (σ : zz_S) : m_monthLength v0 σ = zz_ev (zz_CE []) (zz_KE []) zk_m_monthLength 0 false 0 1 400 true (zz_sk zk_m_monthLength 0) [(0, 0, v0)] [] σ := rfl
noncomputable def zw_m_monthLength : List Int → zz_S → zz_R := fun vs σ => match vs with
  | [a0] => m_monthLength a0 σ
  | _ => none
def zk_m_look : List zz_E := [(0, false, .iload_n 1, 1, 0, (0, 0, 0, 0), 0, []),
  (1, false, .sipush 365, 3, 0, (0, 0, 0, 0), 0, []),
  (4, false, .irem, 1, 0, (0, 0, 0, 0), 0, []),
  (5, false, .istore_n 2, 1, 0, (0, 0, 0, 0), 0, []),
  (6, false, .aload_n 0, 1, 0, (0, 0, 0, 0), 0, []),
  (7, false, .iconst 1, 1, 0, (0, 0, 0, 0), 0, []),
  (8, false, .putfield 181, 3, 856, (40, 62, 0, 0), 0, []),
  (11, true, .iload_n 2, 1, 0, (0, 0, 0, 0), 0, []),
  (12, false, .aload_n 0, 1, 0, (0, 0, 0, 0), 0, []),
  (13, false, .getfield 181, 3, 856, (40, 62, 0, 0), 0, []),
  (16, false, .invokestatic 184, 3, 1080, (115, 1, 0, 0), 0, [0]),
  (19, false, .if_icmp .lt 26, 3, 0, (45, 0, 0, 0), 0, []),
  (22, false, .iload_n 2, 1, 0, (0, 0, 0, 0), 0, []),
  (23, false, .aload_n 0, 1, 0, (0, 0, 0, 0), 0, []),
  (24, false, .getfield 181, 3, 856, (40, 62, 0, 0), 0, []),
  (27, false, .invokestatic 184, 3, 1080, (115, 1, 0, 0), 0, [0]),
  (30, false, .isub, 1, 0, (0, 0, 0, 0), 0, []),
  (31, false, .istore_n 2, 1, 0, (0, 0, 0, 0), 0, []),
  (32, false, .aload_n 0, 1, 0, (0, 0, 0, 0), 0, []),
  (33, false, .dup, 1, 0, (0, 0, 0, 0), 0, []),
  (34, false, .getfield 181, 3, 856, (40, 62, 0, 0), 0, []),
  (37, false, .iconst 1, 1, 0, (0, 0, 0, 0), 0, []),
  (38, false, .iadd, 1, 0, (0, 0, 0, 0), 0, []),
  (39, false, .putfield 181, 3, 856, (40, 62, 0, 0), 0, []),
  (42, false, .goto (-31), 3, 0, (11, 0, 0, 0), 0, []),
  (45, false, .aload_n 0, 1, 0, (0, 0, 0, 0), 0, []),
  (46, false, .iload_n 2, 1, 0, (0, 0, 0, 0), 0, []),
  (47, false, .iconst 1, 1, 0, (0, 0, 0, 0), 0, []),
  (48, false, .iadd, 1, 0, (0, 0, 0, 0), 0, []),
  (49, false, .putfield 188, 3, 857, (40, 63, 0, 0), 0, []),
  (52, false, .aload_n 0, 1, 0, (0, 0, 0, 0), 0, []),
  (53, false, .aload_n 0, 1, 0, (0, 0, 0, 0), 0, []),
  (54, false, .getfield 181, 3, 856, (40, 62, 0, 0), 0, []),
  (57, false, .invokestatic 184, 3, 1080, (115, 1, 0, 0), 0, [0]),
  (60, false, .putfield 191, 3, 859, (40, 65, 0, 0), 0, []),
  (63, false, .aload_n 0, 1, 0, (0, 0, 0, 0), 0, []),
  (64, false, .iload_n 1, 1, 0, (0, 0, 0, 0), 0, []),
  (65, false, .bipush 7, 2, 0, (0, 0, 0, 0), 0, []),
  (67, false, .irem, 1, 0, (0, 0, 0, 0), 0, []),
  (68, false, .putfield 194, 3, 858, (40, 64, 0, 0), 0, []),
  (71, false, .return_, 1, 0, (0, 0, 0, 0), 0, [])]
noncomputable def m_look_11 : Nat → Int → Int → zz_S → zz_R
  | 0, _, _, _ => none
  | n + 1, v1, v2, σ => ((m_monthLength (zz_h σ 40 1 62) σ).bind fun q1 => (if v2 < q1.1 then (let s2 := zz_w q1.2 40 1 63 (zz_r (v2 + 1)); ((m_monthLength (zz_h s2 40 1 62) s2).bind fun q3 => (let s4 := zz_w q3.2 40 1 65 q3.1; (let s5 := zz_w s4 40 1 64 (zz_rem v1 7); (some (0, s5)))))) else ((m_monthLength (zz_h q1.2 40 1 62) q1.2).bind fun q6 => (let s7 := zz_w q6.2 40 1 62 (zz_r ((zz_h q6.2 40 1 62) + 1)); (m_look_11 n v1 (zz_r (v2 - q6.1)) s7)))))
set_option maxRecDepth 100000 in
set_option maxHeartbeats 4000000 in
theorem ze_m_look_11 (n : Nat) (v1 v2 : Int) (σ : zz_S) : m_look_11 (n + 1) v1 v2 σ = zz_ev (zz_CE [(115, zw_m_monthLength)]) (zz_KE [(11, [(0, 42, true), (1, 0, false), (2, 0, false)], fun vs σ => match vs with | [b0, b1] => m_look_11 n b0 b1 σ | _ => none)]) zk_m_look 999 false 0 1 400 true (zz_sk zk_m_look 11) [(0, 42, 1), (1, 0, v1), (2, 0, v2)] [] σ := rfl
noncomputable def m_look (v1 : Int) (σ : zz_S) : zz_R := (let s1 := zz_w σ 40 1 62 1; (m_look_11 zz_fu v1 (zz_rem v1 365) s1))
set_option maxRecDepth 100000 in
set_option maxHeartbeats 4000000 in
theorem ze_m_look (v1 : Int) (σ : zz_S) : m_look v1 σ = zz_ev (zz_CE []) (zz_KE [(11, [(0, 42, true), (1, 0, false), (2, 0, false)], fun vs σ => match vs with | [b0, b1] => m_look_11 zz_fu b0 b1 σ | _ => none)]) zk_m_look 999 false 0 1 400 true (zz_sk zk_m_look 0) [(0, 42, 1), (1, 0, v1)] [] σ := rfl
noncomputable def zw_m_look : List Int → zz_S → zz_R := fun vs σ => match vs with
  | [a0, a1] => if a0 = 1 then m_look a1 σ else none
  | _ => none
def zk_m_fitsDay : List zz_E := [(0, false, .iconst 4, 1, 0, (0, 0, 0, 0), 0, []),
  (1, false, .iload_n 1, 1, 0, (0, 0, 0, 0), 0, []),
  (2, false, .imul, 1, 0, (0, 0, 0, 0), 0, []),
  (3, false, .istore_n 2, 1, 0, (0, 0, 0, 0), 0, []),
  (4, true, .iload_n 2, 1, 0, (0, 0, 0, 0), 0, []),
  (5, false, .iconst 4, 1, 0, (0, 0, 0, 0), 0, []),
  (6, false, .iload_n 1, 1, 0, (0, 0, 0, 0), 0, []),
  (7, false, .imul, 1, 0, (0, 0, 0, 0), 0, []),
  (8, false, .aload_n 0, 1, 0, (0, 0, 0, 0), 0, []),
  (9, false, .getfield 87, 3, 824, (40, 30, 66, 1), 0, []),
  (12, false, .iload_n 1, 1, 0, (0, 0, 0, 0), 0, []),
  (13, false, .iaload, 1, 0, (64, 0, 0, 0), 0, []),
  (14, false, .iadd, 1, 0, (0, 0, 0, 0), 0, []),
  (15, false, .if_icmp .ge 233, 3, 0, (248, 0, 0, 0), 0, []),
  (18, false, .aload_n 0, 1, 0, (0, 0, 0, 0), 0, []),
  (19, false, .getfield 93, 3, 826, (40, 32, 68, 1), 0, []),
  (22, false, .iload_n 2, 1, 0, (0, 0, 0, 0), 0, []),
  (23, false, .iaload, 1, 0, (66, 0, 0, 0), 0, []),
  (24, false, .istore_n 3, 1, 0, (0, 0, 0, 0), 0, []),
  (25, false, .aload_n 0, 1, 0, (0, 0, 0, 0), 0, []),
  (26, false, .getfield 96, 3, 827, (40, 33, 69, 1), 0, []),
  (29, false, .iload_n 2, 1, 0, (0, 0, 0, 0), 0, []),
  (30, false, .iaload, 1, 0, (67, 0, 0, 0), 0, []),
  (31, false, .istore 4, 2, 0, (0, 0, 0, 0), 0, []),
  (33, false, .iconst 1, 1, 0, (0, 0, 0, 0), 0, []),
  (34, false, .istore 5, 2, 0, (0, 0, 0, 0), 0, []),
  (36, false, .aload_n 0, 1, 0, (0, 0, 0, 0), 0, []),
  (37, false, .getfield 90, 3, 825, (40, 31, 67, 1), 0, []),
  (40, false, .iload_n 2, 1, 0, (0, 0, 0, 0), 0, []),
  (41, false, .iaload, 1, 0, (65, 0, 0, 0), 0, []),
  (42, false, .tableswitch 193 3 8 #[38, 56, 102, 120, 141, 175], 38, 0, (235, 0, 0, 0), 3, [80, 98, 144, 162, 183, 217]),
  (80, false, .aload_n 0, 1, 0, (0, 0, 0, 0), 0, []),
  (81, false, .getfield 194, 3, 858, (40, 64, 0, 0), 0, []),
  (84, false, .iload_n 3, 1, 0, (0, 0, 0, 0), 0, []),
  (85, false, .if_icmp .ne 7, 3, 0, (92, 0, 0, 0), 0, []),
  (88, false, .iconst 1, 1, 0, (0, 0, 0, 0), 0, []),
  (89, false, .goto 4, 3, 0, (93, 0, 0, 0), 0, []),
  (92, false, .iconst 0, 1, 0, (0, 0, 0, 0), 0, []),
  (93, false, .istore 5, 2, 0, (0, 0, 0, 0), 0, []),
  (95, false, .goto 140, 3, 0, (235, 0, 0, 0), 0, []),
  (98, false, .iload_n 3, 1, 0, (0, 0, 0, 0), 0, []),
  (99, false, .iload 4, 2, 0, (0, 0, 0, 0), 0, []),
  (101, false, .if_icmp .gt 16, 3, 0, (117, 0, 0, 0), 0, []),
  (104, false, .aload_n 0, 1, 0, (0, 0, 0, 0), 0, []),
  (105, false, .getfield 194, 3, 858, (40, 64, 0, 0), 0, []),
  (108, false, .iload_n 3, 1, 0, (0, 0, 0, 0), 0, []),
  (109, false, .iload 4, 2, 0, (0, 0, 0, 0), 0, []),
  (111, false, .invokestatic 174, 3, 1021, (108, 3, 0, 0), 0, [0, 0, 0]),
  (114, false, .goto 25, 3, 0, (139, 0, 0, 0), 0, []),
  (117, false, .aload_n 0, 1, 0, (0, 0, 0, 0), 0, []),
  (118, false, .getfield 194, 3, 858, (40, 64, 0, 0), 0, []),
  (121, false, .iload_n 3, 1, 0, (0, 0, 0, 0), 0, []),
  (122, false, .if_icmp .ge 12, 3, 0, (134, 0, 0, 0), 0, []),
  (125, false, .aload_n 0, 1, 0, (0, 0, 0, 0), 0, []),
  (126, false, .getfield 194, 3, 858, (40, 64, 0, 0), 0, []),
  (129, false, .iload 4, 2, 0, (0, 0, 0, 0), 0, []),
  (131, false, .if_icmp .gt 7, 3, 0, (138, 0, 0, 0), 0, []),
  (134, true, .iconst 1, 1, 0, (0, 0, 0, 0), 0, []),
  (135, false, .goto 4, 3, 0, (139, 0, 0, 0), 0, []),
  (138, false, .iconst 0, 1, 0, (0, 0, 0, 0), 0, []),
  (139, false, .istore 5, 2, 0, (0, 0, 0, 0), 0, []),
  (141, false, .goto 94, 3, 0, (235, 0, 0, 0), 0, []),
  (144, false, .aload_n 0, 1, 0, (0, 0, 0, 0), 0, []),
  (145, false, .getfield 188, 3, 857, (40, 63, 0, 0), 0, []),
  (148, false, .iload_n 3, 1, 0, (0, 0, 0, 0), 0, []),
  (149, false, .if_icmp .ne 7, 3, 0, (156, 0, 0, 0), 0, []),
  (152, false, .iconst 1, 1, 0, (0, 0, 0, 0), 0, []),
  (153, false, .goto 4, 3, 0, (157, 0, 0, 0), 0, []),
  (156, false, .iconst 0, 1, 0, (0, 0, 0, 0), 0, []),
  (157, false, .istore 5, 2, 0, (0, 0, 0, 0), 0, []),
  (159, false, .goto 76, 3, 0, (235, 0, 0, 0), 0, []),
  (162, false, .aload_n 0, 1, 0, (0, 0, 0, 0), 0, []),
  (163, false, .getfield 188, 3, 857, (40, 63, 0, 0), 0, []),
  (166, false, .aload_n 0, 1, 0, (0, 0, 0, 0), 0, []),
  (167, false, .getfield 191, 3, 859, (40, 65, 0, 0), 0, []),
  (170, false, .if_icmp .ne 7, 3, 0, (177, 0, 0, 0), 0, []),
  (173, false, .iconst 1, 1, 0, (0, 0, 0, 0), 0, []),
  (174, false, .goto 4, 3, 0, (178, 0, 0, 0), 0, []),
  (177, false, .iconst 0, 1, 0, (0, 0, 0, 0), 0, []),
  (178, false, .istore 5, 2, 0, (0, 0, 0, 0), 0, []),
  (180, false, .goto 55, 3, 0, (235, 0, 0, 0), 0, []),
  (183, false, .aload_n 0, 1, 0, (0, 0, 0, 0), 0, []),
  (184, false, .getfield 194, 3, 858, (40, 64, 0, 0), 0, []),
  (187, false, .iload 4, 2, 0, (0, 0, 0, 0), 0, []),
  (189, false, .if_icmp .ne 22, 3, 0, (211, 0, 0, 0), 0, []),
  (192, false, .aload_n 0, 1, 0, (0, 0, 0, 0), 0, []),
  (193, false, .getfield 188, 3, 857, (40, 63, 0, 0), 0, []),
  (196, false, .iconst 1, 1, 0, (0, 0, 0, 0), 0, []),
  (197, false, .isub, 1, 0, (0, 0, 0, 0), 0, []),
  (198, false, .bipush 7, 2, 0, (0, 0, 0, 0), 0, []),
  (200, false, .idiv, 1, 0, (0, 0, 0, 0), 0, []),
  (201, false, .iconst 1, 1, 0, (0, 0, 0, 0), 0, []),
  (202, false, .iadd, 1, 0, (0, 0, 0, 0), 0, []),
  (203, false, .iload_n 3, 1, 0, (0, 0, 0, 0), 0, []),
  (204, false, .if_icmp .ne 7, 3, 0, (211, 0, 0, 0), 0, []),
  (207, false, .iconst 1, 1, 0, (0, 0, 0, 0), 0, []),
  (208, false, .goto 4, 3, 0, (212, 0, 0, 0), 0, []),
  (211, true, .iconst 0, 1, 0, (0, 0, 0, 0), 0, []),
  (212, false, .istore 5, 2, 0, (0, 0, 0, 0), 0, []),
  (214, false, .goto 21, 3, 0, (235, 0, 0, 0), 0, []),
  (217, false, .aload_n 0, 1, 0, (0, 0, 0, 0), 0, []),
  (218, false, .getfield 181, 3, 856, (40, 62, 0, 0), 0, []),
  (221, false, .iload_n 3, 1, 0, (0, 0, 0, 0), 0, []),
  (222, false, .if_icmp .ne 7, 3, 0, (229, 0, 0, 0), 0, []),
  (225, false, .iconst 1, 1, 0, (0, 0, 0, 0), 0, []),
  (226, false, .goto 4, 3, 0, (230, 0, 0, 0), 0, []),
  (229, false, .iconst 0, 1, 0, (0, 0, 0, 0), 0, []),
  (230, false, .istore 5, 2, 0, (0, 0, 0, 0), 0, []),
  (232, false, .goto 3, 3, 0, (235, 0, 0, 0), 0, []),
  (235, false, .iload 5, 2, 0, (0, 0, 0, 0), 0, []),
  (237, false, .ifCond .ne 5, 3, 0, (242, 0, 0, 0), 0, []),
  (240, false, .iconst 0, 1, 0, (0, 0, 0, 0), 0, []),
  (241, false, .ireturn, 1, 0, (0, 0, 0, 0), 0, []),
  (242, false, .iinc 2 1, 3, 0, (0, 0, 0, 0), 0, []),
  (245, false, .goto (-241), 3, 0, (4, 0, 0, 0), 0, []),
  (248, false, .iconst 1, 1, 0, (0, 0, 0, 0), 0, []),
  (249, false, .ireturn, 1, 0, (0, 0, 0, 0), 0, [])]
noncomputable def m_fitsDay_211 (k4 : Int → Int → zz_S → zz_R) (v1 v2 : Int) (σ : zz_S) : zz_R := (some (0, σ))
set_option maxRecDepth 100000 in
set_option maxHeartbeats 4000000 in
theorem ze_m_fitsDay_211 (k4 : Int → Int → zz_S → zz_R) (v1 v2 : Int) (σ : zz_S) : m_fitsDay_211 k4 v1 v2 σ = zz_ev (zz_CE []) (zz_KE []) zk_m_fitsDay 0 true 0 1 400 true (zz_sk zk_m_fitsDay 211) [(0, 42, 1), (1, 0, v1), (2, 0, v2)] [] σ := rfl
noncomputable def m_fitsDay_134 (k4 : Int → Int → zz_S → zz_R) (v1 v2 : Int) (σ : zz_S) : zz_R := (k4 v1 (zz_r (v2 + 1)) σ)
set_option maxRecDepth 100000 in
set_option maxHeartbeats 4000000 in
theorem ze_m_fitsDay_134 (k4 : Int → Int → zz_S → zz_R) (v1 v2 : Int) (σ : zz_S) : m_fitsDay_134 k4 v1 v2 σ = zz_ev (zz_CE []) (zz_KE [(4, [(0, 42, true), (1, 0, false), (2, 0, false)], fun vs σ => match vs with | [b0, b1] => k4 b0 b1 σ | _ => none)]) zk_m_fitsDay 0 true 0 1 400 true (zz_sk zk_m_fitsDay 134) [(0, 42, 1), (1, 0, v1), (2, 0, v2)] [] σ := rfl
noncomputable def m_fitsDay_4 : Nat → Int → Int → zz_S → zz_R
  | 0, _, _, _ => none
  | n + 1, v1, v2, σ => (if zz_b σ 64 1 v1 then (if v2 < (zz_r ((zz_r (4 * v1)) + (zz_h σ 64 1 v1))) then (if zz_b σ 66 1 v2 then (if zz_b σ 67 1 v2 then (if zz_b σ 65 1 v2 then (if (zz_h σ 65 1 v2) = 3 then (if (zz_h σ 40 1 64) = (zz_h σ 66 1 v2) then (m_fitsDay_4 n v1 (zz_r (v2 + 1)) σ) else (some (0, σ))) else (if (zz_h σ 65 1 v2) = 4 then (if (zz_h σ 66 1 v2) ≤ (zz_h σ 67 1 v2) then ((m_in (zz_h σ 40 1 64) (zz_h σ 66 1 v2) (zz_h σ 67 1 v2) σ).bind fun q1 => (if q1.1 = 0 then (some (0, q1.2)) else (m_fitsDay_4 n v1 (zz_r (v2 + 1)) q1.2))) else (if (zz_h σ 40 1 64) < (zz_h σ 66 1 v2) then (if (zz_h σ 40 1 64) ≤ (zz_h σ 67 1 v2) then (m_fitsDay_134 (m_fitsDay_4 n) v1 v2 σ) else (some (0, σ))) else (m_fitsDay_134 (m_fitsDay_4 n) v1 v2 σ))) else (if (zz_h σ 65 1 v2) = 5 then (if (zz_h σ 40 1 63) = (zz_h σ 66 1 v2) then (m_fitsDay_4 n v1 (zz_r (v2 + 1)) σ) else (some (0, σ))) else (if (zz_h σ 65 1 v2) = 6 then (if (zz_h σ 40 1 63) = (zz_h σ 40 1 65) then (m_fitsDay_4 n v1 (zz_r (v2 + 1)) σ) else (some (0, σ))) else (if (zz_h σ 65 1 v2) = 7 then (if (zz_h σ 40 1 64) = (zz_h σ 67 1 v2) then (if (zz_r ((zz_div (zz_r ((zz_h σ 40 1 63) - 1)) 7) + 1)) = (zz_h σ 66 1 v2) then (m_fitsDay_4 n v1 (zz_r (v2 + 1)) σ) else (m_fitsDay_211 (m_fitsDay_4 n) v1 v2 σ)) else (m_fitsDay_211 (m_fitsDay_4 n) v1 v2 σ)) else (if (zz_h σ 65 1 v2) = 8 then (if (zz_h σ 40 1 62) = (zz_h σ 66 1 v2) then (m_fitsDay_4 n v1 (zz_r (v2 + 1)) σ) else (some (0, σ))) else (m_fitsDay_4 n v1 (zz_r (v2 + 1)) σ))))))) else none) else none) else none) else (some (1, σ))) else none)
set_option maxRecDepth 100000 in
set_option maxHeartbeats 4000000 in
theorem ze_m_fitsDay_4 (n : Nat) (v1 v2 : Int) (σ : zz_S) : m_fitsDay_4 (n + 1) v1 v2 σ = zz_ev (zz_CE [(108, zw_m_in)]) (zz_KE [(4, [(0, 42, true), (1, 0, false), (2, 0, false)], fun vs σ => match vs with | [b0, b1] => m_fitsDay_4 n b0 b1 σ | _ => none), (134, [(0, 42, true), (1, 0, false), (2, 0, false)], fun vs σ => match vs with | [b0, b1] => m_fitsDay_134 (m_fitsDay_4 n) b0 b1 σ | _ => none), (211, [(0, 42, true), (1, 0, false), (2, 0, false)], fun vs σ => match vs with | [b0, b1] => m_fitsDay_211 (m_fitsDay_4 n) b0 b1 σ | _ => none)]) zk_m_fitsDay 0 true 0 1 400 true (zz_sk zk_m_fitsDay 4) [(0, 42, 1), (1, 0, v1), (2, 0, v2)] [] σ := rfl
noncomputable def m_fitsDay (v1 : Int) (σ : zz_S) : zz_R := (m_fitsDay_4 zz_fu v1 (zz_r (4 * v1)) σ)
set_option maxRecDepth 100000 in
set_option maxHeartbeats 4000000 in
theorem ze_m_fitsDay (v1 : Int) (σ : zz_S) : m_fitsDay v1 σ = zz_ev (zz_CE []) (zz_KE [(4, [(0, 42, true), (1, 0, false), (2, 0, false)], fun vs σ => match vs with | [b0, b1] => m_fitsDay_4 zz_fu b0 b1 σ | _ => none)]) zk_m_fitsDay 0 true 0 1 400 true (zz_sk zk_m_fitsDay 0) [(0, 42, 1), (1, 0, v1)] [] σ := rfl
noncomputable def zw_m_fitsDay : List Int → zz_S → zz_R := fun vs σ => match vs with
  | [a0, a1] => if a0 = 1 then m_fitsDay a1 σ else none
  | _ => none
def zk_m_fitsMinute : List zz_E := [(0, false, .iconst 4, 1, 0, (0, 0, 0, 0), 0, []),
  (1, false, .iload_n 1, 1, 0, (0, 0, 0, 0), 0, []),
  (2, false, .imul, 1, 0, (0, 0, 0, 0), 0, []),
  (3, false, .istore_n 3, 1, 0, (0, 0, 0, 0), 0, []),
  (4, true, .iload_n 3, 1, 0, (0, 0, 0, 0), 0, []),
  (5, false, .iconst 4, 1, 0, (0, 0, 0, 0), 0, []),
  (6, false, .iload_n 1, 1, 0, (0, 0, 0, 0), 0, []),
  (7, false, .imul, 1, 0, (0, 0, 0, 0), 0, []),
  (8, false, .aload_n 0, 1, 0, (0, 0, 0, 0), 0, []),
  (9, false, .getfield 87, 3, 824, (40, 30, 66, 1), 0, []),
  (12, false, .iload_n 1, 1, 0, (0, 0, 0, 0), 0, []),
  (13, false, .iaload, 1, 0, (64, 0, 0, 0), 0, []),
  (14, false, .iadd, 1, 0, (0, 0, 0, 0), 0, []),
  (15, false, .if_icmp .ge 120, 3, 0, (135, 0, 0, 0), 0, []),
  (18, false, .iconst 1, 1, 0, (0, 0, 0, 0), 0, []),
  (19, false, .istore 4, 2, 0, (0, 0, 0, 0), 0, []),
  (21, false, .aload_n 0, 1, 0, (0, 0, 0, 0), 0, []),
  (22, false, .getfield 90, 3, 825, (40, 31, 67, 1), 0, []),
  (25, false, .iload_n 3, 1, 0, (0, 0, 0, 0), 0, []),
  (26, false, .iaload, 1, 0, (65, 0, 0, 0), 0, []),
  (27, false, .tableswitch 95 0 2 #[25, 48, 71], 25, 0, (122, 0, 0, 0), 0, [52, 75, 98]),
  (52, false, .iload_n 2, 1, 0, (0, 0, 0, 0), 0, []),
  (53, false, .bipush 60, 2, 0, (0, 0, 0, 0), 0, []),
  (55, false, .irem, 1, 0, (0, 0, 0, 0), 0, []),
  (56, false, .aload_n 0, 1, 0, (0, 0, 0, 0), 0, []),
  (57, false, .getfield 93, 3, 826, (40, 32, 68, 1), 0, []),
  (60, false, .iload_n 3, 1, 0, (0, 0, 0, 0), 0, []),
  (61, false, .iaload, 1, 0, (66, 0, 0, 0), 0, []),
  (62, false, .if_icmp .ne 7, 3, 0, (69, 0, 0, 0), 0, []),
  (65, false, .iconst 1, 1, 0, (0, 0, 0, 0), 0, []),
  (66, false, .goto 4, 3, 0, (70, 0, 0, 0), 0, []),
  (69, false, .iconst 0, 1, 0, (0, 0, 0, 0), 0, []),
  (70, false, .istore 4, 2, 0, (0, 0, 0, 0), 0, []),
  (72, false, .goto 50, 3, 0, (122, 0, 0, 0), 0, []),
  (75, false, .iload_n 2, 1, 0, (0, 0, 0, 0), 0, []),
  (76, false, .bipush 60, 2, 0, (0, 0, 0, 0), 0, []),
  (78, false, .idiv, 1, 0, (0, 0, 0, 0), 0, []),
  (79, false, .aload_n 0, 1, 0, (0, 0, 0, 0), 0, []),
  (80, false, .getfield 93, 3, 826, (40, 32, 68, 1), 0, []),
  (83, false, .iload_n 3, 1, 0, (0, 0, 0, 0), 0, []),
  (84, false, .iaload, 1, 0, (66, 0, 0, 0), 0, []),
  (85, false, .if_icmp .ne 7, 3, 0, (92, 0, 0, 0), 0, []),
  (88, false, .iconst 1, 1, 0, (0, 0, 0, 0), 0, []),
  (89, false, .goto 4, 3, 0, (93, 0, 0, 0), 0, []),
  (92, false, .iconst 0, 1, 0, (0, 0, 0, 0), 0, []),
  (93, false, .istore 4, 2, 0, (0, 0, 0, 0), 0, []),
  (95, false, .goto 27, 3, 0, (122, 0, 0, 0), 0, []),
  (98, false, .iload_n 2, 1, 0, (0, 0, 0, 0), 0, []),
  (99, false, .bipush 60, 2, 0, (0, 0, 0, 0), 0, []),
  (101, false, .idiv, 1, 0, (0, 0, 0, 0), 0, []),
  (102, false, .aload_n 0, 1, 0, (0, 0, 0, 0), 0, []),
  (103, false, .getfield 93, 3, 826, (40, 32, 68, 1), 0, []),
  (106, false, .iload_n 3, 1, 0, (0, 0, 0, 0), 0, []),
  (107, false, .iaload, 1, 0, (66, 0, 0, 0), 0, []),
  (108, false, .aload_n 0, 1, 0, (0, 0, 0, 0), 0, []),
  (109, false, .getfield 96, 3, 827, (40, 33, 69, 1), 0, []),
  (112, false, .iload_n 3, 1, 0, (0, 0, 0, 0), 0, []),
  (113, false, .iaload, 1, 0, (67, 0, 0, 0), 0, []),
  (114, false, .invokestatic 174, 3, 1021, (108, 3, 0, 0), 0, [0, 0, 0]),
  (117, false, .istore 4, 2, 0, (0, 0, 0, 0), 0, []),
  (119, false, .goto 3, 3, 0, (122, 0, 0, 0), 0, []),
  (122, false, .iload 4, 2, 0, (0, 0, 0, 0), 0, []),
  (124, false, .ifCond .ne 5, 3, 0, (129, 0, 0, 0), 0, []),
  (127, false, .iconst 0, 1, 0, (0, 0, 0, 0), 0, []),
  (128, false, .ireturn, 1, 0, (0, 0, 0, 0), 0, []),
  (129, false, .iinc 3 1, 3, 0, (0, 0, 0, 0), 0, []),
  (132, false, .goto (-128), 3, 0, (4, 0, 0, 0), 0, []),
  (135, false, .iconst 1, 1, 0, (0, 0, 0, 0), 0, []),
  (136, false, .ireturn, 1, 0, (0, 0, 0, 0), 0, [])]
noncomputable def m_fitsMinute_4 : Nat → Int → Int → Int → zz_S → zz_R
  | 0, _, _, _, _ => none
  | n + 1, v1, v2, v3, σ => (if zz_b σ 64 1 v1 then (if v3 < (zz_r ((zz_r (4 * v1)) + (zz_h σ 64 1 v1))) then (if zz_b σ 65 1 v3 then (if (zz_h σ 65 1 v3) = 0 then (if zz_b σ 66 1 v3 then (if (zz_rem v2 60) = (zz_h σ 66 1 v3) then (m_fitsMinute_4 n v1 v2 (zz_r (v3 + 1)) σ) else (some (0, σ))) else none) else (if (zz_h σ 65 1 v3) = 1 then (if zz_b σ 66 1 v3 then (if (zz_div v2 60) = (zz_h σ 66 1 v3) then (m_fitsMinute_4 n v1 v2 (zz_r (v3 + 1)) σ) else (some (0, σ))) else none) else (if (zz_h σ 65 1 v3) = 2 then (if zz_b σ 66 1 v3 then (if zz_b σ 67 1 v3 then ((m_in (zz_div v2 60) (zz_h σ 66 1 v3) (zz_h σ 67 1 v3) σ).bind fun q1 => (if q1.1 = 0 then (some (0, q1.2)) else (m_fitsMinute_4 n v1 v2 (zz_r (v3 + 1)) q1.2))) else none) else none) else (m_fitsMinute_4 n v1 v2 (zz_r (v3 + 1)) σ)))) else none) else (some (1, σ))) else none)
set_option maxRecDepth 100000 in
set_option maxHeartbeats 4000000 in
theorem ze_m_fitsMinute_4 (n : Nat) (v1 v2 v3 : Int) (σ : zz_S) : m_fitsMinute_4 (n + 1) v1 v2 v3 σ = zz_ev (zz_CE [(108, zw_m_in)]) (zz_KE [(4, [(0, 42, true), (1, 0, false), (2, 0, false), (3, 0, false)], fun vs σ => match vs with | [b0, b1, b2] => m_fitsMinute_4 n b0 b1 b2 σ | _ => none)]) zk_m_fitsMinute 0 true 0 1 400 true (zz_sk zk_m_fitsMinute 4) [(0, 42, 1), (1, 0, v1), (2, 0, v2), (3, 0, v3)] [] σ := rfl
noncomputable def m_fitsMinute (v1 v2 : Int) (σ : zz_S) : zz_R := (m_fitsMinute_4 zz_fu v1 v2 (zz_r (4 * v1)) σ)
set_option maxRecDepth 100000 in
set_option maxHeartbeats 4000000 in
theorem ze_m_fitsMinute (v1 v2 : Int) (σ : zz_S) : m_fitsMinute v1 v2 σ = zz_ev (zz_CE []) (zz_KE [(4, [(0, 42, true), (1, 0, false), (2, 0, false), (3, 0, false)], fun vs σ => match vs with | [b0, b1, b2] => m_fitsMinute_4 zz_fu b0 b1 b2 σ | _ => none)]) zk_m_fitsMinute 0 true 0 1 400 true (zz_sk zk_m_fitsMinute 0) [(0, 42, 1), (1, 0, v1), (2, 0, v2)] [] σ := rfl
noncomputable def zw_m_fitsMinute : List Int → zz_S → zz_R := fun vs σ => match vs with
  | [a0, a1, a2] => if a0 = 1 then m_fitsMinute a1 a2 σ else none
  | _ => none
def zk_m_fits : List zz_E := [(0, false, .aload_n 0, 1, 0, (0, 0, 0, 0), 0, []),
  (1, false, .iload_n 1, 1, 0, (0, 0, 0, 0), 0, []),
  (2, false, .iload_n 2, 1, 0, (0, 0, 0, 0), 0, []),
  (3, false, .sipush 1440, 3, 0, (0, 0, 0, 0), 0, []),
  (6, false, .irem, 1, 0, (0, 0, 0, 0), 0, []),
  (7, false, .invokevirtual 197, 3, 1072, (118, 3, 0, 0), 0, [0, 0, 42]),
  (10, false, .ifCond .ne 5, 3, 0, (15, 0, 0, 0), 0, []),
  (13, false, .iconst 0, 1, 0, (0, 0, 0, 0), 0, []),
  (14, false, .ireturn, 1, 0, (0, 0, 0, 0), 0, []),
  (15, false, .aload_n 0, 1, 0, (0, 0, 0, 0), 0, []),
  (16, false, .iload_n 2, 1, 0, (0, 0, 0, 0), 0, []),
  (17, false, .sipush 1440, 3, 0, (0, 0, 0, 0), 0, []),
  (20, false, .idiv, 1, 0, (0, 0, 0, 0), 0, []),
  (21, false, .invokevirtual 201, 3, 1076, (116, 2, 999, 0), 0, [0, 42]),
  (24, false, .aload_n 0, 1, 0, (0, 0, 0, 0), 0, []),
  (25, false, .iload_n 1, 1, 0, (0, 0, 0, 0), 0, []),
  (26, false, .invokevirtual 205, 3, 1083, (117, 2, 0, 0), 0, [0, 42]),
  (29, false, .ireturn, 1, 0, (0, 0, 0, 0), 0, [])]
noncomputable def m_fits (v1 v2 : Int) (σ : zz_S) : zz_R := ((m_fitsMinute v1 (zz_rem v2 1440) σ).bind fun q1 => (if q1.1 = 0 then (some (0, q1.2)) else ((m_look (zz_div v2 1440) q1.2).bind fun q2 => ((m_fitsDay v1 q2.2).bind fun q3 => (if zz_o q3.1 then (some (q3.1, q3.2)) else none)))))
set_option maxRecDepth 100000 in
set_option maxHeartbeats 4000000 in
theorem ze_m_fits (v1 v2 : Int) (σ : zz_S) : m_fits v1 v2 σ = zz_ev (zz_CE [(116, zw_m_look), (117, zw_m_fitsDay), (118, zw_m_fitsMinute)]) (zz_KE []) zk_m_fits 0 true 0 1 400 true (zz_sk zk_m_fits 0) [(0, 42, 1), (1, 0, v1), (2, 0, v2)] [] σ := rfl
noncomputable def zw_m_fits : List Int → zz_S → zz_R := fun vs σ => match vs with
  | [a0, a1, a2] => if a0 = 1 then m_fits a1 a2 σ else none
  | _ => none
def zk_m_hasMinute : List zz_E := [(0, false, .iconst 0, 1, 0, (0, 0, 0, 0), 0, []),
  (1, false, .istore_n 2, 1, 0, (0, 0, 0, 0), 0, []),
  (2, true, .iload_n 2, 1, 0, (0, 0, 0, 0), 0, []),
  (3, false, .sipush 1440, 3, 0, (0, 0, 0, 0), 0, []),
  (6, false, .if_icmp .ge 20, 3, 0, (26, 0, 0, 0), 0, []),
  (9, false, .aload_n 0, 1, 0, (0, 0, 0, 0), 0, []),
  (10, false, .iload_n 1, 1, 0, (0, 0, 0, 0), 0, []),
  (11, false, .iload_n 2, 1, 0, (0, 0, 0, 0), 0, []),
  (12, false, .invokevirtual 197, 3, 1072, (118, 3, 0, 0), 0, [0, 0, 42]),
  (15, false, .ifCond .eq 5, 3, 0, (20, 0, 0, 0), 0, []),
  (18, false, .iconst 1, 1, 0, (0, 0, 0, 0), 0, []),
  (19, false, .ireturn, 1, 0, (0, 0, 0, 0), 0, []),
  (20, false, .iinc 2 1, 3, 0, (0, 0, 0, 0), 0, []),
  (23, false, .goto (-21), 3, 0, (2, 0, 0, 0), 0, []),
  (26, false, .iconst 0, 1, 0, (0, 0, 0, 0), 0, []),
  (27, false, .ireturn, 1, 0, (0, 0, 0, 0), 0, [])]
noncomputable def m_hasMinute_2 : Nat → Int → Int → zz_S → zz_R
  | 0, _, _, _ => none
  | n + 1, v1, v2, σ => (if v2 < 1440 then ((m_fitsMinute v1 v2 σ).bind fun q1 => (if q1.1 = 0 then (m_hasMinute_2 n v1 (zz_r (v2 + 1)) q1.2) else (some (1, q1.2)))) else (some (0, σ)))
set_option maxRecDepth 100000 in
set_option maxHeartbeats 4000000 in
theorem ze_m_hasMinute_2 (n : Nat) (v1 v2 : Int) (σ : zz_S) : m_hasMinute_2 (n + 1) v1 v2 σ = zz_ev (zz_CE [(118, zw_m_fitsMinute)]) (zz_KE [(2, [(0, 42, true), (1, 0, false), (2, 0, false)], fun vs σ => match vs with | [b0, b1] => m_hasMinute_2 n b0 b1 σ | _ => none)]) zk_m_hasMinute 0 true 0 1 400 true (zz_sk zk_m_hasMinute 2) [(0, 42, 1), (1, 0, v1), (2, 0, v2)] [] σ := rfl
noncomputable def m_hasMinute (v1 : Int) (σ : zz_S) : zz_R := (m_hasMinute_2 zz_fu v1 0 σ)
set_option maxRecDepth 100000 in
set_option maxHeartbeats 4000000 in
theorem ze_m_hasMinute (v1 : Int) (σ : zz_S) : m_hasMinute v1 σ = zz_ev (zz_CE []) (zz_KE [(2, [(0, 42, true), (1, 0, false), (2, 0, false)], fun vs σ => match vs with | [b0, b1] => m_hasMinute_2 zz_fu b0 b1 σ | _ => none)]) zk_m_hasMinute 0 true 0 1 400 true (zz_sk zk_m_hasMinute 0) [(0, 42, 1), (1, 0, v1)] [] σ := rfl
noncomputable def zw_m_hasMinute : List Int → zz_S → zz_R := fun vs σ => match vs with
  | [a0, a1] => if a0 = 1 then m_hasMinute a1 σ else none
  | _ => none
def zk_m_calendarFrom : List zz_E := [(0, false, .iload_n 2, 1, 0, (0, 0, 0, 0), 0, []),
  (1, false, .aload_n 0, 1, 0, (0, 0, 0, 0), 0, []),
  (2, false, .getfield 214, 3, 795, (40, 1, 0, 0), 0, []),
  (5, false, .iadd, 1, 0, (0, 0, 0, 0), 0, []),
  (6, false, .istore_n 3, 1, 0, (0, 0, 0, 0), 0, []),
  (7, false, .iload_n 3, 1, 0, (0, 0, 0, 0), 0, []),
  (8, false, .aload_n 0, 1, 0, (0, 0, 0, 0), 0, []),
  (9, false, .getfield 7, 3, 796, (40, 2, 0, 0), 0, []),
  (12, false, .if_icmp .gt 10, 3, 0, (22, 0, 0, 0), 0, []),
  (15, false, .aload_n 0, 1, 0, (0, 0, 0, 0), 0, []),
  (16, false, .getfield 7, 3, 796, (40, 2, 0, 0), 0, []),
  (19, false, .iconst 1, 1, 0, (0, 0, 0, 0), 0, []),
  (20, false, .iadd, 1, 0, (0, 0, 0, 0), 0, []),
  (21, false, .istore_n 3, 1, 0, (0, 0, 0, 0), 0, []),
  (22, true, .ldc 209, 2, 1000, (0, 0, 0, 0), 400000, []),
  (24, false, .aload_n 0, 1, 0, (0, 0, 0, 0), 0, []),
  (25, false, .getfield 214, 3, 795, (40, 1, 0, 0), 0, []),
  (28, false, .iadd, 1, 0, (0, 0, 0, 0), 0, []),
  (29, false, .istore 4, 2, 0, (0, 0, 0, 0), 0, []),
  (31, false, .iload_n 3, 1, 0, (0, 0, 0, 0), 0, []),
  (32, false, .iload 4, 2, 0, (0, 0, 0, 0), 0, []),
  (34, false, .if_icmp .gt 11, 3, 0, (45, 0, 0, 0), 0, []),
  (37, false, .aload_n 0, 1, 0, (0, 0, 0, 0), 0, []),
  (38, false, .iload_n 1, 1, 0, (0, 0, 0, 0), 0, []),
  (39, false, .invokevirtual 217, 3, 1199, (120, 2, 0, 0), 0, [0, 42]),
  (42, false, .ifCond .ne 5, 3, 0, (47, 0, 0, 0), 0, []),
  (45, false, .iconst (-1), 1, 0, (0, 0, 0, 0), 0, []),
  (46, false, .ireturn, 1, 0, (0, 0, 0, 0), 0, []),
  (47, true, .iload_n 3, 1, 0, (0, 0, 0, 0), 0, []),
  (48, false, .iload 4, 2, 0, (0, 0, 0, 0), 0, []),
  (50, false, .if_icmp .gt 79, 3, 0, (129, 0, 0, 0), 0, []),
  (53, false, .iload_n 3, 1, 0, (0, 0, 0, 0), 0, []),
  (54, false, .sipush 1440, 3, 0, (0, 0, 0, 0), 0, []),
  (57, false, .irem, 1, 0, (0, 0, 0, 0), 0, []),
  (58, false, .istore 5, 2, 0, (0, 0, 0, 0), 0, []),
  (60, false, .aload_n 0, 1, 0, (0, 0, 0, 0), 0, []),
  (61, false, .iload_n 3, 1, 0, (0, 0, 0, 0), 0, []),
  (62, false, .sipush 1440, 3, 0, (0, 0, 0, 0), 0, []),
  (65, false, .idiv, 1, 0, (0, 0, 0, 0), 0, []),
  (66, false, .invokevirtual 201, 3, 1076, (116, 2, 999, 0), 0, [0, 42]),
  (69, false, .aload_n 0, 1, 0, (0, 0, 0, 0), 0, []),
  (70, false, .iload_n 1, 1, 0, (0, 0, 0, 0), 0, []),
  (71, false, .invokevirtual 205, 3, 1083, (117, 2, 0, 0), 0, [0, 42]),
  (74, false, .ifCond .eq 43, 3, 0, (117, 0, 0, 0), 0, []),
  (77, true, .iload 5, 2, 0, (0, 0, 0, 0), 0, []),
  (79, false, .sipush 1440, 3, 0, (0, 0, 0, 0), 0, []),
  (82, false, .if_icmp .ge 44, 3, 0, (126, 0, 0, 0), 0, []),
  (85, false, .iload_n 3, 1, 0, (0, 0, 0, 0), 0, []),
  (86, false, .iload 4, 2, 0, (0, 0, 0, 0), 0, []),
  (88, false, .if_icmp .gt 38, 3, 0, (126, 0, 0, 0), 0, []),
  (91, false, .aload_n 0, 1, 0, (0, 0, 0, 0), 0, []),
  (92, false, .iload_n 1, 1, 0, (0, 0, 0, 0), 0, []),
  (93, false, .iload 5, 2, 0, (0, 0, 0, 0), 0, []),
  (95, false, .invokevirtual 197, 3, 1072, (118, 3, 0, 0), 0, [0, 0, 42]),
  (98, false, .ifCond .eq 10, 3, 0, (108, 0, 0, 0), 0, []),
  (101, false, .iload_n 3, 1, 0, (0, 0, 0, 0), 0, []),
  (102, false, .aload_n 0, 1, 0, (0, 0, 0, 0), 0, []),
  (103, false, .getfield 214, 3, 795, (40, 1, 0, 0), 0, []),
  (106, false, .isub, 1, 0, (0, 0, 0, 0), 0, []),
  (107, false, .ireturn, 1, 0, (0, 0, 0, 0), 0, []),
  (108, false, .iinc 5 1, 3, 0, (0, 0, 0, 0), 0, []),
  (111, false, .iinc 3 1, 3, 0, (0, 0, 0, 0), 0, []),
  (114, false, .goto (-37), 3, 0, (77, 0, 0, 0), 0, []),
  (117, false, .iload_n 3, 1, 0, (0, 0, 0, 0), 0, []),
  (118, false, .sipush 1440, 3, 0, (0, 0, 0, 0), 0, []),
  (121, false, .iload 5, 2, 0, (0, 0, 0, 0), 0, []),
  (123, false, .isub, 1, 0, (0, 0, 0, 0), 0, []),
  (124, false, .iadd, 1, 0, (0, 0, 0, 0), 0, []),
  (125, false, .istore_n 3, 1, 0, (0, 0, 0, 0), 0, []),
  (126, false, .goto (-79), 3, 0, (47, 0, 0, 0), 0, []),
  (129, false, .iconst (-1), 1, 0, (0, 0, 0, 0), 0, []),
  (130, false, .ireturn, 1, 0, (0, 0, 0, 0), 0, [])]
noncomputable def m_calendarFrom_77 (k47 : Int → Int → Int → zz_S → zz_R) : Nat → Int → Int → Int → Int → zz_S → zz_R
  | 0, _, _, _, _, _ => none
  | n + 1, v1, v3, v4, v5, σ => (if v5 < 1440 then (if v3 ≤ v4 then ((m_fitsMinute v1 v5 σ).bind fun q1 => (if q1.1 = 0 then (m_calendarFrom_77 k47 n v1 (zz_r (v3 + 1)) v4 (zz_r (v5 + 1)) q1.2) else (some ((zz_r (v3 - (zz_h q1.2 40 1 1))), q1.2)))) else (k47 v1 v3 v4 σ)) else (k47 v1 v3 v4 σ))
set_option maxRecDepth 100000 in
set_option maxHeartbeats 4000000 in
theorem ze_m_calendarFrom_77 (k47 : Int → Int → Int → zz_S → zz_R) (n : Nat) (v1 v3 v4 v5 : Int) (σ : zz_S) : m_calendarFrom_77 k47 (n + 1) v1 v3 v4 v5 σ = zz_ev (zz_CE [(118, zw_m_fitsMinute)]) (zz_KE [(47, [(0, 42, true), (1, 0, false), (3, 0, false), (4, 0, false)], fun vs σ => match vs with | [b0, b1, b2] => k47 b0 b1 b2 σ | _ => none), (77, [(0, 42, true), (1, 0, false), (3, 0, false), (4, 0, false), (5, 0, false)], fun vs σ => match vs with | [b0, b1, b2, b3] => m_calendarFrom_77 k47 n b0 b1 b2 b3 σ | _ => none)]) zk_m_calendarFrom 0 false 0 1 400 true (zz_sk zk_m_calendarFrom 77) [(0, 42, 1), (1, 0, v1), (3, 0, v3), (4, 0, v4), (5, 0, v5)] [] σ := rfl
noncomputable def m_calendarFrom_47 : Nat → Int → Int → Int → zz_S → zz_R
  | 0, _, _, _, _ => none
  | n + 1, v1, v3, v4, σ => (if v3 ≤ v4 then ((m_look (zz_div v3 1440) σ).bind fun q1 => ((m_fitsDay v1 q1.2).bind fun q2 => (if q2.1 = 0 then (m_calendarFrom_47 n v1 (zz_r (v3 + (zz_r (1440 - (zz_rem v3 1440))))) v4 q2.2) else (m_calendarFrom_77 (m_calendarFrom_47 n) zz_fu v1 v3 v4 (zz_rem v3 1440) q2.2)))) else (some ((-1), σ)))
set_option maxRecDepth 100000 in
set_option maxHeartbeats 4000000 in
theorem ze_m_calendarFrom_47 (n : Nat) (v1 v3 v4 : Int) (σ : zz_S) : m_calendarFrom_47 (n + 1) v1 v3 v4 σ = zz_ev (zz_CE [(116, zw_m_look), (117, zw_m_fitsDay)]) (zz_KE [(47, [(0, 42, true), (1, 0, false), (3, 0, false), (4, 0, false)], fun vs σ => match vs with | [b0, b1, b2] => m_calendarFrom_47 n b0 b1 b2 σ | _ => none), (77, [(0, 42, true), (1, 0, false), (3, 0, false), (4, 0, false), (5, 0, false)], fun vs σ => match vs with | [b0, b1, b2, b3] => m_calendarFrom_77 (m_calendarFrom_47 n) zz_fu b0 b1 b2 b3 σ | _ => none)]) zk_m_calendarFrom 0 false 0 1 400 true (zz_sk zk_m_calendarFrom 47) [(0, 42, 1), (1, 0, v1), (3, 0, v3), (4, 0, v4)] [] σ := rfl
noncomputable def m_calendarFrom_22 (v1 v3 : Int) (σ : zz_S) : zz_R := (if v3 ≤ (zz_r (400000 + (zz_h σ 40 1 1))) then ((m_hasMinute v1 σ).bind fun q1 => (if q1.1 = 0 then (some ((-1), q1.2)) else (m_calendarFrom_47 zz_fu v1 v3 (zz_r (400000 + (zz_h σ 40 1 1))) q1.2))) else (some ((-1), σ)))
set_option maxRecDepth 100000 in
set_option maxHeartbeats 4000000 in
theorem ze_m_calendarFrom_22 (v1 v3 : Int) (σ : zz_S) : m_calendarFrom_22 v1 v3 σ = zz_ev (zz_CE [(120, zw_m_hasMinute)]) (zz_KE [(47, [(0, 42, true), (1, 0, false), (3, 0, false), (4, 0, false)], fun vs σ => match vs with | [b0, b1, b2] => m_calendarFrom_47 zz_fu b0 b1 b2 σ | _ => none)]) zk_m_calendarFrom 0 false 0 1 400 true (zz_sk zk_m_calendarFrom 22) [(0, 42, 1), (1, 0, v1), (3, 0, v3)] [] σ := rfl
noncomputable def m_calendarFrom (v1 v2 : Int) (σ : zz_S) : zz_R := (if (zz_r (v2 + (zz_h σ 40 1 1))) ≤ (zz_h σ 40 1 2) then (m_calendarFrom_22 v1 (zz_r ((zz_h σ 40 1 2) + 1)) σ) else (m_calendarFrom_22 v1 (zz_r (v2 + (zz_h σ 40 1 1))) σ))
set_option maxRecDepth 100000 in
set_option maxHeartbeats 4000000 in
theorem ze_m_calendarFrom (v1 v2 : Int) (σ : zz_S) : m_calendarFrom v1 v2 σ = zz_ev (zz_CE []) (zz_KE [(22, [(0, 42, true), (1, 0, false), (3, 0, false)], fun vs σ => match vs with | [b0, b1] => m_calendarFrom_22 b0 b1 σ | _ => none)]) zk_m_calendarFrom 0 false 0 1 400 true (zz_sk zk_m_calendarFrom 0) [(0, 42, 1), (1, 0, v1), (2, 0, v2)] [] σ := rfl
noncomputable def zw_m_calendarFrom : List Int → zz_S → zz_R := fun vs σ => match vs with
  | [a0, a1, a2] => if a0 = 1 then m_calendarFrom a1 a2 σ else none
  | _ => none
def zk_m_dueFrom : List zz_E := [(0, false, .aload_n 0, 1, 0, (0, 0, 0, 0), 0, []),
  (1, false, .getfield 26, 3, 804, (40, 10, 46, 1), 0, []),
  (4, false, .iload_n 1, 1, 0, (0, 0, 0, 0), 0, []),
  (5, false, .iaload, 1, 0, (44, 0, 0, 0), 0, []),
  (6, false, .tableswitch 174 0 3 #[30, 62, 135, 167], 30, 0, (180, 0, 0, 0), 0, [36, 68, 141, 173]),
  (36, false, .aload_n 0, 1, 0, (0, 0, 0, 0), 0, []),
  (37, false, .getfield 29, 3, 805, (40, 11, 47, 1), 0, []),
  (40, false, .iload_n 1, 1, 0, (0, 0, 0, 0), 0, []),
  (41, false, .iaload, 1, 0, (45, 0, 0, 0), 0, []),
  (42, false, .iload_n 2, 1, 0, (0, 0, 0, 0), 0, []),
  (43, false, .if_icmp .lt 23, 3, 0, (66, 0, 0, 0), 0, []),
  (46, false, .aload_n 0, 1, 0, (0, 0, 0, 0), 0, []),
  (47, false, .getfield 29, 3, 805, (40, 11, 47, 1), 0, []),
  (50, false, .iload_n 1, 1, 0, (0, 0, 0, 0), 0, []),
  (51, false, .iaload, 1, 0, (45, 0, 0, 0), 0, []),
  (52, false, .ldc 209, 2, 1000, (0, 0, 0, 0), 400000, []),
  (54, false, .if_icmp .gt 12, 3, 0, (66, 0, 0, 0), 0, []),
  (57, false, .aload_n 0, 1, 0, (0, 0, 0, 0), 0, []),
  (58, false, .getfield 29, 3, 805, (40, 11, 47, 1), 0, []),
  (61, false, .iload_n 1, 1, 0, (0, 0, 0, 0), 0, []),
  (62, false, .iaload, 1, 0, (45, 0, 0, 0), 0, []),
  (63, false, .goto 4, 3, 0, (67, 0, 0, 0), 0, []),
  (66, false, .iconst (-1), 1, 0, (0, 0, 0, 0), 0, []),
  (67, false, .ireturn, 1, 0, (0, 0, 0, 0), 0, []),
  (68, false, .aload_n 0, 1, 0, (0, 0, 0, 0), 0, []),
  (69, false, .getfield 29, 3, 805, (40, 11, 47, 1), 0, []),
  (72, false, .iload_n 1, 1, 0, (0, 0, 0, 0), 0, []),
  (73, false, .iaload, 1, 0, (45, 0, 0, 0), 0, []),
  (74, false, .iload_n 2, 1, 0, (0, 0, 0, 0), 0, []),
  (75, false, .if_icmp .lt 10, 3, 0, (85, 0, 0, 0), 0, []),
  (78, false, .aload_n 0, 1, 0, (0, 0, 0, 0), 0, []),
  (79, false, .getfield 29, 3, 805, (40, 11, 47, 1), 0, []),
  (82, false, .iload_n 1, 1, 0, (0, 0, 0, 0), 0, []),
  (83, false, .iaload, 1, 0, (45, 0, 0, 0), 0, []),
  (84, false, .ireturn, 1, 0, (0, 0, 0, 0), 0, []),
  (85, false, .iload_n 2, 1, 0, (0, 0, 0, 0), 0, []),
  (86, false, .aload_n 0, 1, 0, (0, 0, 0, 0), 0, []),
  (87, false, .getfield 29, 3, 805, (40, 11, 47, 1), 0, []),
  (90, false, .iload_n 1, 1, 0, (0, 0, 0, 0), 0, []),
  (91, false, .iaload, 1, 0, (45, 0, 0, 0), 0, []),
  (92, false, .isub, 1, 0, (0, 0, 0, 0), 0, []),
  (93, false, .aload_n 0, 1, 0, (0, 0, 0, 0), 0, []),
  (94, false, .getfield 32, 3, 806, (40, 12, 48, 1), 0, []),
  (97, false, .iload_n 1, 1, 0, (0, 0, 0, 0), 0, []),
  (98, false, .iaload, 1, 0, (46, 0, 0, 0), 0, []),
  (99, false, .iadd, 1, 0, (0, 0, 0, 0), 0, []),
  (100, false, .iconst 1, 1, 0, (0, 0, 0, 0), 0, []),
  (101, false, .isub, 1, 0, (0, 0, 0, 0), 0, []),
  (102, false, .aload_n 0, 1, 0, (0, 0, 0, 0), 0, []),
  (103, false, .getfield 32, 3, 806, (40, 12, 48, 1), 0, []),
  (106, false, .iload_n 1, 1, 0, (0, 0, 0, 0), 0, []),
  (107, false, .iaload, 1, 0, (46, 0, 0, 0), 0, []),
  (108, false, .idiv, 1, 0, (0, 0, 0, 0), 0, []),
  (109, false, .istore_n 3, 1, 0, (0, 0, 0, 0), 0, []),
  (110, false, .aload_n 0, 1, 0, (0, 0, 0, 0), 0, []),
  (111, false, .getfield 29, 3, 805, (40, 11, 47, 1), 0, []),
  (114, false, .iload_n 1, 1, 0, (0, 0, 0, 0), 0, []),
  (115, false, .iaload, 1, 0, (45, 0, 0, 0), 0, []),
  (116, false, .iload_n 3, 1, 0, (0, 0, 0, 0), 0, []),
  (117, false, .aload_n 0, 1, 0, (0, 0, 0, 0), 0, []),
  (118, false, .getfield 32, 3, 806, (40, 12, 48, 1), 0, []),
  (121, false, .iload_n 1, 1, 0, (0, 0, 0, 0), 0, []),
  (122, false, .iaload, 1, 0, (46, 0, 0, 0), 0, []),
  (123, false, .imul, 1, 0, (0, 0, 0, 0), 0, []),
  (124, false, .iadd, 1, 0, (0, 0, 0, 0), 0, []),
  (125, false, .istore 4, 2, 0, (0, 0, 0, 0), 0, []),
  (127, false, .iload 4, 2, 0, (0, 0, 0, 0), 0, []),
  (129, false, .ldc 209, 2, 1000, (0, 0, 0, 0), 400000, []),
  (131, false, .if_icmp .gt 8, 3, 0, (139, 0, 0, 0), 0, []),
  (134, false, .iload 4, 2, 0, (0, 0, 0, 0), 0, []),
  (136, false, .goto 4, 3, 0, (140, 0, 0, 0), 0, []),
  (139, false, .iconst (-1), 1, 0, (0, 0, 0, 0), 0, []),
  (140, false, .ireturn, 1, 0, (0, 0, 0, 0), 0, []),
  (141, false, .aload_n 0, 1, 0, (0, 0, 0, 0), 0, []),
  (142, false, .getfield 65, 3, 817, (40, 23, 59, 1), 0, []),
  (145, false, .iload_n 1, 1, 0, (0, 0, 0, 0), 0, []),
  (146, false, .iaload, 1, 0, (57, 0, 0, 0), 0, []),
  (147, false, .iload_n 2, 1, 0, (0, 0, 0, 0), 0, []),
  (148, false, .if_icmp .lt 23, 3, 0, (171, 0, 0, 0), 0, []),
  (151, false, .aload_n 0, 1, 0, (0, 0, 0, 0), 0, []),
  (152, false, .getfield 65, 3, 817, (40, 23, 59, 1), 0, []),
  (155, false, .iload_n 1, 1, 0, (0, 0, 0, 0), 0, []),
  (156, false, .iaload, 1, 0, (57, 0, 0, 0), 0, []),
  (157, false, .ldc 209, 2, 1000, (0, 0, 0, 0), 400000, []),
  (159, false, .if_icmp .gt 12, 3, 0, (171, 0, 0, 0), 0, []),
  (162, false, .aload_n 0, 1, 0, (0, 0, 0, 0), 0, []),
  (163, false, .getfield 65, 3, 817, (40, 23, 59, 1), 0, []),
  (166, false, .iload_n 1, 1, 0, (0, 0, 0, 0), 0, []),
  (167, false, .iaload, 1, 0, (57, 0, 0, 0), 0, []),
  (168, false, .goto 4, 3, 0, (172, 0, 0, 0), 0, []),
  (171, false, .iconst (-1), 1, 0, (0, 0, 0, 0), 0, []),
  (172, false, .ireturn, 1, 0, (0, 0, 0, 0), 0, []),
  (173, false, .aload_n 0, 1, 0, (0, 0, 0, 0), 0, []),
  (174, false, .iload_n 1, 1, 0, (0, 0, 0, 0), 0, []),
  (175, false, .iload_n 2, 1, 0, (0, 0, 0, 0), 0, []),
  (176, false, .invokevirtual 210, 3, 1195, (122, 3, 0, 0), 0, [0, 0, 42]),
  (179, false, .ireturn, 1, 0, (0, 0, 0, 0), 0, []),
  (180, false, .iconst (-1), 1, 0, (0, 0, 0, 0), 0, []),
  (181, false, .ireturn, 1, 0, (0, 0, 0, 0), 0, [])]
noncomputable def m_dueFrom (v1 v2 : Int) (σ : zz_S) : zz_R := (if zz_b σ 44 1 v1 then (if (zz_h σ 44 1 v1) = 0 then (if zz_b σ 45 1 v1 then (if (zz_h σ 45 1 v1) < v2 then (some ((-1), σ)) else (if zz_b σ 45 1 v1 then (if (zz_h σ 45 1 v1) ≤ 400000 then (if zz_b σ 45 1 v1 then (some ((zz_h σ 45 1 v1), σ)) else none) else (some ((-1), σ))) else none)) else none) else (if (zz_h σ 44 1 v1) = 1 then (if zz_b σ 45 1 v1 then (if (zz_h σ 45 1 v1) < v2 then (if zz_b σ 45 1 v1 then (if zz_b σ 46 1 v1 then (if zz_b σ 46 1 v1 then (if (zz_h σ 46 1 v1) = 0 then none else (if zz_b σ 45 1 v1 then (if zz_b σ 46 1 v1 then (if (zz_r ((zz_h σ 45 1 v1) + (zz_r ((zz_div (zz_r ((zz_r ((zz_r (v2 - (zz_h σ 45 1 v1))) + (zz_h σ 46 1 v1))) - 1)) (zz_h σ 46 1 v1)) * (zz_h σ 46 1 v1))))) ≤ 400000 then (some ((zz_r ((zz_h σ 45 1 v1) + (zz_r ((zz_div (zz_r ((zz_r ((zz_r (v2 - (zz_h σ 45 1 v1))) + (zz_h σ 46 1 v1))) - 1)) (zz_h σ 46 1 v1)) * (zz_h σ 46 1 v1))))), σ)) else (some ((-1), σ))) else none) else none)) else none) else none) else none) else (if zz_b σ 45 1 v1 then (some ((zz_h σ 45 1 v1), σ)) else none)) else none) else (if (zz_h σ 44 1 v1) = 2 then (if zz_b σ 57 1 v1 then (if (zz_h σ 57 1 v1) < v2 then (some ((-1), σ)) else (if zz_b σ 57 1 v1 then (if (zz_h σ 57 1 v1) ≤ 400000 then (if zz_b σ 57 1 v1 then (some ((zz_h σ 57 1 v1), σ)) else none) else (some ((-1), σ))) else none)) else none) else (if (zz_h σ 44 1 v1) = 3 then ((m_calendarFrom v1 v2 σ).bind fun q1 => (some (q1.1, q1.2))) else (some ((-1), σ)))))) else none)
set_option maxRecDepth 100000 in
set_option maxHeartbeats 4000000 in
theorem ze_m_dueFrom (v1 v2 : Int) (σ : zz_S) : m_dueFrom v1 v2 σ = zz_ev (zz_CE [(122, zw_m_calendarFrom)]) (zz_KE []) zk_m_dueFrom 0 false 0 1 400 true (zz_sk zk_m_dueFrom 0) [(0, 42, 1), (1, 0, v1), (2, 0, v2)] [] σ := rfl
noncomputable def zw_m_dueFrom : List Int → zz_S → zz_R := fun vs σ => match vs with
  | [a0, a1, a2] => if a0 = 1 then m_dueFrom a1 a2 σ else none
  | _ => none
def zk_m_books : List zz_E := [(0, false, .aload_n 0, 1, 0, (0, 0, 0, 0), 0, []),
  (1, false, .getfield 220, 3, 851, (40, 57, 0, 0), 0, []),
  (4, false, .sipush 300, 3, 0, (0, 0, 0, 0), 0, []),
  (7, false, .if_icmp .ge 33, 3, 0, (40, 0, 0, 0), 0, []),
  (10, false, .aload_n 0, 1, 0, (0, 0, 0, 0), 0, []),
  (11, false, .getfield 159, 3, 852, (40, 58, 90, 1), 0, []),
  (14, false, .aload_n 0, 1, 0, (0, 0, 0, 0), 0, []),
  (15, false, .getfield 220, 3, 851, (40, 57, 0, 0), 0, []),
  (18, false, .iload_n 1, 1, 0, (0, 0, 0, 0), 0, []),
  (19, false, .iastore, 1, 0, (88, 0, 0, 0), 0, []),
  (20, false, .aload_n 0, 1, 0, (0, 0, 0, 0), 0, []),
  (21, false, .getfield 162, 3, 853, (40, 59, 91, 1), 0, []),
  (24, false, .aload_n 0, 1, 0, (0, 0, 0, 0), 0, []),
  (25, false, .getfield 220, 3, 851, (40, 57, 0, 0), 0, []),
  (28, false, .iload_n 2, 1, 0, (0, 0, 0, 0), 0, []),
  (29, false, .iastore, 1, 0, (89, 0, 0, 0), 0, []),
  (30, false, .aload_n 0, 1, 0, (0, 0, 0, 0), 0, []),
  (31, false, .getfield 165, 3, 854, (40, 60, 92, 1), 0, []),
  (34, false, .aload_n 0, 1, 0, (0, 0, 0, 0), 0, []),
  (35, false, .getfield 220, 3, 851, (40, 57, 0, 0), 0, []),
  (38, false, .iload_n 3, 1, 0, (0, 0, 0, 0), 0, []),
  (39, false, .iastore, 1, 0, (90, 0, 0, 0), 0, []),
  (40, false, .aload_n 0, 1, 0, (0, 0, 0, 0), 0, []),
  (41, false, .dup, 1, 0, (0, 0, 0, 0), 0, []),
  (42, false, .getfield 220, 3, 851, (40, 57, 0, 0), 0, []),
  (45, false, .iconst 1, 1, 0, (0, 0, 0, 0), 0, []),
  (46, false, .iadd, 1, 0, (0, 0, 0, 0), 0, []),
  (47, false, .putfield 220, 3, 851, (40, 57, 0, 0), 0, []),
  (50, false, .return_, 1, 0, (0, 0, 0, 0), 0, [])]
noncomputable def m_books (v1 v2 v3 : Int) (σ : zz_S) : zz_R := (if (zz_h σ 40 1 57) < 300 then (if zz_b σ 88 1 (zz_h σ 40 1 57) then (let s1 := zz_w σ 88 1 (zz_h σ 40 1 57) v1; (if zz_b s1 89 1 (zz_h s1 40 1 57) then (let s2 := zz_w s1 89 1 (zz_h s1 40 1 57) v2; (if zz_b s2 90 1 (zz_h s2 40 1 57) then (let s3 := zz_w s2 90 1 (zz_h s2 40 1 57) v3; (let s4 := zz_w s3 40 1 57 (zz_r ((zz_h s3 40 1 57) + 1)); (some (0, s4)))) else none)) else none)) else none) else (let s5 := zz_w σ 40 1 57 (zz_r ((zz_h σ 40 1 57) + 1)); (some (0, s5))))
set_option maxRecDepth 100000 in
set_option maxHeartbeats 4000000 in
theorem ze_m_books (v1 v2 v3 : Int) (σ : zz_S) : m_books v1 v2 v3 σ = zz_ev (zz_CE []) (zz_KE []) zk_m_books 999 false 0 1 400 true (zz_sk zk_m_books 0) [(0, 42, 1), (1, 0, v1), (2, 0, v2), (3, 0, v3)] [] σ := rfl
noncomputable def zw_m_books : List Int → zz_S → zz_R := fun vs σ => match vs with
  | [a0, a1, a2, a3] => if a0 = 1 then m_books a1 a2 a3 σ else none
  | _ => none
def zk_m_dueGone : List zz_E := [(0, false, .aload_n 0, 1, 0, (0, 0, 0, 0), 0, []),
  (1, false, .getfield 26, 3, 804, (40, 10, 46, 1), 0, []),
  (4, false, .iload_n 1, 1, 0, (0, 0, 0, 0), 0, []),
  (5, false, .iaload, 1, 0, (44, 0, 0, 0), 0, []),
  (6, false, .iconst 2, 1, 0, (0, 0, 0, 0), 0, []),
  (7, false, .if_icmp .ne 17, 3, 0, (24, 0, 0, 0), 0, []),
  (10, false, .aload_n 0, 1, 0, (0, 0, 0, 0), 0, []),
  (11, false, .getfield 65, 3, 817, (40, 23, 59, 1), 0, []),
  (14, false, .iload_n 1, 1, 0, (0, 0, 0, 0), 0, []),
  (15, false, .iload_n 2, 1, 0, (0, 0, 0, 0), 0, []),
  (16, false, .aload_n 0, 1, 0, (0, 0, 0, 0), 0, []),
  (17, false, .getfield 32, 3, 806, (40, 12, 48, 1), 0, []),
  (20, false, .iload_n 1, 1, 0, (0, 0, 0, 0), 0, []),
  (21, false, .iaload, 1, 0, (46, 0, 0, 0), 0, []),
  (22, false, .iadd, 1, 0, (0, 0, 0, 0), 0, []),
  (23, false, .iastore, 1, 0, (57, 0, 0, 0), 0, []),
  (24, false, .return_, 1, 0, (0, 0, 0, 0), 0, [])]
noncomputable def m_dueGone (v1 v2 : Int) (σ : zz_S) : zz_R := (if zz_b σ 44 1 v1 then (if (zz_h σ 44 1 v1) = 2 then (if zz_b σ 46 1 v1 then (if zz_b σ 57 1 v1 then (let s1 := zz_w σ 57 1 v1 (zz_r (v2 + (zz_h σ 46 1 v1))); (some (0, s1))) else none) else none) else (some (0, σ))) else none)
set_option maxRecDepth 100000 in
set_option maxHeartbeats 4000000 in
theorem ze_m_dueGone (v1 v2 : Int) (σ : zz_S) : m_dueGone v1 v2 σ = zz_ev (zz_CE []) (zz_KE []) zk_m_dueGone 999 false 0 1 400 true (zz_sk zk_m_dueGone 0) [(0, 42, 1), (1, 0, v1), (2, 0, v2)] [] σ := rfl
noncomputable def zw_m_dueGone : List Int → zz_S → zz_R := fun vs σ => match vs with
  | [a0, a1, a2] => if a0 = 1 then m_dueGone a1 a2 σ else none
  | _ => none
def zk_m_comes : List zz_E := [(0, false, .aload_n 0, 1, 0, (0, 0, 0, 0), 0, []),
  (1, false, .getfield 223, 3, 797, (40, 3, 0, 0), 1, []),
  (4, false, .ifCond .eq 19, 3, 0, (23, 0, 0, 0), 0, []),
  (7, false, .aload_n 0, 1, 0, (0, 0, 0, 0), 0, []),
  (8, false, .iload_n 1, 1, 0, (0, 0, 0, 0), 0, []),
  (9, false, .iload_n 2, 1, 0, (0, 0, 0, 0), 0, []),
  (10, false, .iconst 4, 1, 0, (0, 0, 0, 0), 0, []),
  (11, false, .invokevirtual 227, 3, 1052, (123, 4, 999, 0), 0, [0, 0, 0, 42]),
  (14, false, .aload_n 0, 1, 0, (0, 0, 0, 0), 0, []),
  (15, false, .iload_n 1, 1, 0, (0, 0, 0, 0), 0, []),
  (16, false, .iload_n 2, 1, 0, (0, 0, 0, 0), 0, []),
  (17, false, .invokevirtual 231, 3, 1056, (124, 3, 999, 0), 0, [0, 0, 42]),
  (20, false, .goto 131, 3, 0, (151, 0, 0, 0), 0, []),
  (23, false, .aload_n 0, 1, 0, (0, 0, 0, 0), 0, []),
  (24, false, .getfield 74, 3, 820, (40, 26, 62, 1), 0, []),
  (27, false, .iload_n 1, 1, 0, (0, 0, 0, 0), 0, []),
  (28, false, .iaload, 1, 0, (60, 0, 0, 0), 0, []),
  (29, false, .iload_n 2, 1, 0, (0, 0, 0, 0), 0, []),
  (30, false, .if_icmp .le 19, 3, 0, (49, 0, 0, 0), 0, []),
  (33, false, .aload_n 0, 1, 0, (0, 0, 0, 0), 0, []),
  (34, false, .iload_n 1, 1, 0, (0, 0, 0, 0), 0, []),
  (35, false, .iload_n 2, 1, 0, (0, 0, 0, 0), 0, []),
  (36, false, .iconst 5, 1, 0, (0, 0, 0, 0), 0, []),
  (37, false, .invokevirtual 227, 3, 1052, (123, 4, 999, 0), 0, [0, 0, 0, 42]),
  (40, false, .aload_n 0, 1, 0, (0, 0, 0, 0), 0, []),
  (41, false, .iload_n 1, 1, 0, (0, 0, 0, 0), 0, []),
  (42, false, .iload_n 2, 1, 0, (0, 0, 0, 0), 0, []),
  (43, false, .invokevirtual 231, 3, 1056, (124, 3, 999, 0), 0, [0, 0, 42]),
  (46, false, .goto 105, 3, 0, (151, 0, 0, 0), 0, []),
  (49, false, .aload_n 0, 1, 0, (0, 0, 0, 0), 0, []),
  (50, false, .getfield 44, 3, 810, (40, 16, 52, 1), 0, []),
  (53, false, .iload_n 1, 1, 0, (0, 0, 0, 0), 0, []),
  (54, false, .iaload, 1, 0, (50, 0, 0, 0), 0, []),
  (55, false, .ifCond .ne 30, 3, 0, (85, 0, 0, 0), 0, []),
  (58, false, .aload_n 0, 1, 0, (0, 0, 0, 0), 0, []),
  (59, false, .iload_n 1, 1, 0, (0, 0, 0, 0), 0, []),
  (60, false, .invokevirtual 235, 3, 1060, (112, 2, 0, 0), 0, [0, 42]),
  (63, false, .ifCond .eq 22, 3, 0, (85, 0, 0, 0), 0, []),
  (66, false, .aload_n 0, 1, 0, (0, 0, 0, 0), 0, []),
  (67, false, .getfield 68, 3, 818, (40, 24, 60, 1), 0, []),
  (70, false, .iload_n 1, 1, 0, (0, 0, 0, 0), 0, []),
  (71, false, .dup2, 1, 0, (0, 0, 0, 0), 0, []),
  (72, false, .iaload, 1, 0, (58, 0, 0, 0), 0, []),
  (73, false, .iconst 1, 1, 0, (0, 0, 0, 0), 0, []),
  (74, false, .iadd, 1, 0, (0, 0, 0, 0), 0, []),
  (75, false, .iastore, 1, 0, (58, 0, 0, 0), 0, []),
  (76, false, .aload_n 0, 1, 0, (0, 0, 0, 0), 0, []),
  (77, false, .iload_n 1, 1, 0, (0, 0, 0, 0), 0, []),
  (78, false, .iload_n 2, 1, 0, (0, 0, 0, 0), 0, []),
  (79, false, .invokevirtual 231, 3, 1056, (124, 3, 999, 0), 0, [0, 0, 42]),
  (82, false, .goto 69, 3, 0, (151, 0, 0, 0), 0, []),
  (85, true, .aload_n 0, 1, 0, (0, 0, 0, 0), 0, []),
  (86, false, .getfield 178, 3, 847, (40, 53, 0, 0), 0, []),
  (89, false, .bipush 100, 2, 0, (0, 0, 0, 0), 0, []),
  (91, false, .if_icmp .ne 20, 3, 0, (111, 0, 0, 0), 0, []),
  (94, false, .aload_n 0, 1, 0, (0, 0, 0, 0), 0, []),
  (95, false, .iload_n 1, 1, 0, (0, 0, 0, 0), 0, []),
  (96, false, .iload_n 2, 1, 0, (0, 0, 0, 0), 0, []),
  (97, false, .bipush 6, 2, 0, (0, 0, 0, 0), 0, []),
  (99, false, .invokevirtual 227, 3, 1052, (123, 4, 999, 0), 0, [0, 0, 0, 42]),
  (102, false, .aload_n 0, 1, 0, (0, 0, 0, 0), 0, []),
  (103, false, .iload_n 1, 1, 0, (0, 0, 0, 0), 0, []),
  (104, false, .iload_n 2, 1, 0, (0, 0, 0, 0), 0, []),
  (105, false, .invokevirtual 231, 3, 1056, (124, 3, 999, 0), 0, [0, 0, 42]),
  (108, false, .goto 43, 3, 0, (151, 0, 0, 0), 0, []),
  (111, false, .aload_n 0, 1, 0, (0, 0, 0, 0), 0, []),
  (112, false, .getfield 150, 3, 848, (40, 54, 87, 1), 0, []),
  (115, false, .aload_n 0, 1, 0, (0, 0, 0, 0), 0, []),
  (116, false, .getfield 178, 3, 847, (40, 53, 0, 0), 0, []),
  (119, false, .iload_n 1, 1, 0, (0, 0, 0, 0), 0, []),
  (120, false, .iastore, 1, 0, (85, 0, 0, 0), 0, []),
  (121, false, .aload_n 0, 1, 0, (0, 0, 0, 0), 0, []),
  (122, false, .getfield 153, 3, 849, (40, 55, 88, 1), 0, []),
  (125, false, .aload_n 0, 1, 0, (0, 0, 0, 0), 0, []),
  (126, false, .getfield 178, 3, 847, (40, 53, 0, 0), 0, []),
  (129, false, .iload_n 2, 1, 0, (0, 0, 0, 0), 0, []),
  (130, false, .iastore, 1, 0, (86, 0, 0, 0), 0, []),
  (131, false, .aload_n 0, 1, 0, (0, 0, 0, 0), 0, []),
  (132, false, .getfield 156, 3, 850, (40, 56, 89, 1), 0, []),
  (135, false, .aload_n 0, 1, 0, (0, 0, 0, 0), 0, []),
  (136, false, .getfield 178, 3, 847, (40, 53, 0, 0), 0, []),
  (139, false, .iconst 0, 1, 0, (0, 0, 0, 0), 0, []),
  (140, false, .bastore, 1, 0, (87, 0, 0, 0), 0, []),
  (141, false, .aload_n 0, 1, 0, (0, 0, 0, 0), 0, []),
  (142, false, .dup, 1, 0, (0, 0, 0, 0), 0, []),
  (143, false, .getfield 178, 3, 847, (40, 53, 0, 0), 0, []),
  (146, false, .iconst 1, 1, 0, (0, 0, 0, 0), 0, []),
  (147, false, .iadd, 1, 0, (0, 0, 0, 0), 0, []),
  (148, false, .putfield 178, 3, 847, (40, 53, 0, 0), 0, []),
  (151, false, .return_, 1, 0, (0, 0, 0, 0), 0, [])]
noncomputable def m_comes_85 (v1 v2 : Int) (σ : zz_S) : zz_R := (if (zz_h σ 40 1 53) = 100 then ((m_books v1 v2 6 σ).bind fun q1 => ((m_dueGone v1 v2 q1.2).bind fun q2 => (some (0, q2.2)))) else (if zz_b σ 85 1 (zz_h σ 40 1 53) then (let s3 := zz_w σ 85 1 (zz_h σ 40 1 53) v1; (if zz_b s3 86 1 (zz_h s3 40 1 53) then (let s4 := zz_w s3 86 1 (zz_h s3 40 1 53) v2; (if zz_b s4 87 1 (zz_h s4 40 1 53) then (let s5 := zz_w s4 87 1 (zz_h s4 40 1 53) 0; (let s6 := zz_w s5 40 1 53 (zz_r ((zz_h s5 40 1 53) + 1)); (some (0, s6)))) else none)) else none)) else none))
set_option maxRecDepth 100000 in
set_option maxHeartbeats 4000000 in
theorem ze_m_comes_85 (v1 v2 : Int) (σ : zz_S) : m_comes_85 v1 v2 σ = zz_ev (zz_CE [(123, zw_m_books), (124, zw_m_dueGone)]) (zz_KE []) zk_m_comes 999 false 0 1 400 true (zz_sk zk_m_comes 85) [(0, 42, 1), (1, 0, v1), (2, 0, v2)] [] σ := rfl
noncomputable def m_comes (v1 v2 : Int) (σ : zz_S) : zz_R := (if (zz_h σ 40 1 3) = 0 then (if zz_b σ 60 1 v1 then (if (zz_h σ 60 1 v1) ≤ v2 then (if zz_b σ 50 1 v1 then (if (zz_h σ 50 1 v1) = 0 then ((m_isRunning v1 σ).bind fun q1 => (if q1.1 = 0 then (m_comes_85 v1 v2 q1.2) else (if zz_b q1.2 58 1 v1 then (if zz_b q1.2 58 1 v1 then (let s2 := zz_w q1.2 58 1 v1 (zz_r ((zz_h q1.2 58 1 v1) + 1)); ((m_dueGone v1 v2 s2).bind fun q3 => (some (0, q3.2)))) else none) else none))) else (m_comes_85 v1 v2 σ)) else none) else ((m_books v1 v2 5 σ).bind fun q4 => ((m_dueGone v1 v2 q4.2).bind fun q5 => (some (0, q5.2))))) else none) else ((m_books v1 v2 4 σ).bind fun q6 => ((m_dueGone v1 v2 q6.2).bind fun q7 => (some (0, q7.2)))))
set_option maxRecDepth 100000 in
set_option maxHeartbeats 4000000 in
theorem ze_m_comes (v1 v2 : Int) (σ : zz_S) : m_comes v1 v2 σ = zz_ev (zz_CE [(112, zw_m_isRunning), (123, zw_m_books), (124, zw_m_dueGone)]) (zz_KE [(85, [(0, 42, true), (1, 0, false), (2, 0, false)], fun vs σ => match vs with | [b0, b1] => m_comes_85 b0 b1 σ | _ => none)]) zk_m_comes 999 false 0 1 400 true (zz_sk zk_m_comes 0) [(0, 42, 1), (1, 0, v1), (2, 0, v2)] [] σ := rfl
noncomputable def zw_m_comes : List Int → zz_S → zz_R := fun vs σ => match vs with
  | [a0, a1, a2] => if a0 = 1 then m_comes a1 a2 σ else none
  | _ => none
def zk_m_takeDue : List zz_E := [(0, false, .aload_n 0, 1, 0, (0, 0, 0, 0), 0, []),
  (1, false, .dup, 1, 0, (0, 0, 0, 0), 0, []),
  (2, false, .getfield 178, 3, 847, (40, 53, 0, 0), 0, []),
  (5, false, .iconst 1, 1, 0, (0, 0, 0, 0), 0, []),
  (6, false, .isub, 1, 0, (0, 0, 0, 0), 0, []),
  (7, false, .putfield 178, 3, 847, (40, 53, 0, 0), 0, []),
  (10, false, .iload_n 1, 1, 0, (0, 0, 0, 0), 0, []),
  (11, false, .istore_n 2, 1, 0, (0, 0, 0, 0), 0, []),
  (12, true, .iload_n 2, 1, 0, (0, 0, 0, 0), 0, []),
  (13, false, .aload_n 0, 1, 0, (0, 0, 0, 0), 0, []),
  (14, false, .getfield 178, 3, 847, (40, 53, 0, 0), 0, []),
  (17, false, .if_icmp .ge 51, 3, 0, (68, 0, 0, 0), 0, []),
  (20, false, .aload_n 0, 1, 0, (0, 0, 0, 0), 0, []),
  (21, false, .getfield 150, 3, 848, (40, 54, 87, 1), 0, []),
  (24, false, .iload_n 2, 1, 0, (0, 0, 0, 0), 0, []),
  (25, false, .aload_n 0, 1, 0, (0, 0, 0, 0), 0, []),
  (26, false, .getfield 150, 3, 848, (40, 54, 87, 1), 0, []),
  (29, false, .iload_n 2, 1, 0, (0, 0, 0, 0), 0, []),
  (30, false, .iconst 1, 1, 0, (0, 0, 0, 0), 0, []),
  (31, false, .iadd, 1, 0, (0, 0, 0, 0), 0, []),
  (32, false, .iaload, 1, 0, (85, 0, 0, 0), 0, []),
  (33, false, .iastore, 1, 0, (85, 0, 0, 0), 0, []),
  (34, false, .aload_n 0, 1, 0, (0, 0, 0, 0), 0, []),
  (35, false, .getfield 153, 3, 849, (40, 55, 88, 1), 0, []),
  (38, false, .iload_n 2, 1, 0, (0, 0, 0, 0), 0, []),
  (39, false, .aload_n 0, 1, 0, (0, 0, 0, 0), 0, []),
  (40, false, .getfield 153, 3, 849, (40, 55, 88, 1), 0, []),
  (43, false, .iload_n 2, 1, 0, (0, 0, 0, 0), 0, []),
  (44, false, .iconst 1, 1, 0, (0, 0, 0, 0), 0, []),
  (45, false, .iadd, 1, 0, (0, 0, 0, 0), 0, []),
  (46, false, .iaload, 1, 0, (86, 0, 0, 0), 0, []),
  (47, false, .iastore, 1, 0, (86, 0, 0, 0), 0, []),
  (48, false, .aload_n 0, 1, 0, (0, 0, 0, 0), 0, []),
  (49, false, .getfield 156, 3, 850, (40, 56, 89, 1), 0, []),
  (52, false, .iload_n 2, 1, 0, (0, 0, 0, 0), 0, []),
  (53, false, .aload_n 0, 1, 0, (0, 0, 0, 0), 0, []),
  (54, false, .getfield 156, 3, 850, (40, 56, 89, 1), 0, []),
  (57, false, .iload_n 2, 1, 0, (0, 0, 0, 0), 0, []),
  (58, false, .iconst 1, 1, 0, (0, 0, 0, 0), 0, []),
  (59, false, .iadd, 1, 0, (0, 0, 0, 0), 0, []),
  (60, false, .baload, 1, 0, (87, 0, 0, 0), 0, []),
  (61, false, .bastore, 1, 0, (87, 0, 0, 0), 0, []),
  (62, false, .iinc 2 1, 3, 0, (0, 0, 0, 0), 0, []),
  (65, false, .goto (-53), 3, 0, (12, 0, 0, 0), 0, []),
  (68, false, .return_, 1, 0, (0, 0, 0, 0), 0, [])]
noncomputable def m_takeDue_12 : Nat → Int → zz_S → zz_R
  | 0, _, _ => none
  | n + 1, v2, σ => (if v2 < (zz_h σ 40 1 53) then (if zz_b σ 85 1 (zz_r (v2 + 1)) then (if zz_b σ 85 1 v2 then (let s1 := zz_w σ 85 1 v2 (zz_h σ 85 1 (zz_r (v2 + 1))); (if zz_b s1 86 1 (zz_r (v2 + 1)) then (if zz_b s1 86 1 v2 then (let s2 := zz_w s1 86 1 v2 (zz_h s1 86 1 (zz_r (v2 + 1))); (if zz_b s2 87 1 (zz_r (v2 + 1)) then (if zz_b s2 87 1 v2 then (if zz_o (zz_h s2 87 1 (zz_r (v2 + 1))) then (let s3 := zz_w s2 87 1 v2 (zz_h s2 87 1 (zz_r (v2 + 1))); (m_takeDue_12 n (zz_r (v2 + 1)) s3)) else none) else none) else none)) else none) else none)) else none) else none) else (some (0, σ)))
set_option maxRecDepth 100000 in
set_option maxHeartbeats 4000000 in
theorem ze_m_takeDue_12 (n : Nat) (v2 : Int) (σ : zz_S) : m_takeDue_12 (n + 1) v2 σ = zz_ev (zz_CE []) (zz_KE [(12, [(0, 42, true), (2, 0, false)], fun vs σ => match vs with | [b0] => m_takeDue_12 n b0 σ | _ => none)]) zk_m_takeDue 999 false 0 1 400 true (zz_sk zk_m_takeDue 12) [(0, 42, 1), (2, 0, v2)] [] σ := rfl
noncomputable def m_takeDue (v1 : Int) (σ : zz_S) : zz_R := (let s1 := zz_w σ 40 1 53 (zz_r ((zz_h σ 40 1 53) - 1)); (m_takeDue_12 zz_fu v1 s1))
set_option maxRecDepth 100000 in
set_option maxHeartbeats 4000000 in
theorem ze_m_takeDue (v1 : Int) (σ : zz_S) : m_takeDue v1 σ = zz_ev (zz_CE []) (zz_KE [(12, [(0, 42, true), (2, 0, false)], fun vs σ => match vs with | [b0] => m_takeDue_12 zz_fu b0 σ | _ => none)]) zk_m_takeDue 999 false 0 1 400 true (zz_sk zk_m_takeDue 0) [(0, 42, 1), (1, 0, v1)] [] σ := rfl
noncomputable def zw_m_takeDue : List Int → zz_S → zz_R := fun vs σ => match vs with
  | [a0, a1] => if a0 = 1 then m_takeDue a1 σ else none
  | _ => none
def zk_m_dropDues : List zz_E := [(0, false, .aload_n 0, 1, 0, (0, 0, 0, 0), 0, []),
  (1, false, .getfield 178, 3, 847, (40, 53, 0, 0), 0, []),
  (4, false, .iconst 1, 1, 0, (0, 0, 0, 0), 0, []),
  (5, false, .isub, 1, 0, (0, 0, 0, 0), 0, []),
  (6, false, .istore_n 2, 1, 0, (0, 0, 0, 0), 0, []),
  (7, true, .iload_n 2, 1, 0, (0, 0, 0, 0), 0, []),
  (8, false, .ifCond .lt 24, 3, 0, (32, 0, 0, 0), 0, []),
  (11, false, .aload_n 0, 1, 0, (0, 0, 0, 0), 0, []),
  (12, false, .getfield 150, 3, 848, (40, 54, 87, 1), 0, []),
  (15, false, .iload_n 2, 1, 0, (0, 0, 0, 0), 0, []),
  (16, false, .iaload, 1, 0, (85, 0, 0, 0), 0, []),
  (17, false, .iload_n 1, 1, 0, (0, 0, 0, 0), 0, []),
  (18, false, .if_icmp .ne 8, 3, 0, (26, 0, 0, 0), 0, []),
  (21, false, .aload_n 0, 1, 0, (0, 0, 0, 0), 0, []),
  (22, false, .iload_n 2, 1, 0, (0, 0, 0, 0), 0, []),
  (23, false, .invokevirtual 238, 3, 1032, (126, 2, 999, 0), 0, [0, 42]),
  (26, false, .iinc 2 (-1), 3, 0, (0, 0, 0, 0), 0, []),
  (29, false, .goto (-22), 3, 0, (7, 0, 0, 0), 0, []),
  (32, false, .return_, 1, 0, (0, 0, 0, 0), 0, [])]
noncomputable def m_dropDues_7 : Nat → Int → Int → zz_S → zz_R
  | 0, _, _, _ => none
  | n + 1, v1, v2, σ => (if v2 < 0 then (some (0, σ)) else (if zz_b σ 85 1 v2 then (if (zz_h σ 85 1 v2) = v1 then ((m_takeDue v2 σ).bind fun q1 => (m_dropDues_7 n v1 (zz_r (v2 + (-1))) q1.2)) else (m_dropDues_7 n v1 (zz_r (v2 + (-1))) σ)) else none))
set_option maxRecDepth 100000 in
set_option maxHeartbeats 4000000 in
theorem ze_m_dropDues_7 (n : Nat) (v1 v2 : Int) (σ : zz_S) : m_dropDues_7 (n + 1) v1 v2 σ = zz_ev (zz_CE [(126, zw_m_takeDue)]) (zz_KE [(7, [(0, 42, true), (1, 0, false), (2, 0, false)], fun vs σ => match vs with | [b0, b1] => m_dropDues_7 n b0 b1 σ | _ => none)]) zk_m_dropDues 999 false 0 1 400 true (zz_sk zk_m_dropDues 7) [(0, 42, 1), (1, 0, v1), (2, 0, v2)] [] σ := rfl
noncomputable def m_dropDues (v1 : Int) (σ : zz_S) : zz_R := (m_dropDues_7 zz_fu v1 (zz_r ((zz_h σ 40 1 53) - 1)) σ)
set_option maxRecDepth 100000 in
set_option maxHeartbeats 4000000 in
theorem ze_m_dropDues (v1 : Int) (σ : zz_S) : m_dropDues v1 σ = zz_ev (zz_CE []) (zz_KE [(7, [(0, 42, true), (1, 0, false), (2, 0, false)], fun vs σ => match vs with | [b0, b1] => m_dropDues_7 zz_fu b0 b1 σ | _ => none)]) zk_m_dropDues 999 false 0 1 400 true (zz_sk zk_m_dropDues 0) [(0, 42, 1), (1, 0, v1)] [] σ := rfl
noncomputable def zw_m_dropDues : List Int → zz_S → zz_R := fun vs σ => match vs with
  | [a0, a1] => if a0 = 1 then m_dropDues a1 σ else none
  | _ => none
def zk_m_notes : List zz_E := [(0, false, .iconst 0, 1, 0, (0, 0, 0, 0), 0, []),
  (1, false, .istore 4, 2, 0, (0, 0, 0, 0), 0, []),
  (3, true, .iload 4, 2, 0, (0, 0, 0, 0), 0, []),
  (5, false, .aload_n 0, 1, 0, (0, 0, 0, 0), 0, []),
  (6, false, .getfield 171, 3, 803, (40, 9, 0, 0), 0, []),
  (9, false, .if_icmp .ge 120, 3, 0, (129, 0, 0, 0), 0, []),
  (12, false, .aload_n 0, 1, 0, (0, 0, 0, 0), 0, []),
  (13, false, .getfield 26, 3, 804, (40, 10, 46, 1), 0, []),
  (16, false, .iload 4, 2, 0, (0, 0, 0, 0), 0, []),
  (18, false, .iaload, 1, 0, (44, 0, 0, 0), 0, []),
  (19, false, .iconst 4, 1, 0, (0, 0, 0, 0), 0, []),
  (20, false, .if_icmp .ne 103, 3, 0, (123, 0, 0, 0), 0, []),
  (23, false, .aload_n 0, 1, 0, (0, 0, 0, 0), 0, []),
  (24, false, .iload 4, 2, 0, (0, 0, 0, 0), 0, []),
  (26, false, .invokevirtual 241, 3, 1024, (110, 2, 0, 0), 0, [0, 42]),
  (29, false, .ifCond .ne 6, 3, 0, (35, 0, 0, 0), 0, []),
  (32, false, .goto 91, 3, 0, (123, 0, 0, 0), 0, []),
  (35, false, .iconst 0, 1, 0, (0, 0, 0, 0), 0, []),
  (36, false, .istore 5, 2, 0, (0, 0, 0, 0), 0, []),
  (38, false, .iconst 4, 1, 0, (0, 0, 0, 0), 0, []),
  (39, false, .iload 4, 2, 0, (0, 0, 0, 0), 0, []),
  (41, false, .imul, 1, 0, (0, 0, 0, 0), 0, []),
  (42, false, .istore 6, 2, 0, (0, 0, 0, 0), 0, []),
  (44, true, .iload 6, 2, 0, (0, 0, 0, 0), 0, []),
  (46, false, .iconst 4, 1, 0, (0, 0, 0, 0), 0, []),
  (47, false, .iload 4, 2, 0, (0, 0, 0, 0), 0, []),
  (49, false, .imul, 1, 0, (0, 0, 0, 0), 0, []),
  (50, false, .aload_n 0, 1, 0, (0, 0, 0, 0), 0, []),
  (51, false, .getfield 99, 3, 828, (40, 34, 70, 1), 0, []),
  (54, false, .iload 4, 2, 0, (0, 0, 0, 0), 0, []),
  (56, false, .iaload, 1, 0, (68, 0, 0, 0), 0, []),
  (57, false, .iadd, 1, 0, (0, 0, 0, 0), 0, []),
  (58, false, .if_icmp .ge 53, 3, 0, (111, 0, 0, 0), 0, []),
  (61, false, .aload_n 0, 1, 0, (0, 0, 0, 0), 0, []),
  (62, false, .getfield 102, 3, 829, (40, 35, 71, 1), 0, []),
  (65, false, .iload 6, 2, 0, (0, 0, 0, 0), 0, []),
  (67, false, .iaload, 1, 0, (69, 0, 0, 0), 0, []),
  (68, false, .iload_n 1, 1, 0, (0, 0, 0, 0), 0, []),
  (69, false, .if_icmp .ne 36, 3, 0, (105, 0, 0, 0), 0, []),
  (72, false, .aload_n 0, 1, 0, (0, 0, 0, 0), 0, []),
  (73, false, .getfield 105, 3, 830, (40, 36, 72, 1), 0, []),
  (76, false, .iload 6, 2, 0, (0, 0, 0, 0), 0, []),
  (78, false, .iaload, 1, 0, (70, 0, 0, 0), 0, []),
  (79, false, .iconst 2, 1, 0, (0, 0, 0, 0), 0, []),
  (80, false, .if_icmp .eq 22, 3, 0, (102, 0, 0, 0), 0, []),
  (83, false, .aload_n 0, 1, 0, (0, 0, 0, 0), 0, []),
  (84, false, .getfield 105, 3, 830, (40, 36, 72, 1), 0, []),
  (87, false, .iload 6, 2, 0, (0, 0, 0, 0), 0, []),
  (89, false, .iaload, 1, 0, (70, 0, 0, 0), 0, []),
  (90, false, .ifCond .ne 7, 3, 0, (97, 0, 0, 0), 0, []),
  (93, false, .iconst 1, 1, 0, (0, 0, 0, 0), 0, []),
  (94, false, .goto 4, 3, 0, (98, 0, 0, 0), 0, []),
  (97, false, .iconst 0, 1, 0, (0, 0, 0, 0), 0, []),
  (98, false, .iload_n 2, 1, 0, (0, 0, 0, 0), 0, []),
  (99, false, .if_icmp .ne 6, 3, 0, (105, 0, 0, 0), 0, []),
  (102, false, .iconst 1, 1, 0, (0, 0, 0, 0), 0, []),
  (103, false, .istore 5, 2, 0, (0, 0, 0, 0), 0, []),
  (105, false, .iinc 6 1, 3, 0, (0, 0, 0, 0), 0, []),
  (108, false, .goto (-64), 3, 0, (44, 0, 0, 0), 0, []),
  (111, false, .iload 5, 2, 0, (0, 0, 0, 0), 0, []),
  (113, false, .ifCond .eq 10, 3, 0, (123, 0, 0, 0), 0, []),
  (116, false, .aload_n 0, 1, 0, (0, 0, 0, 0), 0, []),
  (117, false, .iload 4, 2, 0, (0, 0, 0, 0), 0, []),
  (119, false, .iload_n 3, 1, 0, (0, 0, 0, 0), 0, []),
  (120, false, .invokevirtual 244, 3, 1048, (125, 3, 999, 0), 0, [0, 0, 42]),
  (123, false, .iinc 4 1, 3, 0, (0, 0, 0, 0), 0, []),
  (126, false, .goto (-123), 3, 0, (3, 0, 0, 0), 0, []),
  (129, false, .return_, 1, 0, (0, 0, 0, 0), 0, [])]
noncomputable def m_notes_44 (k3 : Int → Int → Int → Int → zz_S → zz_R) : Nat → Int → Int → Int → Int → Int → Int → zz_S → zz_R
  | 0, _, _, _, _, _, _, _ => none
  | n + 1, v1, v2, v3, v4, v5, v6, σ => (if zz_b σ 68 1 v4 then (if v6 < (zz_r ((zz_r (4 * v4)) + (zz_h σ 68 1 v4))) then (if zz_b σ 69 1 v6 then (if (zz_h σ 69 1 v6) = v1 then (if zz_b σ 70 1 v6 then (if (zz_h σ 70 1 v6) = 2 then (m_notes_44 k3 n v1 v2 v3 v4 1 (zz_r (v6 + 1)) σ) else (if zz_b σ 70 1 v6 then (if (zz_h σ 70 1 v6) = 0 then (if 1 = v2 then (m_notes_44 k3 n v1 v2 v3 v4 1 (zz_r (v6 + 1)) σ) else (m_notes_44 k3 n v1 v2 v3 v4 v5 (zz_r (v6 + 1)) σ)) else (if 0 = v2 then (m_notes_44 k3 n v1 v2 v3 v4 1 (zz_r (v6 + 1)) σ) else (m_notes_44 k3 n v1 v2 v3 v4 v5 (zz_r (v6 + 1)) σ))) else none)) else none) else (m_notes_44 k3 n v1 v2 v3 v4 v5 (zz_r (v6 + 1)) σ)) else none) else (if v5 = 0 then (k3 v1 v2 v3 (zz_r (v4 + 1)) σ) else ((m_comes v4 v3 σ).bind fun q1 => (k3 v1 v2 v3 (zz_r (v4 + 1)) q1.2)))) else none)
set_option maxRecDepth 100000 in
set_option maxHeartbeats 4000000 in
theorem ze_m_notes_44 (k3 : Int → Int → Int → Int → zz_S → zz_R) (n : Nat) (v1 v2 v3 v4 v5 v6 : Int) (σ : zz_S) : m_notes_44 k3 (n + 1) v1 v2 v3 v4 v5 v6 σ = zz_ev (zz_CE [(125, zw_m_comes)]) (zz_KE [(3, [(0, 42, true), (1, 0, false), (2, 0, false), (3, 0, false), (4, 0, false)], fun vs σ => match vs with | [b0, b1, b2, b3] => k3 b0 b1 b2 b3 σ | _ => none), (44, [(0, 42, true), (1, 0, false), (2, 0, false), (3, 0, false), (4, 0, false), (5, 0, false), (6, 0, false)], fun vs σ => match vs with | [b0, b1, b2, b3, b4, b5] => m_notes_44 k3 n b0 b1 b2 b3 b4 b5 σ | _ => none)]) zk_m_notes 999 false 0 1 400 true (zz_sk zk_m_notes 44) [(0, 42, 1), (1, 0, v1), (2, 0, v2), (3, 0, v3), (4, 0, v4), (5, 0, v5), (6, 0, v6)] [] σ := rfl
noncomputable def m_notes_3 : Nat → Int → Int → Int → Int → zz_S → zz_R
  | 0, _, _, _, _, _ => none
  | n + 1, v1, v2, v3, v4, σ => (if v4 < (zz_h σ 40 1 9) then (if zz_b σ 44 1 v4 then (if (zz_h σ 44 1 v4) = 4 then ((m_isActive v4 σ).bind fun q1 => (if q1.1 = 0 then (m_notes_3 n v1 v2 v3 (zz_r (v4 + 1)) q1.2) else (m_notes_44 (m_notes_3 n) zz_fu v1 v2 v3 v4 0 (zz_r (4 * v4)) q1.2))) else (m_notes_3 n v1 v2 v3 (zz_r (v4 + 1)) σ)) else none) else (some (0, σ)))
set_option maxRecDepth 100000 in
set_option maxHeartbeats 4000000 in
theorem ze_m_notes_3 (n : Nat) (v1 v2 v3 v4 : Int) (σ : zz_S) : m_notes_3 (n + 1) v1 v2 v3 v4 σ = zz_ev (zz_CE [(110, zw_m_isActive)]) (zz_KE [(3, [(0, 42, true), (1, 0, false), (2, 0, false), (3, 0, false), (4, 0, false)], fun vs σ => match vs with | [b0, b1, b2, b3] => m_notes_3 n b0 b1 b2 b3 σ | _ => none), (44, [(0, 42, true), (1, 0, false), (2, 0, false), (3, 0, false), (4, 0, false), (5, 0, false), (6, 0, false)], fun vs σ => match vs with | [b0, b1, b2, b3, b4, b5] => m_notes_44 (m_notes_3 n) zz_fu b0 b1 b2 b3 b4 b5 σ | _ => none)]) zk_m_notes 999 false 0 1 400 true (zz_sk zk_m_notes 3) [(0, 42, 1), (1, 0, v1), (2, 0, v2), (3, 0, v3), (4, 0, v4)] [] σ := rfl
noncomputable def m_notes (v1 v2 v3 : Int) (σ : zz_S) : zz_R := (m_notes_3 zz_fu v1 v2 v3 0 σ)
set_option maxRecDepth 100000 in
set_option maxHeartbeats 4000000 in
theorem ze_m_notes (v1 v2 v3 : Int) (σ : zz_S) : m_notes v1 v2 v3 σ = zz_ev (zz_CE []) (zz_KE [(3, [(0, 42, true), (1, 0, false), (2, 0, false), (3, 0, false), (4, 0, false)], fun vs σ => match vs with | [b0, b1, b2, b3] => m_notes_3 zz_fu b0 b1 b2 b3 σ | _ => none)]) zk_m_notes 999 false 0 1 400 true (zz_sk zk_m_notes 0) [(0, 42, 1), (1, 0, v1), (2, 0, v2), (3, 0, v3)] [] σ := rfl
noncomputable def zw_m_notes : List Int → zz_S → zz_R := fun vs σ => match vs with
  | [a0, a1, a2, a3] => if a0 = 1 then m_notes a1 a2 a3 σ else none
  | _ => none
def zk_m_frees : List zz_E := [(0, false, .aload_n 0, 1, 0, (0, 0, 0, 0), 0, []),
  (1, false, .getfield 16, 3, 799, (40, 5, 43, 1), 0, []),
  (4, false, .aload_n 0, 1, 0, (0, 0, 0, 0), 0, []),
  (5, false, .getfield 141, 3, 844, (40, 50, 84, 1), 0, []),
  (8, false, .iload_n 1, 1, 0, (0, 0, 0, 0), 0, []),
  (9, false, .iaload, 1, 0, (82, 0, 0, 0), 0, []),
  (10, false, .iconst (-1), 1, 0, (0, 0, 0, 0), 0, []),
  (11, false, .iastore, 1, 0, (41, 0, 0, 0), 0, []),
  (12, false, .aload_n 0, 1, 0, (0, 0, 0, 0), 0, []),
  (13, false, .getfield 135, 3, 842, (40, 48, 82, 1), 0, []),
  (16, false, .iload_n 1, 1, 0, (0, 0, 0, 0), 0, []),
  (17, false, .iload_n 2, 1, 0, (0, 0, 0, 0), 0, []),
  (18, false, .iastore, 1, 0, (80, 0, 0, 0), 0, []),
  (19, false, .aload_n 0, 1, 0, (0, 0, 0, 0), 0, []),
  (20, false, .getfield 132, 3, 841, (40, 47, 81, 1), 0, []),
  (23, false, .iload_n 1, 1, 0, (0, 0, 0, 0), 0, []),
  (24, false, .iload_n 3, 1, 0, (0, 0, 0, 0), 0, []),
  (25, false, .iastore, 1, 0, (79, 0, 0, 0), 0, []),
  (26, false, .return_, 1, 0, (0, 0, 0, 0), 0, [])]
noncomputable def m_frees (v1 v2 v3 : Int) (σ : zz_S) : zz_R := (if zz_b σ 82 1 v1 then (if zz_b σ 41 1 (zz_h σ 82 1 v1) then (let s1 := zz_w σ 41 1 (zz_h σ 82 1 v1) (-1); (if zz_b s1 80 1 v1 then (let s2 := zz_w s1 80 1 v1 v2; (if zz_b s2 79 1 v1 then (let s3 := zz_w s2 79 1 v1 v3; (some (0, s3))) else none)) else none)) else none) else none)
set_option maxRecDepth 100000 in
set_option maxHeartbeats 4000000 in
theorem ze_m_frees (v1 v2 v3 : Int) (σ : zz_S) : m_frees v1 v2 v3 σ = zz_ev (zz_CE []) (zz_KE []) zk_m_frees 999 false 0 1 400 true (zz_sk zk_m_frees 0) [(0, 42, 1), (1, 0, v1), (2, 0, v2), (3, 0, v3)] [] σ := rfl
noncomputable def zw_m_frees : List Int → zz_S → zz_R := fun vs σ => match vs with
  | [a0, a1, a2, a3] => if a0 = 1 then m_frees a1 a2 a3 σ else none
  | _ => none
def zk_m_interrupts : List zz_E := [(0, false, .iconst 0, 1, 0, (0, 0, 0, 0), 0, []),
  (1, false, .istore_n 3, 1, 0, (0, 0, 0, 0), 0, []),
  (2, true, .iload_n 3, 1, 0, (0, 0, 0, 0), 0, []),
  (3, false, .aload_n 0, 1, 0, (0, 0, 0, 0), 0, []),
  (4, false, .getfield 247, 3, 836, (40, 42, 0, 0), 0, []),
  (7, false, .if_icmp .ge 107, 3, 0, (114, 0, 0, 0), 0, []),
  (10, false, .aload_n 0, 1, 0, (0, 0, 0, 0), 0, []),
  (11, false, .getfield 135, 3, 842, (40, 48, 82, 1), 0, []),
  (14, false, .iload_n 3, 1, 0, (0, 0, 0, 0), 0, []),
  (15, false, .iaload, 1, 0, (80, 0, 0, 0), 0, []),
  (16, false, .ifCond .ne 92, 3, 0, (108, 0, 0, 0), 0, []),
  (19, false, .iload_n 2, 1, 0, (0, 0, 0, 0), 0, []),
  (20, false, .ifCond .ne 16, 3, 0, (36, 0, 0, 0), 0, []),
  (23, false, .aload_n 0, 1, 0, (0, 0, 0, 0), 0, []),
  (24, false, .getfield 120, 3, 837, (40, 43, 77, 1), 0, []),
  (27, false, .iload_n 3, 1, 0, (0, 0, 0, 0), 0, []),
  (28, false, .iaload, 1, 0, (75, 0, 0, 0), 0, []),
  (29, false, .iload_n 1, 1, 0, (0, 0, 0, 0), 0, []),
  (30, false, .if_icmp .eq 6, 3, 0, (36, 0, 0, 0), 0, []),
  (33, false, .goto 75, 3, 0, (108, 0, 0, 0), 0, []),
  (36, true, .aload_n 0, 1, 0, (0, 0, 0, 0), 0, []),
  (37, false, .getfield 120, 3, 837, (40, 43, 77, 1), 0, []),
  (40, false, .iload_n 3, 1, 0, (0, 0, 0, 0), 0, []),
  (41, false, .iaload, 1, 0, (75, 0, 0, 0), 0, []),
  (42, false, .istore 4, 2, 0, (0, 0, 0, 0), 0, []),
  (44, false, .aload_n 0, 1, 0, (0, 0, 0, 0), 0, []),
  (45, false, .iload_n 3, 1, 0, (0, 0, 0, 0), 0, []),
  (46, false, .iconst 3, 1, 0, (0, 0, 0, 0), 0, []),
  (47, false, .aload_n 0, 1, 0, (0, 0, 0, 0), 0, []),
  (48, false, .getfield 250, 3, 794, (40, 0, 0, 0), 0, []),
  (51, false, .invokevirtual 253, 3, 1036, (129, 4, 999, 0), 0, [0, 0, 0, 42]),
  (54, false, .iload_n 2, 1, 0, (0, 0, 0, 0), 0, []),
  (55, false, .ifCond .eq 42, 3, 0, (97, 0, 0, 0), 0, []),
  (58, false, .aload_n 0, 1, 0, (0, 0, 0, 0), 0, []),
  (59, false, .getfield 26, 3, 804, (40, 10, 46, 1), 0, []),
  (62, false, .iload 4, 2, 0, (0, 0, 0, 0), 0, []),
  (64, false, .iaload, 1, 0, (44, 0, 0, 0), 0, []),
  (65, false, .iconst 2, 1, 0, (0, 0, 0, 0), 0, []),
  (66, false, .if_icmp .ne 31, 3, 0, (97, 0, 0, 0), 0, []),
  (69, false, .aload_n 0, 1, 0, (0, 0, 0, 0), 0, []),
  (70, false, .iload 4, 2, 0, (0, 0, 0, 0), 0, []),
  (72, false, .invokevirtual 241, 3, 1024, (110, 2, 0, 0), 0, [0, 42]),
  (75, false, .ifCond .eq 22, 3, 0, (97, 0, 0, 0), 0, []),
  (78, false, .aload_n 0, 1, 0, (0, 0, 0, 0), 0, []),
  (79, false, .getfield 65, 3, 817, (40, 23, 59, 1), 0, []),
  (82, false, .iload 4, 2, 0, (0, 0, 0, 0), 0, []),
  (84, false, .aload_n 0, 1, 0, (0, 0, 0, 0), 0, []),
  (85, false, .getfield 250, 3, 794, (40, 0, 0, 0), 0, []),
  (88, false, .aload_n 0, 1, 0, (0, 0, 0, 0), 0, []),
  (89, false, .getfield 32, 3, 806, (40, 12, 48, 1), 0, []),
  (92, false, .iload 4, 2, 0, (0, 0, 0, 0), 0, []),
  (94, false, .iaload, 1, 0, (46, 0, 0, 0), 0, []),
  (95, false, .iadd, 1, 0, (0, 0, 0, 0), 0, []),
  (96, false, .iastore, 1, 0, (57, 0, 0, 0), 0, []),
  (97, true, .aload_n 0, 1, 0, (0, 0, 0, 0), 0, []),
  (98, false, .iload 4, 2, 0, (0, 0, 0, 0), 0, []),
  (100, false, .iconst 0, 1, 0, (0, 0, 0, 0), 0, []),
  (101, false, .aload_n 0, 1, 0, (0, 0, 0, 0), 0, []),
  (102, false, .getfield 250, 3, 794, (40, 0, 0, 0), 0, []),
  (105, false, .invokevirtual 256, 3, 1044, (128, 4, 999, 0), 0, [0, 0, 0, 42]),
  (108, false, .iinc 3 1, 3, 0, (0, 0, 0, 0), 0, []),
  (111, false, .goto (-109), 3, 0, (2, 0, 0, 0), 0, []),
  (114, false, .return_, 1, 0, (0, 0, 0, 0), 0, [])]
noncomputable def m_interrupts_97 (k2 : Int → Int → Int → zz_S → zz_R) (v1 v2 v3 v4 : Int) (σ : zz_S) : zz_R := ((m_notes v4 0 (zz_h σ 40 1 0) σ).bind fun q1 => (k2 v1 v2 (zz_r (v3 + 1)) q1.2))
set_option maxRecDepth 100000 in
set_option maxHeartbeats 4000000 in
theorem ze_m_interrupts_97 (k2 : Int → Int → Int → zz_S → zz_R) (v1 v2 v3 v4 : Int) (σ : zz_S) : m_interrupts_97 k2 v1 v2 v3 v4 σ = zz_ev (zz_CE [(128, zw_m_notes)]) (zz_KE [(2, [(0, 42, true), (1, 0, false), (2, 0, false), (3, 0, false)], fun vs σ => match vs with | [b0, b1, b2] => k2 b0 b1 b2 σ | _ => none)]) zk_m_interrupts 999 false 0 1 400 true (zz_sk zk_m_interrupts 97) [(0, 42, 1), (1, 0, v1), (2, 0, v2), (3, 0, v3), (4, 0, v4)] [] σ := rfl
noncomputable def m_interrupts_36 (k2 : Int → Int → Int → zz_S → zz_R) (v1 v2 v3 : Int) (σ : zz_S) : zz_R := (if zz_b σ 75 1 v3 then ((m_frees v3 3 (zz_h σ 40 1 0) σ).bind fun q1 => (if v2 = 0 then (m_interrupts_97 k2 v1 v2 v3 (zz_h σ 75 1 v3) q1.2) else (if zz_b q1.2 44 1 (zz_h σ 75 1 v3) then (if (zz_h q1.2 44 1 (zz_h σ 75 1 v3)) = 2 then ((m_isActive (zz_h σ 75 1 v3) q1.2).bind fun q2 => (if q2.1 = 0 then (m_interrupts_97 k2 v1 v2 v3 (zz_h σ 75 1 v3) q2.2) else (if zz_b q2.2 46 1 (zz_h σ 75 1 v3) then (if zz_b q2.2 57 1 (zz_h σ 75 1 v3) then (let s3 := zz_w q2.2 57 1 (zz_h σ 75 1 v3) (zz_r ((zz_h q2.2 40 1 0) + (zz_h q2.2 46 1 (zz_h σ 75 1 v3)))); (m_interrupts_97 k2 v1 v2 v3 (zz_h σ 75 1 v3) s3)) else none) else none))) else (m_interrupts_97 k2 v1 v2 v3 (zz_h σ 75 1 v3) q1.2)) else none))) else none)
set_option maxRecDepth 100000 in
set_option maxHeartbeats 4000000 in
theorem ze_m_interrupts_36 (k2 : Int → Int → Int → zz_S → zz_R) (v1 v2 v3 : Int) (σ : zz_S) : m_interrupts_36 k2 v1 v2 v3 σ = zz_ev (zz_CE [(110, zw_m_isActive), (129, zw_m_frees)]) (zz_KE [(97, [(0, 42, true), (1, 0, false), (2, 0, false), (3, 0, false), (4, 0, false)], fun vs σ => match vs with | [b0, b1, b2, b3] => m_interrupts_97 k2 b0 b1 b2 b3 σ | _ => none)]) zk_m_interrupts 999 false 0 1 400 true (zz_sk zk_m_interrupts 36) [(0, 42, 1), (1, 0, v1), (2, 0, v2), (3, 0, v3)] [] σ := rfl
noncomputable def m_interrupts_2 : Nat → Int → Int → Int → zz_S → zz_R
  | 0, _, _, _, _ => none
  | n + 1, v1, v2, v3, σ => (if v3 < (zz_h σ 40 1 42) then (if zz_b σ 80 1 v3 then (if (zz_h σ 80 1 v3) = 0 then (if v2 = 0 then (if zz_b σ 75 1 v3 then (if (zz_h σ 75 1 v3) = v1 then (m_interrupts_36 (m_interrupts_2 n) v1 v2 v3 σ) else (m_interrupts_2 n v1 v2 (zz_r (v3 + 1)) σ)) else none) else (m_interrupts_36 (m_interrupts_2 n) v1 v2 v3 σ)) else (m_interrupts_2 n v1 v2 (zz_r (v3 + 1)) σ)) else none) else (some (0, σ)))
set_option maxRecDepth 100000 in
set_option maxHeartbeats 4000000 in
theorem ze_m_interrupts_2 (n : Nat) (v1 v2 v3 : Int) (σ : zz_S) : m_interrupts_2 (n + 1) v1 v2 v3 σ = zz_ev (zz_CE []) (zz_KE [(2, [(0, 42, true), (1, 0, false), (2, 0, false), (3, 0, false)], fun vs σ => match vs with | [b0, b1, b2] => m_interrupts_2 n b0 b1 b2 σ | _ => none), (36, [(0, 42, true), (1, 0, false), (2, 0, false), (3, 0, false)], fun vs σ => match vs with | [b0, b1, b2] => m_interrupts_36 (m_interrupts_2 n) b0 b1 b2 σ | _ => none)]) zk_m_interrupts 999 false 0 1 400 true (zz_sk zk_m_interrupts 2) [(0, 42, 1), (1, 0, v1), (2, 0, v2), (3, 0, v3)] [] σ := rfl
noncomputable def m_interrupts (v1 v2 : Int) (σ : zz_S) : zz_R := (m_interrupts_2 zz_fu v1 v2 0 σ)
set_option maxRecDepth 100000 in
set_option maxHeartbeats 4000000 in
theorem ze_m_interrupts (v1 v2 : Int) (σ : zz_S) : m_interrupts v1 v2 σ = zz_ev (zz_CE []) (zz_KE [(2, [(0, 42, true), (1, 0, false), (2, 0, false), (3, 0, false)], fun vs σ => match vs with | [b0, b1, b2] => m_interrupts_2 zz_fu b0 b1 b2 σ | _ => none)]) zk_m_interrupts 999 false 0 1 400 true (zz_sk zk_m_interrupts 0) [(0, 42, 1), (1, 0, v1), (2, 0, v2)] [] σ := rfl
noncomputable def zw_m_interrupts : List Int → zz_S → zz_R := fun vs σ => match vs with
  | [a0, a1, a2] => if a0 = 1 then m_interrupts a1 a2 σ else none
  | _ => none
def zk_m_planned : List zz_E := [(0, false, .iconst 0, 1, 0, (0, 0, 0, 0), 0, []),
  (1, false, .istore_n 3, 1, 0, (0, 0, 0, 0), 0, []),
  (2, true, .iload_n 3, 1, 0, (0, 0, 0, 0), 0, []),
  (3, false, .aload_n 0, 1, 0, (0, 0, 0, 0), 0, []),
  (4, false, .getfield 259, 3, 831, (40, 37, 0, 0), 0, []),
  (7, false, .if_icmp .ge 36, 3, 0, (43, 0, 0, 0), 0, []),
  (10, false, .aload_n 0, 1, 0, (0, 0, 0, 0), 0, []),
  (11, false, .getfield 108, 3, 832, (40, 38, 73, 1), 0, []),
  (14, false, .iload_n 3, 1, 0, (0, 0, 0, 0), 0, []),
  (15, false, .iaload, 1, 0, (71, 0, 0, 0), 0, []),
  (16, false, .iload_n 1, 1, 0, (0, 0, 0, 0), 0, []),
  (17, false, .if_icmp .ne 20, 3, 0, (37, 0, 0, 0), 0, []),
  (20, false, .aload_n 0, 1, 0, (0, 0, 0, 0), 0, []),
  (21, false, .getfield 111, 3, 833, (40, 39, 74, 1), 0, []),
  (24, false, .iload_n 3, 1, 0, (0, 0, 0, 0), 0, []),
  (25, false, .iaload, 1, 0, (72, 0, 0, 0), 0, []),
  (26, false, .iload_n 2, 1, 0, (0, 0, 0, 0), 0, []),
  (27, false, .if_icmp .ne 10, 3, 0, (37, 0, 0, 0), 0, []),
  (30, false, .aload_n 0, 1, 0, (0, 0, 0, 0), 0, []),
  (31, false, .getfield 114, 3, 834, (40, 40, 75, 1), 0, []),
  (34, false, .iload_n 3, 1, 0, (0, 0, 0, 0), 0, []),
  (35, false, .iaload, 1, 0, (73, 0, 0, 0), 0, []),
  (36, false, .ireturn, 1, 0, (0, 0, 0, 0), 0, []),
  (37, false, .iinc 3 1, 3, 0, (0, 0, 0, 0), 0, []),
  (40, false, .goto (-38), 3, 0, (2, 0, 0, 0), 0, []),
  (43, false, .iconst (-1), 1, 0, (0, 0, 0, 0), 0, []),
  (44, false, .ireturn, 1, 0, (0, 0, 0, 0), 0, [])]
noncomputable def m_planned_2 : Nat → Int → Int → Int → zz_S → zz_R
  | 0, _, _, _, _ => none
  | n + 1, v1, v2, v3, σ => (if v3 < (zz_h σ 40 1 37) then (if zz_b σ 71 1 v3 then (if (zz_h σ 71 1 v3) = v1 then (if zz_b σ 72 1 v3 then (if (zz_h σ 72 1 v3) = v2 then (if zz_b σ 73 1 v3 then (some ((zz_h σ 73 1 v3), σ)) else none) else (m_planned_2 n v1 v2 (zz_r (v3 + 1)) σ)) else none) else (m_planned_2 n v1 v2 (zz_r (v3 + 1)) σ)) else none) else (some ((-1), σ)))
set_option maxRecDepth 100000 in
set_option maxHeartbeats 4000000 in
theorem ze_m_planned_2 (n : Nat) (v1 v2 v3 : Int) (σ : zz_S) : m_planned_2 (n + 1) v1 v2 v3 σ = zz_ev (zz_CE []) (zz_KE [(2, [(0, 42, true), (1, 0, false), (2, 0, false), (3, 0, false)], fun vs σ => match vs with | [b0, b1, b2] => m_planned_2 n b0 b1 b2 σ | _ => none)]) zk_m_planned 0 false 0 1 400 true (zz_sk zk_m_planned 2) [(0, 42, 1), (1, 0, v1), (2, 0, v2), (3, 0, v3)] [] σ := rfl
noncomputable def m_planned (v1 v2 : Int) (σ : zz_S) : zz_R := (m_planned_2 zz_fu v1 v2 0 σ)
set_option maxRecDepth 100000 in
set_option maxHeartbeats 4000000 in
theorem ze_m_planned (v1 v2 : Int) (σ : zz_S) : m_planned v1 v2 σ = zz_ev (zz_CE []) (zz_KE [(2, [(0, 42, true), (1, 0, false), (2, 0, false), (3, 0, false)], fun vs σ => match vs with | [b0, b1, b2] => m_planned_2 zz_fu b0 b1 b2 σ | _ => none)]) zk_m_planned 0 false 0 1 400 true (zz_sk zk_m_planned 0) [(0, 42, 1), (1, 0, v1), (2, 0, v2)] [] σ := rfl
noncomputable def zw_m_planned : List Int → zz_S → zz_R := fun vs σ => match vs with
  | [a0, a1, a2] => if a0 = 1 then m_planned a1 a2 σ else none
  | _ => none
def zk_m_does : List zz_E := [(0, false, .aload_n 0, 1, 0, (0, 0, 0, 0), 0, []),
  (1, false, .getfield 56, 3, 814, (40, 20, 56, 1), 0, []),
  (4, false, .iload_n 2, 1, 0, (0, 0, 0, 0), 0, []),
  (5, false, .iaload, 1, 0, (54, 0, 0, 0), 0, []),
  (6, false, .istore 4, 2, 0, (0, 0, 0, 0), 0, []),
  (8, false, .aload_n 0, 1, 0, (0, 0, 0, 0), 0, []),
  (9, false, .getfield 59, 3, 815, (40, 21, 57, 1), 0, []),
  (12, false, .iload_n 2, 1, 0, (0, 0, 0, 0), 0, []),
  (13, false, .iaload, 1, 0, (55, 0, 0, 0), 0, []),
  (14, false, .bipush 7, 2, 0, (0, 0, 0, 0), 0, []),
  (16, false, .iand, 1, 0, (0, 0, 0, 0), 0, []),
  (17, false, .istore 5, 2, 0, (0, 0, 0, 0), 0, []),
  (19, false, .aload_n 0, 1, 0, (0, 0, 0, 0), 0, []),
  (20, false, .getfield 53, 3, 813, (40, 19, 55, 1), 0, []),
  (23, false, .iload_n 2, 1, 0, (0, 0, 0, 0), 0, []),
  (24, false, .iaload, 1, 0, (53, 0, 0, 0), 0, []),
  (25, false, .tableswitch 174 1 6 #[39, 53, 74, 96, 106, 143], 39, 0, (199, 0, 0, 0), 1, [64, 78, 99, 121, 131, 168]),
  (64, false, .aload_n 0, 1, 0, (0, 0, 0, 0), 0, []),
  (65, false, .getfield 117, 3, 835, (40, 41, 76, 1), 0, []),
  (68, false, .iload 5, 2, 0, (0, 0, 0, 0), 0, []),
  (70, false, .dup2, 1, 0, (0, 0, 0, 0), 0, []),
  (71, false, .iaload, 1, 0, (74, 0, 0, 0), 0, []),
  (72, false, .iload 4, 2, 0, (0, 0, 0, 0), 0, []),
  (74, false, .iadd, 1, 0, (0, 0, 0, 0), 0, []),
  (75, false, .iastore, 1, 0, (74, 0, 0, 0), 0, []),
  (76, false, .iconst (-1), 1, 0, (0, 0, 0, 0), 0, []),
  (77, false, .ireturn, 1, 0, (0, 0, 0, 0), 0, []),
  (78, false, .aload_n 0, 1, 0, (0, 0, 0, 0), 0, []),
  (79, false, .getfield 117, 3, 835, (40, 41, 76, 1), 0, []),
  (82, false, .iload 5, 2, 0, (0, 0, 0, 0), 0, []),
  (84, false, .iload 4, 2, 0, (0, 0, 0, 0), 0, []),
  (86, false, .aload_n 0, 1, 0, (0, 0, 0, 0), 0, []),
  (87, false, .getfield 117, 3, 835, (40, 41, 76, 1), 0, []),
  (90, false, .iload 5, 2, 0, (0, 0, 0, 0), 0, []),
  (92, false, .iaload, 1, 0, (74, 0, 0, 0), 0, []),
  (93, false, .imul, 1, 0, (0, 0, 0, 0), 0, []),
  (94, false, .iload_n 1, 1, 0, (0, 0, 0, 0), 0, []),
  (95, false, .iadd, 1, 0, (0, 0, 0, 0), 0, []),
  (96, false, .iastore, 1, 0, (74, 0, 0, 0), 0, []),
  (97, false, .iconst (-1), 1, 0, (0, 0, 0, 0), 0, []),
  (98, false, .ireturn, 1, 0, (0, 0, 0, 0), 0, []),
  (99, false, .aload_n 0, 1, 0, (0, 0, 0, 0), 0, []),
  (100, false, .getfield 117, 3, 835, (40, 41, 76, 1), 0, []),
  (103, false, .iload 5, 2, 0, (0, 0, 0, 0), 0, []),
  (105, false, .iaload, 1, 0, (74, 0, 0, 0), 0, []),
  (106, false, .iconst 1, 1, 0, (0, 0, 0, 0), 0, []),
  (107, false, .iand, 1, 0, (0, 0, 0, 0), 0, []),
  (108, false, .ifCond .eq 11, 3, 0, (119, 0, 0, 0), 0, []),
  (111, false, .iload 4, 2, 0, (0, 0, 0, 0), 0, []),
  (113, false, .bipush 15, 2, 0, (0, 0, 0, 0), 0, []),
  (115, false, .iand, 1, 0, (0, 0, 0, 0), 0, []),
  (116, false, .goto 4, 3, 0, (120, 0, 0, 0), 0, []),
  (119, false, .iconst (-1), 1, 0, (0, 0, 0, 0), 0, []),
  (120, false, .ireturn, 1, 0, (0, 0, 0, 0), 0, []),
  (121, false, .aload_n 0, 1, 0, (0, 0, 0, 0), 0, []),
  (122, false, .getfield 117, 3, 835, (40, 41, 76, 1), 0, []),
  (125, false, .iload 5, 2, 0, (0, 0, 0, 0), 0, []),
  (127, false, .iload_n 3, 1, 0, (0, 0, 0, 0), 0, []),
  (128, false, .iastore, 1, 0, (74, 0, 0, 0), 0, []),
  (129, false, .iconst (-1), 1, 0, (0, 0, 0, 0), 0, []),
  (130, false, .ireturn, 1, 0, (0, 0, 0, 0), 0, []),
  (131, false, .aload_n 0, 1, 0, (0, 0, 0, 0), 0, []),
  (132, false, .iload 4, 2, 0, (0, 0, 0, 0), 0, []),
  (134, false, .invokevirtual 262, 3, 1017, (109, 2, 0, 0), 0, [0, 42]),
  (137, false, .ifCond .eq 12, 3, 0, (149, 0, 0, 0), 0, []),
  (140, false, .aload_n 0, 1, 0, (0, 0, 0, 0), 0, []),
  (141, false, .iload 4, 2, 0, (0, 0, 0, 0), 0, []),
  (143, false, .invokevirtual 241, 3, 1024, (110, 2, 0, 0), 0, [0, 42]),
  (146, false, .ifCond .ne 6, 3, 0, (152, 0, 0, 0), 0, []),
  (149, false, .bipush 14, 2, 0, (0, 0, 0, 0), 0, []),
  (151, false, .ireturn, 1, 0, (0, 0, 0, 0), 0, []),
  (152, false, .aload_n 0, 1, 0, (0, 0, 0, 0), 0, []),
  (153, false, .getfield 62, 3, 816, (40, 22, 58, 1), 0, []),
  (156, false, .iload 4, 2, 0, (0, 0, 0, 0), 0, []),
  (158, false, .iconst 3, 1, 0, (0, 0, 0, 0), 0, []),
  (159, false, .iastore, 1, 0, (56, 0, 0, 0), 0, []),
  (160, false, .aload_n 0, 1, 0, (0, 0, 0, 0), 0, []),
  (161, false, .iload 4, 2, 0, (0, 0, 0, 0), 0, []),
  (163, false, .invokevirtual 265, 3, 1028, (127, 2, 999, 0), 0, [0, 42]),
  (166, false, .iconst (-1), 1, 0, (0, 0, 0, 0), 0, []),
  (167, false, .ireturn, 1, 0, (0, 0, 0, 0), 0, []),
  (168, false, .aload_n 0, 1, 0, (0, 0, 0, 0), 0, []),
  (169, false, .iload 4, 2, 0, (0, 0, 0, 0), 0, []),
  (171, false, .invokevirtual 262, 3, 1017, (109, 2, 0, 0), 0, [0, 42]),
  (174, false, .ifCond .eq 12, 3, 0, (186, 0, 0, 0), 0, []),
  (177, false, .aload_n 0, 1, 0, (0, 0, 0, 0), 0, []),
  (178, false, .iload 4, 2, 0, (0, 0, 0, 0), 0, []),
  (180, false, .invokevirtual 241, 3, 1024, (110, 2, 0, 0), 0, [0, 42]),
  (183, false, .ifCond .ne 6, 3, 0, (189, 0, 0, 0), 0, []),
  (186, false, .bipush 14, 2, 0, (0, 0, 0, 0), 0, []),
  (188, false, .ireturn, 1, 0, (0, 0, 0, 0), 0, []),
  (189, false, .aload_n 0, 1, 0, (0, 0, 0, 0), 0, []),
  (190, false, .getfield 84, 3, 823, (40, 29, 65, 1), 0, []),
  (193, false, .iload 4, 2, 0, (0, 0, 0, 0), 0, []),
  (195, false, .iconst 1, 1, 0, (0, 0, 0, 0), 0, []),
  (196, false, .bastore, 1, 0, (63, 0, 0, 0), 0, []),
  (197, false, .iconst (-1), 1, 0, (0, 0, 0, 0), 0, []),
  (198, false, .ireturn, 1, 0, (0, 0, 0, 0), 0, []),
  (199, false, .iconst (-1), 1, 0, (0, 0, 0, 0), 0, []),
  (200, false, .ireturn, 1, 0, (0, 0, 0, 0), 0, [])]
noncomputable def m_does (v1 v2 v3 : Int) (σ : zz_S) : zz_R := (if zz_b σ 54 1 v2 then (if zz_b σ 55 1 v2 then (if zz_b σ 53 1 v2 then (if (zz_h σ 53 1 v2) = 1 then (if zz_b σ 74 1 (zz_and (zz_h σ 55 1 v2) 7) then (if zz_b σ 74 1 (zz_and (zz_h σ 55 1 v2) 7) then (let s10 := zz_w σ 74 1 (zz_and (zz_h σ 55 1 v2) 7) (zz_r ((zz_h σ 74 1 (zz_and (zz_h σ 55 1 v2) 7)) + (zz_h σ 54 1 v2))); (some ((-1), s10))) else none) else none) else (if (zz_h σ 53 1 v2) = 2 then (if zz_b σ 74 1 (zz_and (zz_h σ 55 1 v2) 7) then (if zz_b σ 74 1 (zz_and (zz_h σ 55 1 v2) 7) then (let s9 := zz_w σ 74 1 (zz_and (zz_h σ 55 1 v2) 7) (zz_r ((zz_r ((zz_h σ 54 1 v2) * (zz_h σ 74 1 (zz_and (zz_h σ 55 1 v2) 7)))) + v1)); (some ((-1), s9))) else none) else none) else (if (zz_h σ 53 1 v2) = 3 then (if zz_b σ 74 1 (zz_and (zz_h σ 55 1 v2) 7) then (if (zz_and (zz_h σ 74 1 (zz_and (zz_h σ 55 1 v2) 7)) 1) = 0 then (some ((-1), σ)) else (some ((zz_and (zz_h σ 54 1 v2) 15), σ))) else none) else (if (zz_h σ 53 1 v2) = 4 then (if zz_b σ 74 1 (zz_and (zz_h σ 55 1 v2) 7) then (let s8 := zz_w σ 74 1 (zz_and (zz_h σ 55 1 v2) 7) v3; (some ((-1), s8))) else none) else (if (zz_h σ 53 1 v2) = 5 then ((m_isTask (zz_h σ 54 1 v2) σ).bind fun q4 => (if q4.1 = 0 then (some (14, q4.2)) else ((m_isActive (zz_h σ 54 1 v2) q4.2).bind fun q5 => (if q5.1 = 0 then (some (14, q5.2)) else (if zz_b q5.2 56 1 (zz_h σ 54 1 v2) then (let s6 := zz_w q5.2 56 1 (zz_h σ 54 1 v2) 3; ((m_dropDues (zz_h σ 54 1 v2) s6).bind fun q7 => (some ((-1), q7.2)))) else none))))) else (if (zz_h σ 53 1 v2) = 6 then ((m_isTask (zz_h σ 54 1 v2) σ).bind fun q1 => (if q1.1 = 0 then (some (14, q1.2)) else ((m_isActive (zz_h σ 54 1 v2) q1.2).bind fun q2 => (if q2.1 = 0 then (some (14, q2.2)) else (if zz_b q2.2 63 1 (zz_h σ 54 1 v2) then (let s3 := zz_w q2.2 63 1 (zz_h σ 54 1 v2) 1; (some ((-1), s3))) else none))))) else (some ((-1), σ)))))))) else none) else none) else none)
set_option maxRecDepth 100000 in
set_option maxHeartbeats 4000000 in
theorem ze_m_does (v1 v2 v3 : Int) (σ : zz_S) : m_does v1 v2 v3 σ = zz_ev (zz_CE [(109, zw_m_isTask), (110, zw_m_isActive), (127, zw_m_dropDues)]) (zz_KE []) zk_m_does 0 false 0 1 400 true (zz_sk zk_m_does 0) [(0, 42, 1), (1, 0, v1), (2, 0, v2), (3, 0, v3)] [] σ := rfl
noncomputable def zw_m_does : List Int → zz_S → zz_R := fun vs σ => match vs with
  | [a0, a1, a2, a3] => if a0 = 1 then m_does a1 a2 a3 σ else none
  | _ => none
def zk_m_failed : List zz_E := [(0, false, .aload_n 0, 1, 0, (0, 0, 0, 0), 0, []),
  (1, false, .getfield 50, 3, 812, (40, 18, 54, 1), 0, []),
  (4, false, .iload_n 1, 1, 0, (0, 0, 0, 0), 0, []),
  (5, false, .iaload, 1, 0, (52, 0, 0, 0), 0, []),
  (6, false, .ifCond .ne 18, 3, 0, (24, 0, 0, 0), 0, []),
  (9, false, .aload_n 0, 1, 0, (0, 0, 0, 0), 0, []),
  (10, false, .getfield 62, 3, 816, (40, 22, 58, 1), 0, []),
  (13, false, .iload_n 1, 1, 0, (0, 0, 0, 0), 0, []),
  (14, false, .iconst 4, 1, 0, (0, 0, 0, 0), 0, []),
  (15, false, .iastore, 1, 0, (56, 0, 0, 0), 0, []),
  (16, false, .aload_n 0, 1, 0, (0, 0, 0, 0), 0, []),
  (17, false, .iload_n 1, 1, 0, (0, 0, 0, 0), 0, []),
  (18, false, .invokevirtual 265, 3, 1028, (127, 2, 999, 0), 0, [0, 42]),
  (21, false, .goto 72, 3, 0, (93, 0, 0, 0), 0, []),
  (24, false, .aload_n 0, 1, 0, (0, 0, 0, 0), 0, []),
  (25, false, .getfield 50, 3, 812, (40, 18, 54, 1), 0, []),
  (28, false, .iload_n 1, 1, 0, (0, 0, 0, 0), 0, []),
  (29, false, .iaload, 1, 0, (52, 0, 0, 0), 0, []),
  (30, false, .iconst 2, 1, 0, (0, 0, 0, 0), 0, []),
  (31, false, .if_icmp .ne 62, 3, 0, (93, 0, 0, 0), 0, []),
  (34, false, .aload_n 0, 1, 0, (0, 0, 0, 0), 0, []),
  (35, false, .getfield 71, 3, 819, (40, 25, 61, 1), 0, []),
  (38, false, .iload_n 1, 1, 0, (0, 0, 0, 0), 0, []),
  (39, false, .iaload, 1, 0, (59, 0, 0, 0), 0, []),
  (40, false, .bipush 6, 2, 0, (0, 0, 0, 0), 0, []),
  (42, false, .if_icmp .le 8, 3, 0, (50, 0, 0, 0), 0, []),
  (45, false, .bipush 64, 2, 0, (0, 0, 0, 0), 0, []),
  (47, false, .goto 13, 3, 0, (60, 0, 0, 0), 0, []),
  (50, false, .iconst 1, 1, 0, (0, 0, 0, 0), 0, []),
  (51, false, .aload_n 0, 1, 0, (0, 0, 0, 0), 0, []),
  (52, false, .getfield 71, 3, 819, (40, 25, 61, 1), 0, []),
  (55, false, .iload_n 1, 1, 0, (0, 0, 0, 0), 0, []),
  (56, false, .iaload, 1, 0, (59, 0, 0, 0), 0, []),
  (57, false, .iconst 1, 1, 0, (0, 0, 0, 0), 0, []),
  (58, false, .isub, 1, 0, (0, 0, 0, 0), 0, []),
  (59, false, .ishl, 1, 0, (0, 0, 0, 0), 0, []),
  (60, false, .istore_n 3, 1, 0, (0, 0, 0, 0), 0, []),
  (61, false, .aload_n 0, 1, 0, (0, 0, 0, 0), 0, []),
  (62, false, .getfield 26, 3, 804, (40, 10, 46, 1), 0, []),
  (65, false, .iload_n 1, 1, 0, (0, 0, 0, 0), 0, []),
  (66, false, .iaload, 1, 0, (44, 0, 0, 0), 0, []),
  (67, false, .iconst 2, 1, 0, (0, 0, 0, 0), 0, []),
  (68, false, .if_icmp .ne 16, 3, 0, (84, 0, 0, 0), 0, []),
  (71, false, .aload_n 0, 1, 0, (0, 0, 0, 0), 0, []),
  (72, false, .getfield 65, 3, 817, (40, 23, 59, 1), 0, []),
  (75, false, .iload_n 1, 1, 0, (0, 0, 0, 0), 0, []),
  (76, false, .dup2, 1, 0, (0, 0, 0, 0), 0, []),
  (77, false, .iaload, 1, 0, (57, 0, 0, 0), 0, []),
  (78, false, .iload_n 3, 1, 0, (0, 0, 0, 0), 0, []),
  (79, false, .iadd, 1, 0, (0, 0, 0, 0), 0, []),
  (80, false, .iastore, 1, 0, (57, 0, 0, 0), 0, []),
  (81, false, .goto 12, 3, 0, (93, 0, 0, 0), 0, []),
  (84, false, .aload_n 0, 1, 0, (0, 0, 0, 0), 0, []),
  (85, false, .getfield 74, 3, 820, (40, 26, 62, 1), 0, []),
  (88, false, .iload_n 1, 1, 0, (0, 0, 0, 0), 0, []),
  (89, false, .iload_n 2, 1, 0, (0, 0, 0, 0), 0, []),
  (90, false, .iload_n 3, 1, 0, (0, 0, 0, 0), 0, []),
  (91, false, .iadd, 1, 0, (0, 0, 0, 0), 0, []),
  (92, false, .iastore, 1, 0, (60, 0, 0, 0), 0, []),
  (93, false, .return_, 1, 0, (0, 0, 0, 0), 0, [])]
noncomputable def m_failed (v1 v2 : Int) (σ : zz_S) : zz_R := (if zz_b σ 52 1 v1 then (if (zz_h σ 52 1 v1) = 0 then (if zz_b σ 56 1 v1 then (let s1 := zz_w σ 56 1 v1 4; ((m_dropDues v1 s1).bind fun q2 => (some (0, q2.2)))) else none) else (if zz_b σ 52 1 v1 then (if (zz_h σ 52 1 v1) = 2 then (if zz_b σ 59 1 v1 then (if (zz_h σ 59 1 v1) ≤ 6 then (if zz_b σ 59 1 v1 then (if zz_b σ 44 1 v1 then (if (zz_h σ 44 1 v1) = 2 then (if zz_b σ 57 1 v1 then (if zz_b σ 57 1 v1 then (let s3 := zz_w σ 57 1 v1 (zz_r ((zz_h σ 57 1 v1) + (zz_shl 1 (zz_r ((zz_h σ 59 1 v1) - 1))))); (some (0, s3))) else none) else none) else (if zz_b σ 60 1 v1 then (let s4 := zz_w σ 60 1 v1 (zz_r (v2 + (zz_shl 1 (zz_r ((zz_h σ 59 1 v1) - 1))))); (some (0, s4))) else none)) else none) else none) else (if zz_b σ 44 1 v1 then (if (zz_h σ 44 1 v1) = 2 then (if zz_b σ 57 1 v1 then (if zz_b σ 57 1 v1 then (let s5 := zz_w σ 57 1 v1 (zz_r ((zz_h σ 57 1 v1) + 64)); (some (0, s5))) else none) else none) else (if zz_b σ 60 1 v1 then (let s6 := zz_w σ 60 1 v1 (zz_r (v2 + 64)); (some (0, s6))) else none)) else none)) else none) else (some (0, σ))) else none)) else none)
set_option maxRecDepth 100000 in
set_option maxHeartbeats 4000000 in
theorem ze_m_failed (v1 v2 : Int) (σ : zz_S) : m_failed v1 v2 σ = zz_ev (zz_CE [(127, zw_m_dropDues)]) (zz_KE []) zk_m_failed 999 false 0 1 400 true (zz_sk zk_m_failed 0) [(0, 42, 1), (1, 0, v1), (2, 0, v2)] [] σ := rfl
noncomputable def zw_m_failed : List Int → zz_S → zz_R := fun vs σ => match vs with
  | [a0, a1, a2] => if a0 = 1 then m_failed a1 a2 σ else none
  | _ => none
def zk_m_ends : List zz_E := [(0, false, .aload_n 0, 1, 0, (0, 0, 0, 0), 0, []),
  (1, false, .getfield 120, 3, 837, (40, 43, 77, 1), 0, []),
  (4, false, .iload_n 1, 1, 0, (0, 0, 0, 0), 0, []),
  (5, false, .iaload, 1, 0, (75, 0, 0, 0), 0, []),
  (6, false, .istore_n 3, 1, 0, (0, 0, 0, 0), 0, []),
  (7, false, .aload_n 0, 1, 0, (0, 0, 0, 0), 0, []),
  (8, false, .iload_n 3, 1, 0, (0, 0, 0, 0), 0, []),
  (9, false, .aload_n 0, 1, 0, (0, 0, 0, 0), 0, []),
  (10, false, .getfield 147, 3, 846, (40, 52, 86, 1), 0, []),
  (13, false, .iload_n 1, 1, 0, (0, 0, 0, 0), 0, []),
  (14, false, .iaload, 1, 0, (84, 0, 0, 0), 0, []),
  (15, false, .invokevirtual 268, 3, 1009, (131, 3, 0, 0), 0, [0, 0, 42]),
  (18, false, .istore 4, 2, 0, (0, 0, 0, 0), 0, []),
  (20, false, .iload 4, 2, 0, (0, 0, 0, 0), 0, []),
  (22, false, .iconst (-1), 1, 0, (0, 0, 0, 0), 0, []),
  (23, false, .if_icmp .ne 12, 3, 0, (35, 0, 0, 0), 0, []),
  (26, false, .aload_n 0, 1, 0, (0, 0, 0, 0), 0, []),
  (27, false, .iload_n 1, 1, 0, (0, 0, 0, 0), 0, []),
  (28, false, .iload_n 3, 1, 0, (0, 0, 0, 0), 0, []),
  (29, false, .iload_n 2, 1, 0, (0, 0, 0, 0), 0, []),
  (30, false, .invokevirtual 271, 3, 1013, (132, 4, 0, 0), 0, [0, 0, 0, 42]),
  (33, false, .istore 4, 2, 0, (0, 0, 0, 0), 0, []),
  (35, true, .iload 4, 2, 0, (0, 0, 0, 0), 0, []),
  (37, false, .iconst (-1), 1, 0, (0, 0, 0, 0), 0, []),
  (38, false, .if_icmp .ne 7, 3, 0, (45, 0, 0, 0), 0, []),
  (41, false, .iconst 1, 1, 0, (0, 0, 0, 0), 0, []),
  (42, false, .goto 4, 3, 0, (46, 0, 0, 0), 0, []),
  (45, false, .iconst 0, 1, 0, (0, 0, 0, 0), 0, []),
  (46, false, .istore 5, 2, 0, (0, 0, 0, 0), 0, []),
  (48, false, .aload_n 0, 1, 0, (0, 0, 0, 0), 0, []),
  (49, false, .iload_n 1, 1, 0, (0, 0, 0, 0), 0, []),
  (50, false, .iload 5, 2, 0, (0, 0, 0, 0), 0, []),
  (52, false, .ifCond .eq 7, 3, 0, (59, 0, 0, 0), 0, []),
  (55, false, .iconst 1, 1, 0, (0, 0, 0, 0), 0, []),
  (56, false, .goto 4, 3, 0, (60, 0, 0, 0), 0, []),
  (59, false, .iconst 2, 1, 0, (0, 0, 0, 0), 0, []),
  (60, false, .iload_n 2, 1, 0, (0, 0, 0, 0), 0, []),
  (61, false, .invokevirtual 253, 3, 1036, (129, 4, 999, 0), 0, [0, 0, 0, 42]),
  (64, false, .aload_n 0, 1, 0, (0, 0, 0, 0), 0, []),
  (65, false, .getfield 138, 3, 843, (40, 49, 83, 1), 0, []),
  (68, false, .iload_n 1, 1, 0, (0, 0, 0, 0), 0, []),
  (69, false, .iload 4, 2, 0, (0, 0, 0, 0), 0, []),
  (71, false, .iastore, 1, 0, (81, 0, 0, 0), 0, []),
  (72, false, .aload_n 0, 1, 0, (0, 0, 0, 0), 0, []),
  (73, false, .iload_n 3, 1, 0, (0, 0, 0, 0), 0, []),
  (74, false, .invokevirtual 241, 3, 1024, (110, 2, 0, 0), 0, [0, 42]),
  (77, false, .istore 6, 2, 0, (0, 0, 0, 0), 0, []),
  (79, false, .iload 6, 2, 0, (0, 0, 0, 0), 0, []),
  (81, false, .ifCond .eq 27, 3, 0, (108, 0, 0, 0), 0, []),
  (84, false, .aload_n 0, 1, 0, (0, 0, 0, 0), 0, []),
  (85, false, .getfield 26, 3, 804, (40, 10, 46, 1), 0, []),
  (88, false, .iload_n 3, 1, 0, (0, 0, 0, 0), 0, []),
  (89, false, .iaload, 1, 0, (44, 0, 0, 0), 0, []),
  (90, false, .iconst 2, 1, 0, (0, 0, 0, 0), 0, []),
  (91, false, .if_icmp .ne 17, 3, 0, (108, 0, 0, 0), 0, []),
  (94, false, .aload_n 0, 1, 0, (0, 0, 0, 0), 0, []),
  (95, false, .getfield 65, 3, 817, (40, 23, 59, 1), 0, []),
  (98, false, .iload_n 3, 1, 0, (0, 0, 0, 0), 0, []),
  (99, false, .iload_n 2, 1, 0, (0, 0, 0, 0), 0, []),
  (100, false, .aload_n 0, 1, 0, (0, 0, 0, 0), 0, []),
  (101, false, .getfield 32, 3, 806, (40, 12, 48, 1), 0, []),
  (104, false, .iload_n 3, 1, 0, (0, 0, 0, 0), 0, []),
  (105, false, .iaload, 1, 0, (46, 0, 0, 0), 0, []),
  (106, false, .iadd, 1, 0, (0, 0, 0, 0), 0, []),
  (107, false, .iastore, 1, 0, (57, 0, 0, 0), 0, []),
  (108, true, .iload 5, 2, 0, (0, 0, 0, 0), 0, []),
  (110, false, .ifCond .eq 13, 3, 0, (123, 0, 0, 0), 0, []),
  (113, false, .aload_n 0, 1, 0, (0, 0, 0, 0), 0, []),
  (114, false, .getfield 71, 3, 819, (40, 25, 61, 1), 0, []),
  (117, false, .iload_n 3, 1, 0, (0, 0, 0, 0), 0, []),
  (118, false, .iconst 0, 1, 0, (0, 0, 0, 0), 0, []),
  (119, false, .iastore, 1, 0, (59, 0, 0, 0), 0, []),
  (120, false, .goto 24, 3, 0, (144, 0, 0, 0), 0, []),
  (123, false, .aload_n 0, 1, 0, (0, 0, 0, 0), 0, []),
  (124, false, .getfield 71, 3, 819, (40, 25, 61, 1), 0, []),
  (127, false, .iload_n 3, 1, 0, (0, 0, 0, 0), 0, []),
  (128, false, .dup2, 1, 0, (0, 0, 0, 0), 0, []),
  (129, false, .iaload, 1, 0, (59, 0, 0, 0), 0, []),
  (130, false, .iconst 1, 1, 0, (0, 0, 0, 0), 0, []),
  (131, false, .iadd, 1, 0, (0, 0, 0, 0), 0, []),
  (132, false, .iastore, 1, 0, (59, 0, 0, 0), 0, []),
  (133, false, .iload 6, 2, 0, (0, 0, 0, 0), 0, []),
  (135, false, .ifCond .eq 9, 3, 0, (144, 0, 0, 0), 0, []),
  (138, false, .aload_n 0, 1, 0, (0, 0, 0, 0), 0, []),
  (139, false, .iload_n 3, 1, 0, (0, 0, 0, 0), 0, []),
  (140, false, .iload_n 2, 1, 0, (0, 0, 0, 0), 0, []),
  (141, false, .invokevirtual 275, 3, 1040, (134, 3, 999, 0), 0, [0, 0, 42]),
  (144, false, .aload_n 0, 1, 0, (0, 0, 0, 0), 0, []),
  (145, false, .iload_n 3, 1, 0, (0, 0, 0, 0), 0, []),
  (146, false, .iload 5, 2, 0, (0, 0, 0, 0), 0, []),
  (148, false, .iload_n 2, 1, 0, (0, 0, 0, 0), 0, []),
  (149, false, .invokevirtual 256, 3, 1044, (128, 4, 999, 0), 0, [0, 0, 0, 42]),
  (152, false, .return_, 1, 0, (0, 0, 0, 0), 0, [])]
noncomputable def m_ends_108 (v2 v3 v5 v6 : Int) (σ : zz_S) : zz_R := (if v5 = 0 then (if zz_b σ 59 1 v3 then (if zz_b σ 59 1 v3 then (let s1 := zz_w σ 59 1 v3 (zz_r ((zz_h σ 59 1 v3) + 1)); (if v6 = 0 then ((m_notes v3 v5 v2 s1).bind fun q2 => (some (0, q2.2))) else ((m_failed v3 v2 s1).bind fun q3 => ((m_notes v3 v5 v2 q3.2).bind fun q4 => (some (0, q4.2)))))) else none) else none) else (if zz_b σ 59 1 v3 then (let s5 := zz_w σ 59 1 v3 0; ((m_notes v3 v5 v2 s5).bind fun q6 => (some (0, q6.2)))) else none))
set_option maxRecDepth 100000 in
set_option maxHeartbeats 4000000 in
theorem ze_m_ends_108 (v2 v3 v5 v6 : Int) (σ : zz_S) : m_ends_108 v2 v3 v5 v6 σ = zz_ev (zz_CE [(128, zw_m_notes), (134, zw_m_failed)]) (zz_KE []) zk_m_ends 999 false 0 1 400 true (zz_sk zk_m_ends 108) [(0, 42, 1), (2, 0, v2), (3, 0, v3), (5, 0, v5), (6, 0, v6)] [] σ := rfl
noncomputable def m_ends_35 (v1 v2 v3 v4 : Int) (σ : zz_S) : zz_R := (if v4 = (-1) then ((m_frees v1 1 v2 σ).bind fun q1 => (if zz_b q1.2 81 1 v1 then (let s2 := zz_w q1.2 81 1 v1 v4; ((m_isActive v3 s2).bind fun q3 => (if q3.1 = 0 then (m_ends_108 v2 v3 1 q3.1 q3.2) else (if zz_b q3.2 44 1 v3 then (if (zz_h q3.2 44 1 v3) = 2 then (if zz_b q3.2 46 1 v3 then (if zz_b q3.2 57 1 v3 then (let s4 := zz_w q3.2 57 1 v3 (zz_r (v2 + (zz_h q3.2 46 1 v3))); (m_ends_108 v2 v3 1 q3.1 s4)) else none) else none) else (m_ends_108 v2 v3 1 q3.1 q3.2)) else none)))) else none)) else ((m_frees v1 2 v2 σ).bind fun q5 => (if zz_b q5.2 81 1 v1 then (let s6 := zz_w q5.2 81 1 v1 v4; ((m_isActive v3 s6).bind fun q7 => (if q7.1 = 0 then (m_ends_108 v2 v3 0 q7.1 q7.2) else (if zz_b q7.2 44 1 v3 then (if (zz_h q7.2 44 1 v3) = 2 then (if zz_b q7.2 46 1 v3 then (if zz_b q7.2 57 1 v3 then (let s8 := zz_w q7.2 57 1 v3 (zz_r (v2 + (zz_h q7.2 46 1 v3))); (m_ends_108 v2 v3 0 q7.1 s8)) else none) else none) else (m_ends_108 v2 v3 0 q7.1 q7.2)) else none)))) else none)))
set_option maxRecDepth 100000 in
set_option maxHeartbeats 4000000 in
theorem ze_m_ends_35 (v1 v2 v3 v4 : Int) (σ : zz_S) : m_ends_35 v1 v2 v3 v4 σ = zz_ev (zz_CE [(110, zw_m_isActive), (129, zw_m_frees)]) (zz_KE [(108, [(0, 42, true), (2, 0, false), (3, 0, false), (5, 0, false), (6, 0, false)], fun vs σ => match vs with | [b0, b1, b2, b3] => m_ends_108 b0 b1 b2 b3 σ | _ => none)]) zk_m_ends 999 false 0 1 400 true (zz_sk zk_m_ends 35) [(0, 42, 1), (1, 0, v1), (2, 0, v2), (3, 0, v3), (4, 0, v4)] [] σ := rfl
noncomputable def m_ends (v1 v2 : Int) (σ : zz_S) : zz_R := (if zz_b σ 75 1 v1 then (if zz_b σ 84 1 v1 then ((m_planned (zz_h σ 75 1 v1) (zz_h σ 84 1 v1) σ).bind fun q1 => (if q1.1 = (-1) then ((m_does v1 (zz_h σ 75 1 v1) v2 q1.2).bind fun q2 => (m_ends_35 v1 v2 (zz_h σ 75 1 v1) q2.1 q2.2)) else (m_ends_35 v1 v2 (zz_h σ 75 1 v1) q1.1 q1.2))) else none) else none)
set_option maxRecDepth 100000 in
set_option maxHeartbeats 4000000 in
theorem ze_m_ends (v1 v2 : Int) (σ : zz_S) : m_ends v1 v2 σ = zz_ev (zz_CE [(131, zw_m_planned), (132, zw_m_does)]) (zz_KE [(35, [(0, 42, true), (1, 0, false), (2, 0, false), (3, 0, false), (4, 0, false)], fun vs σ => match vs with | [b0, b1, b2, b3] => m_ends_35 b0 b1 b2 b3 σ | _ => none)]) zk_m_ends 999 false 0 1 400 true (zz_sk zk_m_ends 0) [(0, 42, 1), (1, 0, v1), (2, 0, v2)] [] σ := rfl
noncomputable def zw_m_ends : List Int → zz_S → zz_R := fun vs σ => match vs with
  | [a0, a1, a2] => if a0 = 1 then m_ends a1 a2 σ else none
  | _ => none
def zk_m_isDue : List zz_E := [(0, false, .aload_n 0, 1, 0, (0, 0, 0, 0), 0, []),
  (1, false, .getfield 26, 3, 804, (40, 10, 46, 1), 0, []),
  (4, false, .iload_n 1, 1, 0, (0, 0, 0, 0), 0, []),
  (5, false, .iaload, 1, 0, (44, 0, 0, 0), 0, []),
  (6, false, .tableswitch 129 0 3 #[30, 46, 80, 96], 30, 0, (135, 0, 0, 0), 0, [36, 52, 86, 102]),
  (36, false, .aload_n 0, 1, 0, (0, 0, 0, 0), 0, []),
  (37, false, .getfield 29, 3, 805, (40, 11, 47, 1), 0, []),
  (40, false, .iload_n 1, 1, 0, (0, 0, 0, 0), 0, []),
  (41, false, .iaload, 1, 0, (45, 0, 0, 0), 0, []),
  (42, false, .iload_n 2, 1, 0, (0, 0, 0, 0), 0, []),
  (43, false, .if_icmp .ne 7, 3, 0, (50, 0, 0, 0), 0, []),
  (46, false, .iconst 1, 1, 0, (0, 0, 0, 0), 0, []),
  (47, false, .goto 4, 3, 0, (51, 0, 0, 0), 0, []),
  (50, false, .iconst 0, 1, 0, (0, 0, 0, 0), 0, []),
  (51, false, .ireturn, 1, 0, (0, 0, 0, 0), 0, []),
  (52, false, .iload_n 2, 1, 0, (0, 0, 0, 0), 0, []),
  (53, false, .aload_n 0, 1, 0, (0, 0, 0, 0), 0, []),
  (54, false, .getfield 29, 3, 805, (40, 11, 47, 1), 0, []),
  (57, false, .iload_n 1, 1, 0, (0, 0, 0, 0), 0, []),
  (58, false, .iaload, 1, 0, (45, 0, 0, 0), 0, []),
  (59, false, .if_icmp .lt 25, 3, 0, (84, 0, 0, 0), 0, []),
  (62, false, .iload_n 2, 1, 0, (0, 0, 0, 0), 0, []),
  (63, false, .aload_n 0, 1, 0, (0, 0, 0, 0), 0, []),
  (64, false, .getfield 29, 3, 805, (40, 11, 47, 1), 0, []),
  (67, false, .iload_n 1, 1, 0, (0, 0, 0, 0), 0, []),
  (68, false, .iaload, 1, 0, (45, 0, 0, 0), 0, []),
  (69, false, .isub, 1, 0, (0, 0, 0, 0), 0, []),
  (70, false, .aload_n 0, 1, 0, (0, 0, 0, 0), 0, []),
  (71, false, .getfield 32, 3, 806, (40, 12, 48, 1), 0, []),
  (74, false, .iload_n 1, 1, 0, (0, 0, 0, 0), 0, []),
  (75, false, .iaload, 1, 0, (46, 0, 0, 0), 0, []),
  (76, false, .irem, 1, 0, (0, 0, 0, 0), 0, []),
  (77, false, .ifCond .ne 7, 3, 0, (84, 0, 0, 0), 0, []),
  (80, false, .iconst 1, 1, 0, (0, 0, 0, 0), 0, []),
  (81, false, .goto 4, 3, 0, (85, 0, 0, 0), 0, []),
  (84, false, .iconst 0, 1, 0, (0, 0, 0, 0), 0, []),
  (85, false, .ireturn, 1, 0, (0, 0, 0, 0), 0, []),
  (86, false, .aload_n 0, 1, 0, (0, 0, 0, 0), 0, []),
  (87, false, .getfield 65, 3, 817, (40, 23, 59, 1), 0, []),
  (90, false, .iload_n 1, 1, 0, (0, 0, 0, 0), 0, []),
  (91, false, .iaload, 1, 0, (57, 0, 0, 0), 0, []),
  (92, false, .iload_n 2, 1, 0, (0, 0, 0, 0), 0, []),
  (93, false, .if_icmp .ne 7, 3, 0, (100, 0, 0, 0), 0, []),
  (96, false, .iconst 1, 1, 0, (0, 0, 0, 0), 0, []),
  (97, false, .goto 4, 3, 0, (101, 0, 0, 0), 0, []),
  (100, false, .iconst 0, 1, 0, (0, 0, 0, 0), 0, []),
  (101, false, .ireturn, 1, 0, (0, 0, 0, 0), 0, []),
  (102, false, .iload_n 2, 1, 0, (0, 0, 0, 0), 0, []),
  (103, false, .aload_n 0, 1, 0, (0, 0, 0, 0), 0, []),
  (104, false, .getfield 214, 3, 795, (40, 1, 0, 0), 0, []),
  (107, false, .iadd, 1, 0, (0, 0, 0, 0), 0, []),
  (108, false, .aload_n 0, 1, 0, (0, 0, 0, 0), 0, []),
  (109, false, .getfield 7, 3, 796, (40, 2, 0, 0), 0, []),
  (112, false, .if_icmp .le 21, 3, 0, (133, 0, 0, 0), 0, []),
  (115, false, .aload_n 0, 1, 0, (0, 0, 0, 0), 0, []),
  (116, false, .iload_n 1, 1, 0, (0, 0, 0, 0), 0, []),
  (117, false, .iload_n 2, 1, 0, (0, 0, 0, 0), 0, []),
  (118, false, .aload_n 0, 1, 0, (0, 0, 0, 0), 0, []),
  (119, false, .getfield 214, 3, 795, (40, 1, 0, 0), 0, []),
  (122, false, .iadd, 1, 0, (0, 0, 0, 0), 0, []),
  (123, false, .invokevirtual 293, 3, 1068, (119, 3, 0, 0), 0, [0, 0, 42]),
  (126, false, .ifCond .eq 7, 3, 0, (133, 0, 0, 0), 0, []),
  (129, false, .iconst 1, 1, 0, (0, 0, 0, 0), 0, []),
  (130, false, .goto 4, 3, 0, (134, 0, 0, 0), 0, []),
  (133, false, .iconst 0, 1, 0, (0, 0, 0, 0), 0, []),
  (134, false, .ireturn, 1, 0, (0, 0, 0, 0), 0, []),
  (135, false, .iconst 0, 1, 0, (0, 0, 0, 0), 0, []),
  (136, false, .ireturn, 1, 0, (0, 0, 0, 0), 0, [])]
noncomputable def m_isDue (v1 v2 : Int) (σ : zz_S) : zz_R := (if zz_b σ 44 1 v1 then (if (zz_h σ 44 1 v1) = 0 then (if zz_b σ 45 1 v1 then (if (zz_h σ 45 1 v1) = v2 then (some (1, σ)) else (some (0, σ))) else none) else (if (zz_h σ 44 1 v1) = 1 then (if zz_b σ 45 1 v1 then (if v2 < (zz_h σ 45 1 v1) then (some (0, σ)) else (if zz_b σ 45 1 v1 then (if zz_b σ 46 1 v1 then (if (zz_h σ 46 1 v1) = 0 then none else (if (zz_rem (zz_r (v2 - (zz_h σ 45 1 v1))) (zz_h σ 46 1 v1)) = 0 then (some (1, σ)) else (some (0, σ)))) else none) else none)) else none) else (if (zz_h σ 44 1 v1) = 2 then (if zz_b σ 57 1 v1 then (if (zz_h σ 57 1 v1) = v2 then (some (1, σ)) else (some (0, σ))) else none) else (if (zz_h σ 44 1 v1) = 3 then (if (zz_r (v2 + (zz_h σ 40 1 1))) ≤ (zz_h σ 40 1 2) then (some (0, σ)) else ((m_fits v1 (zz_r (v2 + (zz_h σ 40 1 1))) σ).bind fun q1 => (if q1.1 = 0 then (some (0, q1.2)) else (some (1, q1.2))))) else (some (0, σ)))))) else none)
set_option maxRecDepth 100000 in
set_option maxHeartbeats 4000000 in
theorem ze_m_isDue (v1 v2 : Int) (σ : zz_S) : m_isDue v1 v2 σ = zz_ev (zz_CE [(119, zw_m_fits)]) (zz_KE []) zk_m_isDue 0 true 0 1 400 true (zz_sk zk_m_isDue 0) [(0, 42, 1), (1, 0, v1), (2, 0, v2)] [] σ := rfl
noncomputable def zw_m_isDue : List Int → zz_S → zz_R := fun vs σ => match vs with
  | [a0, a1, a2] => if a0 = 1 then m_isDue a1 a2 σ else none
  | _ => none
def zk_m_misses : List zz_E := [(0, false, .iconst 0, 1, 0, (0, 0, 0, 0), 0, []),
  (1, false, .istore_n 2, 1, 0, (0, 0, 0, 0), 0, []),
  (2, true, .iload_n 2, 1, 0, (0, 0, 0, 0), 0, []),
  (3, false, .aload_n 0, 1, 0, (0, 0, 0, 0), 0, []),
  (4, false, .getfield 178, 3, 847, (40, 53, 0, 0), 0, []),
  (7, false, .if_icmp .ge 138, 3, 0, (145, 0, 0, 0), 0, []),
  (10, false, .aload_n 0, 1, 0, (0, 0, 0, 0), 0, []),
  (11, false, .getfield 150, 3, 848, (40, 54, 87, 1), 0, []),
  (14, false, .iload_n 2, 1, 0, (0, 0, 0, 0), 0, []),
  (15, false, .iaload, 1, 0, (85, 0, 0, 0), 0, []),
  (16, false, .istore_n 3, 1, 0, (0, 0, 0, 0), 0, []),
  (17, false, .aload_n 0, 1, 0, (0, 0, 0, 0), 0, []),
  (18, false, .getfield 156, 3, 850, (40, 56, 89, 1), 0, []),
  (21, false, .iload_n 2, 1, 0, (0, 0, 0, 0), 0, []),
  (22, false, .baload, 1, 0, (87, 0, 0, 0), 0, []),
  (23, false, .ifCond .ne 20, 3, 0, (43, 0, 0, 0), 0, []),
  (26, false, .iload_n 1, 1, 0, (0, 0, 0, 0), 0, []),
  (27, false, .aload_n 0, 1, 0, (0, 0, 0, 0), 0, []),
  (28, false, .getfield 153, 3, 849, (40, 55, 88, 1), 0, []),
  (31, false, .iload_n 2, 1, 0, (0, 0, 0, 0), 0, []),
  (32, false, .iaload, 1, 0, (86, 0, 0, 0), 0, []),
  (33, false, .isub, 1, 0, (0, 0, 0, 0), 0, []),
  (34, false, .aload_n 0, 1, 0, (0, 0, 0, 0), 0, []),
  (35, false, .getfield 35, 3, 807, (40, 13, 49, 1), 0, []),
  (38, false, .iload_n 3, 1, 0, (0, 0, 0, 0), 0, []),
  (39, false, .iaload, 1, 0, (47, 0, 0, 0), 0, []),
  (40, false, .if_icmp .gt 9, 3, 0, (49, 0, 0, 0), 0, []),
  (43, false, .iinc 2 1, 3, 0, (0, 0, 0, 0), 0, []),
  (46, false, .goto (-44), 3, 0, (2, 0, 0, 0), 0, []),
  (49, false, .aload_n 0, 1, 0, (0, 0, 0, 0), 0, []),
  (50, false, .getfield 153, 3, 849, (40, 55, 88, 1), 0, []),
  (53, false, .iload_n 2, 1, 0, (0, 0, 0, 0), 0, []),
  (54, false, .iaload, 1, 0, (86, 0, 0, 0), 0, []),
  (55, false, .istore 4, 2, 0, (0, 0, 0, 0), 0, []),
  (57, false, .aload_n 0, 1, 0, (0, 0, 0, 0), 0, []),
  (58, false, .getfield 47, 3, 811, (40, 17, 53, 1), 0, []),
  (61, false, .iload_n 3, 1, 0, (0, 0, 0, 0), 0, []),
  (62, false, .iaload, 1, 0, (51, 0, 0, 0), 0, []),
  (63, false, .ifCond .eq 22, 3, 0, (85, 0, 0, 0), 0, []),
  (66, false, .aload_n 0, 1, 0, (0, 0, 0, 0), 0, []),
  (67, false, .getfield 47, 3, 811, (40, 17, 53, 1), 0, []),
  (70, false, .iload_n 3, 1, 0, (0, 0, 0, 0), 0, []),
  (71, false, .iaload, 1, 0, (51, 0, 0, 0), 0, []),
  (72, false, .iconst 1, 1, 0, (0, 0, 0, 0), 0, []),
  (73, false, .if_icmp .ne 16, 3, 0, (89, 0, 0, 0), 0, []),
  (76, false, .aload_n 0, 1, 0, (0, 0, 0, 0), 0, []),
  (77, false, .iload_n 3, 1, 0, (0, 0, 0, 0), 0, []),
  (78, false, .invokevirtual 296, 3, 1091, (114, 2, 0, 0), 0, [0, 42]),
  (81, false, .iconst 1, 1, 0, (0, 0, 0, 0), 0, []),
  (82, false, .if_icmp .le 7, 3, 0, (89, 0, 0, 0), 0, []),
  (85, true, .iconst 1, 1, 0, (0, 0, 0, 0), 0, []),
  (86, false, .goto 4, 3, 0, (90, 0, 0, 0), 0, []),
  (89, true, .iconst 0, 1, 0, (0, 0, 0, 0), 0, []),
  (90, false, .istore 5, 2, 0, (0, 0, 0, 0), 0, []),
  (92, false, .iload 5, 2, 0, (0, 0, 0, 0), 0, []),
  (94, false, .ifCond .eq 30, 3, 0, (124, 0, 0, 0), 0, []),
  (97, false, .aload_n 0, 1, 0, (0, 0, 0, 0), 0, []),
  (98, false, .iload_n 3, 1, 0, (0, 0, 0, 0), 0, []),
  (99, false, .iload 4, 2, 0, (0, 0, 0, 0), 0, []),
  (101, false, .aload_n 0, 1, 0, (0, 0, 0, 0), 0, []),
  (102, false, .getfield 47, 3, 811, (40, 17, 53, 1), 0, []),
  (105, false, .iload_n 3, 1, 0, (0, 0, 0, 0), 0, []),
  (106, false, .iaload, 1, 0, (51, 0, 0, 0), 0, []),
  (107, false, .invokevirtual 227, 3, 1052, (123, 4, 999, 0), 0, [0, 0, 0, 42]),
  (110, false, .aload_n 0, 1, 0, (0, 0, 0, 0), 0, []),
  (111, false, .iload_n 2, 1, 0, (0, 0, 0, 0), 0, []),
  (112, false, .invokevirtual 238, 3, 1032, (126, 2, 999, 0), 0, [0, 42]),
  (115, false, .aload_n 0, 1, 0, (0, 0, 0, 0), 0, []),
  (116, false, .iload_n 3, 1, 0, (0, 0, 0, 0), 0, []),
  (117, false, .iload_n 1, 1, 0, (0, 0, 0, 0), 0, []),
  (118, false, .invokevirtual 231, 3, 1056, (124, 3, 999, 0), 0, [0, 0, 42]),
  (121, false, .goto 21, 3, 0, (142, 0, 0, 0), 0, []),
  (124, false, .aload_n 0, 1, 0, (0, 0, 0, 0), 0, []),
  (125, false, .iload_n 3, 1, 0, (0, 0, 0, 0), 0, []),
  (126, false, .iload 4, 2, 0, (0, 0, 0, 0), 0, []),
  (128, false, .iconst 2, 1, 0, (0, 0, 0, 0), 0, []),
  (129, false, .invokevirtual 227, 3, 1052, (123, 4, 999, 0), 0, [0, 0, 0, 42]),
  (132, false, .aload_n 0, 1, 0, (0, 0, 0, 0), 0, []),
  (133, false, .getfield 156, 3, 850, (40, 56, 89, 1), 0, []),
  (136, false, .iload_n 2, 1, 0, (0, 0, 0, 0), 0, []),
  (137, false, .iconst 1, 1, 0, (0, 0, 0, 0), 0, []),
  (138, false, .bastore, 1, 0, (87, 0, 0, 0), 0, []),
  (139, false, .iinc 2 1, 3, 0, (0, 0, 0, 0), 0, []),
  (142, false, .goto (-140), 3, 0, (2, 0, 0, 0), 0, []),
  (145, false, .return_, 1, 0, (0, 0, 0, 0), 0, [])]
noncomputable def m_misses_89 (k2 : Int → Int → zz_S → zz_R) (v1 v2 v3 v4 : Int) (σ : zz_S) : zz_R := ((m_books v3 v4 2 σ).bind fun q1 => (if zz_b q1.2 87 1 v2 then (let s2 := zz_w q1.2 87 1 v2 1; (k2 v1 (zz_r (v2 + 1)) s2)) else none))
set_option maxRecDepth 100000 in
set_option maxHeartbeats 4000000 in
theorem ze_m_misses_89 (k2 : Int → Int → zz_S → zz_R) (v1 v2 v3 v4 : Int) (σ : zz_S) : m_misses_89 k2 v1 v2 v3 v4 σ = zz_ev (zz_CE [(123, zw_m_books)]) (zz_KE [(2, [(0, 42, true), (1, 0, false), (2, 0, false)], fun vs σ => match vs with | [b0, b1] => k2 b0 b1 σ | _ => none)]) zk_m_misses 999 false 0 1 400 true (zz_sk zk_m_misses 89) [(0, 42, 1), (1, 0, v1), (2, 0, v2), (3, 0, v3), (4, 0, v4)] [] σ := rfl
noncomputable def m_misses_85 (k2 : Int → Int → zz_S → zz_R) (v1 v2 v3 v4 : Int) (σ : zz_S) : zz_R := (if zz_b σ 51 1 v3 then ((m_books v3 v4 (zz_h σ 51 1 v3) σ).bind fun q1 => ((m_takeDue v2 q1.2).bind fun q2 => ((m_dueGone v3 v1 q2.2).bind fun q3 => (k2 v1 v2 q3.2)))) else none)
set_option maxRecDepth 100000 in
set_option maxHeartbeats 4000000 in
theorem ze_m_misses_85 (k2 : Int → Int → zz_S → zz_R) (v1 v2 v3 v4 : Int) (σ : zz_S) : m_misses_85 k2 v1 v2 v3 v4 σ = zz_ev (zz_CE [(123, zw_m_books), (124, zw_m_dueGone), (126, zw_m_takeDue)]) (zz_KE [(2, [(0, 42, true), (1, 0, false), (2, 0, false)], fun vs σ => match vs with | [b0, b1] => k2 b0 b1 σ | _ => none)]) zk_m_misses 999 false 0 1 400 true (zz_sk zk_m_misses 85) [(0, 42, 1), (1, 0, v1), (2, 0, v2), (3, 0, v3), (4, 0, v4)] [] σ := rfl
noncomputable def m_misses_2 : Nat → Int → Int → zz_S → zz_R
  | 0, _, _, _ => none
  | n + 1, v1, v2, σ => (if v2 < (zz_h σ 40 1 53) then (if zz_b σ 85 1 v2 then (if zz_b σ 87 1 v2 then (if (zz_h σ 87 1 v2) = 0 then (if zz_b σ 86 1 v2 then (if zz_b σ 47 1 (zz_h σ 85 1 v2) then (if (zz_r (v1 - (zz_h σ 86 1 v2))) ≤ (zz_h σ 47 1 (zz_h σ 85 1 v2)) then (m_misses_2 n v1 (zz_r (v2 + 1)) σ) else (if zz_b σ 86 1 v2 then (if zz_b σ 51 1 (zz_h σ 85 1 v2) then (if (zz_h σ 51 1 (zz_h σ 85 1 v2)) = 0 then (m_misses_85 (m_misses_2 n) v1 v2 (zz_h σ 85 1 v2) (zz_h σ 86 1 v2) σ) else (if zz_b σ 51 1 (zz_h σ 85 1 v2) then (if (zz_h σ 51 1 (zz_h σ 85 1 v2)) = 1 then ((m_duesOf (zz_h σ 85 1 v2) σ).bind fun q1 => (if q1.1 ≤ 1 then (m_misses_89 (m_misses_2 n) v1 v2 (zz_h σ 85 1 v2) (zz_h σ 86 1 v2) q1.2) else (m_misses_85 (m_misses_2 n) v1 v2 (zz_h σ 85 1 v2) (zz_h σ 86 1 v2) q1.2))) else (m_misses_89 (m_misses_2 n) v1 v2 (zz_h σ 85 1 v2) (zz_h σ 86 1 v2) σ)) else none)) else none) else none)) else none) else none) else (m_misses_2 n v1 (zz_r (v2 + 1)) σ)) else none) else none) else (some (0, σ)))
set_option maxRecDepth 100000 in
set_option maxHeartbeats 4000000 in
theorem ze_m_misses_2 (n : Nat) (v1 v2 : Int) (σ : zz_S) : m_misses_2 (n + 1) v1 v2 σ = zz_ev (zz_CE [(114, zw_m_duesOf)]) (zz_KE [(2, [(0, 42, true), (1, 0, false), (2, 0, false)], fun vs σ => match vs with | [b0, b1] => m_misses_2 n b0 b1 σ | _ => none), (85, [(0, 42, true), (1, 0, false), (2, 0, false), (3, 0, false), (4, 0, false)], fun vs σ => match vs with | [b0, b1, b2, b3] => m_misses_85 (m_misses_2 n) b0 b1 b2 b3 σ | _ => none), (89, [(0, 42, true), (1, 0, false), (2, 0, false), (3, 0, false), (4, 0, false)], fun vs σ => match vs with | [b0, b1, b2, b3] => m_misses_89 (m_misses_2 n) b0 b1 b2 b3 σ | _ => none)]) zk_m_misses 999 false 0 1 400 true (zz_sk zk_m_misses 2) [(0, 42, 1), (1, 0, v1), (2, 0, v2)] [] σ := rfl
noncomputable def m_misses (v1 : Int) (σ : zz_S) : zz_R := (m_misses_2 zz_fu v1 0 σ)
set_option maxRecDepth 100000 in
set_option maxHeartbeats 4000000 in
theorem ze_m_misses (v1 : Int) (σ : zz_S) : m_misses v1 σ = zz_ev (zz_CE []) (zz_KE [(2, [(0, 42, true), (1, 0, false), (2, 0, false)], fun vs σ => match vs with | [b0, b1] => m_misses_2 zz_fu b0 b1 σ | _ => none)]) zk_m_misses 999 false 0 1 400 true (zz_sk zk_m_misses 0) [(0, 42, 1), (1, 0, v1)] [] σ := rfl
noncomputable def zw_m_misses : List Int → zz_S → zz_R := fun vs σ => match vs with
  | [a0, a1] => if a0 = 1 then m_misses a1 σ else none
  | _ => none
def zk_m_canBegin : List zz_E := [(0, false, .aload_n 0, 1, 0, (0, 0, 0, 0), 0, []),
  (1, false, .getfield 41, 3, 809, (40, 15, 51, 1), 0, []),
  (4, false, .iload_n 1, 1, 0, (0, 0, 0, 0), 0, []),
  (5, false, .iaload, 1, 0, (49, 0, 0, 0), 0, []),
  (6, false, .iconst (-1), 1, 0, (0, 0, 0, 0), 0, []),
  (7, false, .if_icmp .eq 29, 3, 0, (36, 0, 0, 0), 0, []),
  (10, false, .aload_n 0, 1, 0, (0, 0, 0, 0), 0, []),
  (11, false, .aload_n 0, 1, 0, (0, 0, 0, 0), 0, []),
  (12, false, .getfield 41, 3, 809, (40, 15, 51, 1), 0, []),
  (15, false, .iload_n 1, 1, 0, (0, 0, 0, 0), 0, []),
  (16, false, .iaload, 1, 0, (49, 0, 0, 0), 0, []),
  (17, false, .invokevirtual 299, 3, 1107, (113, 2, 0, 0), 0, [0, 42]),
  (20, false, .aload_n 0, 1, 0, (0, 0, 0, 0), 0, []),
  (21, false, .getfield 23, 3, 802, (40, 8, 45, 1), 0, []),
  (24, false, .aload_n 0, 1, 0, (0, 0, 0, 0), 0, []),
  (25, false, .getfield 41, 3, 809, (40, 15, 51, 1), 0, []),
  (28, false, .iload_n 1, 1, 0, (0, 0, 0, 0), 0, []),
  (29, false, .iaload, 1, 0, (49, 0, 0, 0), 0, []),
  (30, false, .iaload, 1, 0, (43, 0, 0, 0), 0, []),
  (31, false, .if_icmp .lt 5, 3, 0, (36, 0, 0, 0), 0, []),
  (34, false, .iconst 0, 1, 0, (0, 0, 0, 0), 0, []),
  (35, false, .ireturn, 1, 0, (0, 0, 0, 0), 0, []),
  (36, true, .aload_n 0, 1, 0, (0, 0, 0, 0), 0, []),
  (37, false, .getfield 44, 3, 810, (40, 16, 52, 1), 0, []),
  (40, false, .iload_n 1, 1, 0, (0, 0, 0, 0), 0, []),
  (41, false, .iaload, 1, 0, (50, 0, 0, 0), 0, []),
  (42, false, .iconst 2, 1, 0, (0, 0, 0, 0), 0, []),
  (43, false, .if_icmp .eq 11, 3, 0, (54, 0, 0, 0), 0, []),
  (46, false, .aload_n 0, 1, 0, (0, 0, 0, 0), 0, []),
  (47, false, .iload_n 1, 1, 0, (0, 0, 0, 0), 0, []),
  (48, false, .invokevirtual 235, 3, 1060, (112, 2, 0, 0), 0, [0, 42]),
  (51, false, .ifCond .ne 7, 3, 0, (58, 0, 0, 0), 0, []),
  (54, false, .iconst 1, 1, 0, (0, 0, 0, 0), 0, []),
  (55, false, .goto 4, 3, 0, (59, 0, 0, 0), 0, []),
  (58, false, .iconst 0, 1, 0, (0, 0, 0, 0), 0, []),
  (59, false, .ireturn, 1, 0, (0, 0, 0, 0), 0, [])]
noncomputable def m_canBegin_36 (v1 : Int) (σ : zz_S) : zz_R := (if zz_b σ 50 1 v1 then (if (zz_h σ 50 1 v1) = 2 then (some (1, σ)) else ((m_isRunning v1 σ).bind fun q1 => (if q1.1 = 0 then (some (1, q1.2)) else (some (0, q1.2))))) else none)
set_option maxRecDepth 100000 in
set_option maxHeartbeats 4000000 in
theorem ze_m_canBegin_36 (v1 : Int) (σ : zz_S) : m_canBegin_36 v1 σ = zz_ev (zz_CE [(112, zw_m_isRunning)]) (zz_KE []) zk_m_canBegin 0 true 0 1 400 true (zz_sk zk_m_canBegin 36) [(0, 42, 1), (1, 0, v1)] [] σ := rfl
noncomputable def m_canBegin (v1 : Int) (σ : zz_S) : zz_R := (if zz_b σ 49 1 v1 then (if (zz_h σ 49 1 v1) = (-1) then (m_canBegin_36 v1 σ) else (if zz_b σ 49 1 v1 then ((m_loadOf (zz_h σ 49 1 v1) σ).bind fun q1 => (if zz_b q1.2 49 1 v1 then (if zz_b q1.2 43 1 (zz_h q1.2 49 1 v1) then (if q1.1 < (zz_h q1.2 43 1 (zz_h q1.2 49 1 v1)) then (m_canBegin_36 v1 q1.2) else (some (0, q1.2))) else none) else none)) else none)) else none)
set_option maxRecDepth 100000 in
set_option maxHeartbeats 4000000 in
theorem ze_m_canBegin (v1 : Int) (σ : zz_S) : m_canBegin v1 σ = zz_ev (zz_CE [(113, zw_m_loadOf)]) (zz_KE [(36, [(0, 42, true), (1, 0, false)], fun vs σ => match vs with | [b0] => m_canBegin_36 b0 σ | _ => none)]) zk_m_canBegin 0 true 0 1 400 true (zz_sk zk_m_canBegin 0) [(0, 42, 1), (1, 0, v1)] [] σ := rfl
noncomputable def zw_m_canBegin : List Int → zz_S → zz_R := fun vs σ => match vs with
  | [a0, a1] => if a0 = 1 then m_canBegin a1 σ else none
  | _ => none
def zk_m_isAhead : List zz_E := [(0, false, .aload_n 0, 1, 0, (0, 0, 0, 0), 0, []),
  (1, false, .getfield 150, 3, 848, (40, 54, 87, 1), 0, []),
  (4, false, .iload_n 1, 1, 0, (0, 0, 0, 0), 0, []),
  (5, false, .iaload, 1, 0, (85, 0, 0, 0), 0, []),
  (6, false, .istore_n 3, 1, 0, (0, 0, 0, 0), 0, []),
  (7, false, .aload_n 0, 1, 0, (0, 0, 0, 0), 0, []),
  (8, false, .getfield 150, 3, 848, (40, 54, 87, 1), 0, []),
  (11, false, .iload_n 2, 1, 0, (0, 0, 0, 0), 0, []),
  (12, false, .iaload, 1, 0, (85, 0, 0, 0), 0, []),
  (13, false, .istore 4, 2, 0, (0, 0, 0, 0), 0, []),
  (15, false, .aload_n 0, 1, 0, (0, 0, 0, 0), 0, []),
  (16, false, .getfield 38, 3, 808, (40, 14, 50, 1), 0, []),
  (19, false, .iload_n 3, 1, 0, (0, 0, 0, 0), 0, []),
  (20, false, .iaload, 1, 0, (48, 0, 0, 0), 0, []),
  (21, false, .aload_n 0, 1, 0, (0, 0, 0, 0), 0, []),
  (22, false, .getfield 38, 3, 808, (40, 14, 50, 1), 0, []),
  (25, false, .iload 4, 2, 0, (0, 0, 0, 0), 0, []),
  (27, false, .iaload, 1, 0, (48, 0, 0, 0), 0, []),
  (28, false, .if_icmp .eq 25, 3, 0, (53, 0, 0, 0), 0, []),
  (31, false, .aload_n 0, 1, 0, (0, 0, 0, 0), 0, []),
  (32, false, .getfield 38, 3, 808, (40, 14, 50, 1), 0, []),
  (35, false, .iload_n 3, 1, 0, (0, 0, 0, 0), 0, []),
  (36, false, .iaload, 1, 0, (48, 0, 0, 0), 0, []),
  (37, false, .aload_n 0, 1, 0, (0, 0, 0, 0), 0, []),
  (38, false, .getfield 38, 3, 808, (40, 14, 50, 1), 0, []),
  (41, false, .iload 4, 2, 0, (0, 0, 0, 0), 0, []),
  (43, false, .iaload, 1, 0, (48, 0, 0, 0), 0, []),
  (44, false, .if_icmp .le 7, 3, 0, (51, 0, 0, 0), 0, []),
  (47, false, .iconst 1, 1, 0, (0, 0, 0, 0), 0, []),
  (48, false, .goto 4, 3, 0, (52, 0, 0, 0), 0, []),
  (51, false, .iconst 0, 1, 0, (0, 0, 0, 0), 0, []),
  (52, false, .ireturn, 1, 0, (0, 0, 0, 0), 0, []),
  (53, false, .aload_n 0, 1, 0, (0, 0, 0, 0), 0, []),
  (54, false, .getfield 153, 3, 849, (40, 55, 88, 1), 0, []),
  (57, false, .iload_n 1, 1, 0, (0, 0, 0, 0), 0, []),
  (58, false, .iaload, 1, 0, (86, 0, 0, 0), 0, []),
  (59, false, .aload_n 0, 1, 0, (0, 0, 0, 0), 0, []),
  (60, false, .getfield 153, 3, 849, (40, 55, 88, 1), 0, []),
  (63, false, .iload_n 2, 1, 0, (0, 0, 0, 0), 0, []),
  (64, false, .iaload, 1, 0, (86, 0, 0, 0), 0, []),
  (65, false, .if_icmp .eq 24, 3, 0, (89, 0, 0, 0), 0, []),
  (68, false, .aload_n 0, 1, 0, (0, 0, 0, 0), 0, []),
  (69, false, .getfield 153, 3, 849, (40, 55, 88, 1), 0, []),
  (72, false, .iload_n 1, 1, 0, (0, 0, 0, 0), 0, []),
  (73, false, .iaload, 1, 0, (86, 0, 0, 0), 0, []),
  (74, false, .aload_n 0, 1, 0, (0, 0, 0, 0), 0, []),
  (75, false, .getfield 153, 3, 849, (40, 55, 88, 1), 0, []),
  (78, false, .iload_n 2, 1, 0, (0, 0, 0, 0), 0, []),
  (79, false, .iaload, 1, 0, (86, 0, 0, 0), 0, []),
  (80, false, .if_icmp .ge 7, 3, 0, (87, 0, 0, 0), 0, []),
  (83, false, .iconst 1, 1, 0, (0, 0, 0, 0), 0, []),
  (84, false, .goto 4, 3, 0, (88, 0, 0, 0), 0, []),
  (87, false, .iconst 0, 1, 0, (0, 0, 0, 0), 0, []),
  (88, false, .ireturn, 1, 0, (0, 0, 0, 0), 0, []),
  (89, false, .iload_n 3, 1, 0, (0, 0, 0, 0), 0, []),
  (90, false, .iload 4, 2, 0, (0, 0, 0, 0), 0, []),
  (92, false, .if_icmp .ge 7, 3, 0, (99, 0, 0, 0), 0, []),
  (95, false, .iconst 1, 1, 0, (0, 0, 0, 0), 0, []),
  (96, false, .goto 4, 3, 0, (100, 0, 0, 0), 0, []),
  (99, false, .iconst 0, 1, 0, (0, 0, 0, 0), 0, []),
  (100, false, .ireturn, 1, 0, (0, 0, 0, 0), 0, [])]
noncomputable def m_isAhead (v1 v2 : Int) (σ : zz_S) : zz_R := (if zz_b σ 85 1 v1 then (if zz_b σ 85 1 v2 then (if zz_b σ 48 1 (zz_h σ 85 1 v1) then (if zz_b σ 48 1 (zz_h σ 85 1 v2) then (if (zz_h σ 48 1 (zz_h σ 85 1 v1)) = (zz_h σ 48 1 (zz_h σ 85 1 v2)) then (if zz_b σ 86 1 v1 then (if zz_b σ 86 1 v2 then (if (zz_h σ 86 1 v1) = (zz_h σ 86 1 v2) then (if (zz_h σ 85 1 v1) < (zz_h σ 85 1 v2) then (some (1, σ)) else (some (0, σ))) else (if zz_b σ 86 1 v1 then (if zz_b σ 86 1 v2 then (if (zz_h σ 86 1 v1) < (zz_h σ 86 1 v2) then (some (1, σ)) else (some (0, σ))) else none) else none)) else none) else none) else (if zz_b σ 48 1 (zz_h σ 85 1 v1) then (if zz_b σ 48 1 (zz_h σ 85 1 v2) then (if (zz_h σ 48 1 (zz_h σ 85 1 v1)) ≤ (zz_h σ 48 1 (zz_h σ 85 1 v2)) then (some (0, σ)) else (some (1, σ))) else none) else none)) else none) else none) else none) else none)
set_option maxRecDepth 100000 in
set_option maxHeartbeats 4000000 in
theorem ze_m_isAhead (v1 v2 : Int) (σ : zz_S) : m_isAhead v1 v2 σ = zz_ev (zz_CE []) (zz_KE []) zk_m_isAhead 0 true 0 1 400 true (zz_sk zk_m_isAhead 0) [(0, 42, 1), (1, 0, v1), (2, 0, v2)] [] σ := rfl
noncomputable def zw_m_isAhead : List Int → zz_S → zz_R := fun vs σ => match vs with
  | [a0, a1, a2] => if a0 = 1 then m_isAhead a1 a2 σ else none
  | _ => none
def zk_m_begins : List zz_E := [(0, false, .aload_n 0, 1, 0, (0, 0, 0, 0), 0, []),
  (1, false, .getfield 247, 3, 836, (40, 42, 0, 0), 0, []),
  (4, false, .sipush 2000, 3, 0, (0, 0, 0, 0), 0, []),
  (7, false, .if_icmp .eq 14, 3, 0, (21, 0, 0, 0), 0, []),
  (10, false, .aload_n 0, 1, 0, (0, 0, 0, 0), 0, []),
  (11, false, .invokevirtual 302, 3, 1099, (111, 1, 0, 0), 0, [42]),
  (14, false, .aload_n 0, 1, 0, (0, 0, 0, 0), 0, []),
  (15, false, .getfield 13, 3, 798, (40, 4, 0, 0), 0, []),
  (18, false, .if_icmp .ne 5, 3, 0, (23, 0, 0, 0), 0, []),
  (21, false, .iconst 0, 1, 0, (0, 0, 0, 0), 0, []),
  (22, false, .ireturn, 1, 0, (0, 0, 0, 0), 0, []),
  (23, false, .iconst (-1), 1, 0, (0, 0, 0, 0), 0, []),
  (24, false, .istore_n 2, 1, 0, (0, 0, 0, 0), 0, []),
  (25, false, .iconst 0, 1, 0, (0, 0, 0, 0), 0, []),
  (26, false, .istore_n 3, 1, 0, (0, 0, 0, 0), 0, []),
  (27, true, .iload_n 3, 1, 0, (0, 0, 0, 0), 0, []),
  (28, false, .aload_n 0, 1, 0, (0, 0, 0, 0), 0, []),
  (29, false, .getfield 178, 3, 847, (40, 53, 0, 0), 0, []),
  (32, false, .if_icmp .ge 41, 3, 0, (73, 0, 0, 0), 0, []),
  (35, false, .aload_n 0, 1, 0, (0, 0, 0, 0), 0, []),
  (36, false, .aload_n 0, 1, 0, (0, 0, 0, 0), 0, []),
  (37, false, .getfield 150, 3, 848, (40, 54, 87, 1), 0, []),
  (40, false, .iload_n 3, 1, 0, (0, 0, 0, 0), 0, []),
  (41, false, .iaload, 1, 0, (85, 0, 0, 0), 0, []),
  (42, false, .invokevirtual 306, 3, 1103, (138, 2, 0, 0), 0, [0, 42]),
  (45, false, .ifCond .ne 6, 3, 0, (51, 0, 0, 0), 0, []),
  (48, false, .goto 19, 3, 0, (67, 0, 0, 0), 0, []),
  (51, false, .iload_n 2, 1, 0, (0, 0, 0, 0), 0, []),
  (52, false, .iconst (-1), 1, 0, (0, 0, 0, 0), 0, []),
  (53, false, .if_icmp .eq 12, 3, 0, (65, 0, 0, 0), 0, []),
  (56, false, .aload_n 0, 1, 0, (0, 0, 0, 0), 0, []),
  (57, false, .iload_n 3, 1, 0, (0, 0, 0, 0), 0, []),
  (58, false, .iload_n 2, 1, 0, (0, 0, 0, 0), 0, []),
  (59, false, .invokevirtual 309, 3, 1111, (140, 3, 0, 0), 0, [0, 0, 42]),
  (62, false, .ifCond .eq 5, 3, 0, (67, 0, 0, 0), 0, []),
  (65, false, .iload_n 3, 1, 0, (0, 0, 0, 0), 0, []),
  (66, false, .istore_n 2, 1, 0, (0, 0, 0, 0), 0, []),
  (67, false, .iinc 3 1, 3, 0, (0, 0, 0, 0), 0, []),
  (70, false, .goto (-43), 3, 0, (27, 0, 0, 0), 0, []),
  (73, false, .iload_n 2, 1, 0, (0, 0, 0, 0), 0, []),
  (74, false, .iconst (-1), 1, 0, (0, 0, 0, 0), 0, []),
  (75, false, .if_icmp .ne 5, 3, 0, (80, 0, 0, 0), 0, []),
  (78, false, .iconst 0, 1, 0, (0, 0, 0, 0), 0, []),
  (79, false, .ireturn, 1, 0, (0, 0, 0, 0), 0, []),
  (80, false, .aload_n 0, 1, 0, (0, 0, 0, 0), 0, []),
  (81, false, .getfield 150, 3, 848, (40, 54, 87, 1), 0, []),
  (84, false, .iload_n 2, 1, 0, (0, 0, 0, 0), 0, []),
  (85, false, .iaload, 1, 0, (85, 0, 0, 0), 0, []),
  (86, false, .istore_n 3, 1, 0, (0, 0, 0, 0), 0, []),
  (87, false, .iconst 0, 1, 0, (0, 0, 0, 0), 0, []),
  (88, false, .istore 4, 2, 0, (0, 0, 0, 0), 0, []),
  (90, true, .aload_n 0, 1, 0, (0, 0, 0, 0), 0, []),
  (91, false, .getfield 16, 3, 799, (40, 5, 43, 1), 0, []),
  (94, false, .iload 4, 2, 0, (0, 0, 0, 0), 0, []),
  (96, false, .iaload, 1, 0, (41, 0, 0, 0), 0, []),
  (97, false, .iconst (-1), 1, 0, (0, 0, 0, 0), 0, []),
  (98, false, .if_icmp .eq 9, 3, 0, (107, 0, 0, 0), 0, []),
  (101, false, .iinc 4 1, 3, 0, (0, 0, 0, 0), 0, []),
  (104, false, .goto (-14), 3, 0, (90, 0, 0, 0), 0, []),
  (107, false, .aload_n 0, 1, 0, (0, 0, 0, 0), 0, []),
  (108, false, .dup, 1, 0, (0, 0, 0, 0), 0, []),
  (109, false, .getfield 247, 3, 836, (40, 42, 0, 0), 0, []),
  (112, false, .dup_x1, 1, 0, (0, 0, 0, 0), 0, []),
  (113, false, .iconst 1, 1, 0, (0, 0, 0, 0), 0, []),
  (114, false, .iadd, 1, 0, (0, 0, 0, 0), 0, []),
  (115, false, .putfield 247, 3, 836, (40, 42, 0, 0), 0, []),
  (118, false, .istore 5, 2, 0, (0, 0, 0, 0), 0, []),
  (120, false, .aload_n 0, 1, 0, (0, 0, 0, 0), 0, []),
  (121, false, .getfield 77, 3, 821, (40, 27, 63, 1), 0, []),
  (124, false, .iload_n 3, 1, 0, (0, 0, 0, 0), 0, []),
  (125, false, .dup2, 1, 0, (0, 0, 0, 0), 0, []),
  (126, false, .iaload, 1, 0, (61, 0, 0, 0), 0, []),
  (127, false, .iconst 1, 1, 0, (0, 0, 0, 0), 0, []),
  (128, false, .iadd, 1, 0, (0, 0, 0, 0), 0, []),
  (129, false, .iastore, 1, 0, (61, 0, 0, 0), 0, []),
  (130, false, .aload_n 0, 1, 0, (0, 0, 0, 0), 0, []),
  (131, false, .getfield 120, 3, 837, (40, 43, 77, 1), 0, []),
  (134, false, .iload 5, 2, 0, (0, 0, 0, 0), 0, []),
  (136, false, .iload_n 3, 1, 0, (0, 0, 0, 0), 0, []),
  (137, false, .iastore, 1, 0, (75, 0, 0, 0), 0, []),
  (138, false, .aload_n 0, 1, 0, (0, 0, 0, 0), 0, []),
  (139, false, .getfield 123, 3, 838, (40, 44, 78, 1), 0, []),
  (142, false, .iload 5, 2, 0, (0, 0, 0, 0), 0, []),
  (144, false, .aload_n 0, 1, 0, (0, 0, 0, 0), 0, []),
  (145, false, .getfield 153, 3, 849, (40, 55, 88, 1), 0, []),
  (148, false, .iload_n 2, 1, 0, (0, 0, 0, 0), 0, []),
  (149, false, .iaload, 1, 0, (86, 0, 0, 0), 0, []),
  (150, false, .iastore, 1, 0, (76, 0, 0, 0), 0, []),
  (151, false, .aload_n 0, 1, 0, (0, 0, 0, 0), 0, []),
  (152, false, .getfield 126, 3, 839, (40, 45, 79, 1), 0, []),
  (155, false, .iload 5, 2, 0, (0, 0, 0, 0), 0, []),
  (157, false, .iload_n 1, 1, 0, (0, 0, 0, 0), 0, []),
  (158, false, .iastore, 1, 0, (77, 0, 0, 0), 0, []),
  (159, false, .aload_n 0, 1, 0, (0, 0, 0, 0), 0, []),
  (160, false, .getfield 129, 3, 840, (40, 46, 80, 1), 0, []),
  (163, false, .iload 5, 2, 0, (0, 0, 0, 0), 0, []),
  (165, false, .iload_n 1, 1, 0, (0, 0, 0, 0), 0, []),
  (166, false, .aload_n 0, 1, 0, (0, 0, 0, 0), 0, []),
  (167, false, .getfield 35, 3, 807, (40, 13, 49, 1), 0, []),
  (170, false, .iload_n 3, 1, 0, (0, 0, 0, 0), 0, []),
  (171, false, .iaload, 1, 0, (47, 0, 0, 0), 0, []),
  (172, false, .iadd, 1, 0, (0, 0, 0, 0), 0, []),
  (173, false, .iastore, 1, 0, (78, 0, 0, 0), 0, []),
  (174, false, .aload_n 0, 1, 0, (0, 0, 0, 0), 0, []),
  (175, false, .getfield 132, 3, 841, (40, 47, 81, 1), 0, []),
  (178, false, .iload 5, 2, 0, (0, 0, 0, 0), 0, []),
  (180, false, .iconst (-1), 1, 0, (0, 0, 0, 0), 0, []),
  (181, false, .iastore, 1, 0, (79, 0, 0, 0), 0, []),
  (182, false, .aload_n 0, 1, 0, (0, 0, 0, 0), 0, []),
  (183, false, .getfield 135, 3, 842, (40, 48, 82, 1), 0, []),
  (186, false, .iload 5, 2, 0, (0, 0, 0, 0), 0, []),
  (188, false, .iconst 0, 1, 0, (0, 0, 0, 0), 0, []),
  (189, false, .iastore, 1, 0, (80, 0, 0, 0), 0, []),
  (190, false, .aload_n 0, 1, 0, (0, 0, 0, 0), 0, []),
  (191, false, .getfield 138, 3, 843, (40, 49, 83, 1), 0, []),
  (194, false, .iload 5, 2, 0, (0, 0, 0, 0), 0, []),
  (196, false, .iconst (-1), 1, 0, (0, 0, 0, 0), 0, []),
  (197, false, .iastore, 1, 0, (81, 0, 0, 0), 0, []),
  (198, false, .aload_n 0, 1, 0, (0, 0, 0, 0), 0, []),
  (199, false, .getfield 141, 3, 844, (40, 50, 84, 1), 0, []),
  (202, false, .iload 5, 2, 0, (0, 0, 0, 0), 0, []),
  (204, false, .iload 4, 2, 0, (0, 0, 0, 0), 0, []),
  (206, false, .iastore, 1, 0, (82, 0, 0, 0), 0, []),
  (207, false, .aload_n 0, 1, 0, (0, 0, 0, 0), 0, []),
  (208, false, .getfield 144, 3, 845, (40, 51, 85, 1), 0, []),
  (211, false, .iload 5, 2, 0, (0, 0, 0, 0), 0, []),
  (213, false, .aload_n 0, 1, 0, (0, 0, 0, 0), 0, []),
  (214, false, .getfield 41, 3, 809, (40, 15, 51, 1), 0, []),
  (217, false, .iload_n 3, 1, 0, (0, 0, 0, 0), 0, []),
  (218, false, .iaload, 1, 0, (49, 0, 0, 0), 0, []),
  (219, false, .iastore, 1, 0, (83, 0, 0, 0), 0, []),
  (220, false, .aload_n 0, 1, 0, (0, 0, 0, 0), 0, []),
  (221, false, .getfield 147, 3, 846, (40, 52, 86, 1), 0, []),
  (224, false, .iload 5, 2, 0, (0, 0, 0, 0), 0, []),
  (226, false, .aload_n 0, 1, 0, (0, 0, 0, 0), 0, []),
  (227, false, .getfield 77, 3, 821, (40, 27, 63, 1), 0, []),
  (230, false, .iload_n 3, 1, 0, (0, 0, 0, 0), 0, []),
  (231, false, .iaload, 1, 0, (61, 0, 0, 0), 0, []),
  (232, false, .iastore, 1, 0, (84, 0, 0, 0), 0, []),
  (233, false, .aload_n 0, 1, 0, (0, 0, 0, 0), 0, []),
  (234, false, .getfield 16, 3, 799, (40, 5, 43, 1), 0, []),
  (237, false, .iload 4, 2, 0, (0, 0, 0, 0), 0, []),
  (239, false, .iload 5, 2, 0, (0, 0, 0, 0), 0, []),
  (241, false, .iastore, 1, 0, (41, 0, 0, 0), 0, []),
  (242, false, .aload_n 0, 1, 0, (0, 0, 0, 0), 0, []),
  (243, false, .iload_n 2, 1, 0, (0, 0, 0, 0), 0, []),
  (244, false, .invokevirtual 238, 3, 1032, (126, 2, 999, 0), 0, [0, 42]),
  (247, false, .iconst 1, 1, 0, (0, 0, 0, 0), 0, []),
  (248, false, .ireturn, 1, 0, (0, 0, 0, 0), 0, [])]
noncomputable def m_begins_90 : Nat → Int → Int → Int → Int → zz_S → zz_R
  | 0, _, _, _, _, _ => none
  | n + 1, v1, v2, v3, v4, σ => (if zz_b σ 41 1 v4 then (if (zz_h σ 41 1 v4) = (-1) then (let s1 := zz_w σ 40 1 42 (zz_r ((zz_h σ 40 1 42) + 1)); (if zz_b s1 61 1 v3 then (if zz_b s1 61 1 v3 then (let s2 := zz_w s1 61 1 v3 (zz_r ((zz_h s1 61 1 v3) + 1)); (if zz_b s2 75 1 (zz_h σ 40 1 42) then (let s3 := zz_w s2 75 1 (zz_h σ 40 1 42) v3; (if zz_b s3 86 1 v2 then (if zz_b s3 76 1 (zz_h σ 40 1 42) then (let s4 := zz_w s3 76 1 (zz_h σ 40 1 42) (zz_h s3 86 1 v2); (if zz_b s4 77 1 (zz_h σ 40 1 42) then (let s5 := zz_w s4 77 1 (zz_h σ 40 1 42) v1; (if zz_b s5 47 1 v3 then (if zz_b s5 78 1 (zz_h σ 40 1 42) then (let s6 := zz_w s5 78 1 (zz_h σ 40 1 42) (zz_r (v1 + (zz_h s5 47 1 v3))); (if zz_b s6 79 1 (zz_h σ 40 1 42) then (let s7 := zz_w s6 79 1 (zz_h σ 40 1 42) (-1); (if zz_b s7 80 1 (zz_h σ 40 1 42) then (let s8 := zz_w s7 80 1 (zz_h σ 40 1 42) 0; (if zz_b s8 81 1 (zz_h σ 40 1 42) then (let s9 := zz_w s8 81 1 (zz_h σ 40 1 42) (-1); (if zz_b s9 82 1 (zz_h σ 40 1 42) then (let s10 := zz_w s9 82 1 (zz_h σ 40 1 42) v4; (if zz_b s10 49 1 v3 then (if zz_b s10 83 1 (zz_h σ 40 1 42) then (let s11 := zz_w s10 83 1 (zz_h σ 40 1 42) (zz_h s10 49 1 v3); (if zz_b s11 61 1 v3 then (if zz_b s11 84 1 (zz_h σ 40 1 42) then (let s12 := zz_w s11 84 1 (zz_h σ 40 1 42) (zz_h s11 61 1 v3); (if zz_b s12 41 1 v4 then (let s13 := zz_w s12 41 1 v4 (zz_h σ 40 1 42); ((m_takeDue v2 s13).bind fun q14 => (some (1, q14.2)))) else none)) else none) else none)) else none) else none)) else none)) else none)) else none)) else none)) else none) else none)) else none)) else none) else none)) else none)) else none) else none)) else (m_begins_90 n v1 v2 v3 (zz_r (v4 + 1)) σ)) else none)
set_option maxRecDepth 100000 in
set_option maxHeartbeats 4000000 in
theorem ze_m_begins_90 (n : Nat) (v1 v2 v3 v4 : Int) (σ : zz_S) : m_begins_90 (n + 1) v1 v2 v3 v4 σ = zz_ev (zz_CE [(126, zw_m_takeDue)]) (zz_KE [(90, [(0, 42, true), (1, 0, false), (2, 0, false), (3, 0, false), (4, 0, false)], fun vs σ => match vs with | [b0, b1, b2, b3] => m_begins_90 n b0 b1 b2 b3 σ | _ => none)]) zk_m_begins 0 true 0 1 400 true (zz_sk zk_m_begins 90) [(0, 42, 1), (1, 0, v1), (2, 0, v2), (3, 0, v3), (4, 0, v4)] [] σ := rfl
noncomputable def m_begins_27 : Nat → Int → Int → Int → zz_S → zz_R
  | 0, _, _, _, _ => none
  | n + 1, v1, v2, v3, σ => (if v3 < (zz_h σ 40 1 53) then (if zz_b σ 85 1 v3 then ((m_canBegin (zz_h σ 85 1 v3) σ).bind fun q1 => (if q1.1 = 0 then (m_begins_27 n v1 v2 (zz_r (v3 + 1)) q1.2) else (if v2 = (-1) then (m_begins_27 n v1 v3 (zz_r (v3 + 1)) q1.2) else ((m_isAhead v3 v2 q1.2).bind fun q2 => (if q2.1 = 0 then (m_begins_27 n v1 v2 (zz_r (v3 + 1)) q2.2) else (m_begins_27 n v1 v3 (zz_r (v3 + 1)) q2.2)))))) else none) else (if v2 = (-1) then (some (0, σ)) else (if zz_b σ 85 1 v2 then (m_begins_90 zz_fu v1 v2 (zz_h σ 85 1 v2) 0 σ) else none)))
set_option maxRecDepth 100000 in
set_option maxHeartbeats 4000000 in
theorem ze_m_begins_27 (n : Nat) (v1 v2 v3 : Int) (σ : zz_S) : m_begins_27 (n + 1) v1 v2 v3 σ = zz_ev (zz_CE [(138, zw_m_canBegin), (140, zw_m_isAhead)]) (zz_KE [(27, [(0, 42, true), (1, 0, false), (2, 0, false), (3, 0, false)], fun vs σ => match vs with | [b0, b1, b2] => m_begins_27 n b0 b1 b2 σ | _ => none), (90, [(0, 42, true), (1, 0, false), (2, 0, false), (3, 0, false), (4, 0, false)], fun vs σ => match vs with | [b0, b1, b2, b3] => m_begins_90 zz_fu b0 b1 b2 b3 σ | _ => none)]) zk_m_begins 0 true 0 1 400 true (zz_sk zk_m_begins 27) [(0, 42, 1), (1, 0, v1), (2, 0, v2), (3, 0, v3)] [] σ := rfl
noncomputable def m_begins (v1 : Int) (σ : zz_S) : zz_R := (if (zz_h σ 40 1 42) = 2000 then (some (0, σ)) else ((m_atWork σ).bind fun q1 => (if q1.1 = (zz_h q1.2 40 1 4) then (some (0, q1.2)) else (m_begins_27 zz_fu v1 (-1) 0 q1.2))))
set_option maxRecDepth 100000 in
set_option maxHeartbeats 4000000 in
theorem ze_m_begins (v1 : Int) (σ : zz_S) : m_begins v1 σ = zz_ev (zz_CE [(111, zw_m_atWork)]) (zz_KE [(27, [(0, 42, true), (1, 0, false), (2, 0, false), (3, 0, false)], fun vs σ => match vs with | [b0, b1, b2] => m_begins_27 zz_fu b0 b1 b2 σ | _ => none)]) zk_m_begins 0 true 0 1 400 true (zz_sk zk_m_begins 0) [(0, 42, 1), (1, 0, v1)] [] σ := rfl
noncomputable def zw_m_begins : List Int → zz_S → zz_R := fun vs σ => match vs with
  | [a0, a1] => if a0 = 1 then m_begins a1 σ else none
  | _ => none
def zk_m_treat : List zz_E := [(0, false, .iconst 0, 1, 0, (0, 0, 0, 0), 0, []),
  (1, false, .istore_n 2, 1, 0, (0, 0, 0, 0), 0, []),
  (2, true, .iload_n 2, 1, 0, (0, 0, 0, 0), 0, []),
  (3, false, .aload_n 0, 1, 0, (0, 0, 0, 0), 0, []),
  (4, false, .getfield 171, 3, 803, (40, 9, 0, 0), 0, []),
  (7, false, .if_icmp .ge 28, 3, 0, (35, 0, 0, 0), 0, []),
  (10, false, .aload_n 0, 1, 0, (0, 0, 0, 0), 0, []),
  (11, false, .getfield 80, 3, 822, (40, 28, 64, 1), 0, []),
  (14, false, .iload_n 2, 1, 0, (0, 0, 0, 0), 0, []),
  (15, false, .aload_n 0, 1, 0, (0, 0, 0, 0), 0, []),
  (16, false, .getfield 84, 3, 823, (40, 29, 65, 1), 0, []),
  (19, false, .iload_n 2, 1, 0, (0, 0, 0, 0), 0, []),
  (20, false, .baload, 1, 0, (63, 0, 0, 0), 0, []),
  (21, false, .bastore, 1, 0, (62, 0, 0, 0), 0, []),
  (22, false, .aload_n 0, 1, 0, (0, 0, 0, 0), 0, []),
  (23, false, .getfield 84, 3, 823, (40, 29, 65, 1), 0, []),
  (26, false, .iload_n 2, 1, 0, (0, 0, 0, 0), 0, []),
  (27, false, .iconst 0, 1, 0, (0, 0, 0, 0), 0, []),
  (28, false, .bastore, 1, 0, (63, 0, 0, 0), 0, []),
  (29, false, .iinc 2 1, 3, 0, (0, 0, 0, 0), 0, []),
  (32, false, .goto (-30), 3, 0, (2, 0, 0, 0), 0, []),
  (35, false, .iconst 0, 1, 0, (0, 0, 0, 0), 0, []),
  (36, false, .istore_n 2, 1, 0, (0, 0, 0, 0), 0, []),
  (37, true, .iload_n 2, 1, 0, (0, 0, 0, 0), 0, []),
  (38, false, .aload_n 0, 1, 0, (0, 0, 0, 0), 0, []),
  (39, false, .getfield 247, 3, 836, (40, 42, 0, 0), 0, []),
  (42, false, .if_icmp .ge 34, 3, 0, (76, 0, 0, 0), 0, []),
  (45, false, .aload_n 0, 1, 0, (0, 0, 0, 0), 0, []),
  (46, false, .getfield 135, 3, 842, (40, 48, 82, 1), 0, []),
  (49, false, .iload_n 2, 1, 0, (0, 0, 0, 0), 0, []),
  (50, false, .iaload, 1, 0, (80, 0, 0, 0), 0, []),
  (51, false, .ifCond .ne 19, 3, 0, (70, 0, 0, 0), 0, []),
  (54, false, .aload_n 0, 1, 0, (0, 0, 0, 0), 0, []),
  (55, false, .getfield 129, 3, 840, (40, 46, 80, 1), 0, []),
  (58, false, .iload_n 2, 1, 0, (0, 0, 0, 0), 0, []),
  (59, false, .iaload, 1, 0, (78, 0, 0, 0), 0, []),
  (60, false, .iload_n 1, 1, 0, (0, 0, 0, 0), 0, []),
  (61, false, .if_icmp .ne 9, 3, 0, (70, 0, 0, 0), 0, []),
  (64, false, .aload_n 0, 1, 0, (0, 0, 0, 0), 0, []),
  (65, false, .iload_n 2, 1, 0, (0, 0, 0, 0), 0, []),
  (66, false, .iload_n 1, 1, 0, (0, 0, 0, 0), 0, []),
  (67, false, .invokevirtual 278, 3, 1005, (133, 3, 999, 0), 0, [0, 0, 42]),
  (70, false, .iinc 2 1, 3, 0, (0, 0, 0, 0), 0, []),
  (73, false, .goto (-36), 3, 0, (37, 0, 0, 0), 0, []),
  (76, false, .iconst 0, 1, 0, (0, 0, 0, 0), 0, []),
  (77, false, .istore_n 2, 1, 0, (0, 0, 0, 0), 0, []),
  (78, true, .iload_n 2, 1, 0, (0, 0, 0, 0), 0, []),
  (79, false, .aload_n 0, 1, 0, (0, 0, 0, 0), 0, []),
  (80, false, .getfield 171, 3, 803, (40, 9, 0, 0), 0, []),
  (83, false, .if_icmp .ge 67, 3, 0, (150, 0, 0, 0), 0, []),
  (86, false, .aload_n 0, 1, 0, (0, 0, 0, 0), 0, []),
  (87, false, .iload_n 2, 1, 0, (0, 0, 0, 0), 0, []),
  (88, false, .invokevirtual 241, 3, 1024, (110, 2, 0, 0), 0, [0, 42]),
  (91, false, .ifCond .ne 6, 3, 0, (97, 0, 0, 0), 0, []),
  (94, false, .goto 50, 3, 0, (144, 0, 0, 0), 0, []),
  (97, false, .aload_n 0, 1, 0, (0, 0, 0, 0), 0, []),
  (98, false, .iload_n 2, 1, 0, (0, 0, 0, 0), 0, []),
  (99, false, .iload_n 1, 1, 0, (0, 0, 0, 0), 0, []),
  (100, false, .invokevirtual 281, 3, 1064, (136, 3, 0, 0), 0, [0, 0, 42]),
  (103, false, .ifCond .eq 26, 3, 0, (129, 0, 0, 0), 0, []),
  (106, false, .aload_n 0, 1, 0, (0, 0, 0, 0), 0, []),
  (107, false, .getfield 26, 3, 804, (40, 10, 46, 1), 0, []),
  (110, false, .iload_n 2, 1, 0, (0, 0, 0, 0), 0, []),
  (111, false, .iaload, 1, 0, (44, 0, 0, 0), 0, []),
  (112, false, .iconst 2, 1, 0, (0, 0, 0, 0), 0, []),
  (113, false, .if_icmp .ne 10, 3, 0, (123, 0, 0, 0), 0, []),
  (116, false, .aload_n 0, 1, 0, (0, 0, 0, 0), 0, []),
  (117, false, .getfield 65, 3, 817, (40, 23, 59, 1), 0, []),
  (120, false, .iload_n 2, 1, 0, (0, 0, 0, 0), 0, []),
  (121, false, .iconst (-1), 1, 0, (0, 0, 0, 0), 0, []),
  (122, false, .iastore, 1, 0, (57, 0, 0, 0), 0, []),
  (123, false, .aload_n 0, 1, 0, (0, 0, 0, 0), 0, []),
  (124, false, .iload_n 2, 1, 0, (0, 0, 0, 0), 0, []),
  (125, false, .iload_n 1, 1, 0, (0, 0, 0, 0), 0, []),
  (126, false, .invokevirtual 244, 3, 1048, (125, 3, 999, 0), 0, [0, 0, 42]),
  (129, true, .aload_n 0, 1, 0, (0, 0, 0, 0), 0, []),
  (130, false, .getfield 80, 3, 822, (40, 28, 64, 1), 0, []),
  (133, false, .iload_n 2, 1, 0, (0, 0, 0, 0), 0, []),
  (134, false, .baload, 1, 0, (62, 0, 0, 0), 0, []),
  (135, false, .ifCond .eq 9, 3, 0, (144, 0, 0, 0), 0, []),
  (138, false, .aload_n 0, 1, 0, (0, 0, 0, 0), 0, []),
  (139, false, .iload_n 2, 1, 0, (0, 0, 0, 0), 0, []),
  (140, false, .iload_n 1, 1, 0, (0, 0, 0, 0), 0, []),
  (141, false, .invokevirtual 244, 3, 1048, (125, 3, 999, 0), 0, [0, 0, 42]),
  (144, false, .iinc 2 1, 3, 0, (0, 0, 0, 0), 0, []),
  (147, false, .goto (-69), 3, 0, (78, 0, 0, 0), 0, []),
  (150, false, .iload_n 1, 1, 0, (0, 0, 0, 0), 0, []),
  (151, false, .aload_n 0, 1, 0, (0, 0, 0, 0), 0, []),
  (152, false, .getfield 214, 3, 795, (40, 1, 0, 0), 0, []),
  (155, false, .iadd, 1, 0, (0, 0, 0, 0), 0, []),
  (156, false, .aload_n 0, 1, 0, (0, 0, 0, 0), 0, []),
  (157, false, .getfield 7, 3, 796, (40, 2, 0, 0), 0, []),
  (160, false, .if_icmp .le 13, 3, 0, (173, 0, 0, 0), 0, []),
  (163, false, .aload_n 0, 1, 0, (0, 0, 0, 0), 0, []),
  (164, false, .iload_n 1, 1, 0, (0, 0, 0, 0), 0, []),
  (165, false, .aload_n 0, 1, 0, (0, 0, 0, 0), 0, []),
  (166, false, .getfield 214, 3, 795, (40, 1, 0, 0), 0, []),
  (169, false, .iadd, 1, 0, (0, 0, 0, 0), 0, []),
  (170, false, .putfield 7, 3, 796, (40, 2, 0, 0), 0, []),
  (173, false, .aload_n 0, 1, 0, (0, 0, 0, 0), 0, []),
  (174, false, .iload_n 1, 1, 0, (0, 0, 0, 0), 0, []),
  (175, false, .invokevirtual 284, 3, 1087, (137, 2, 999, 0), 0, [0, 42]),
  (178, true, .aload_n 0, 1, 0, (0, 0, 0, 0), 0, []),
  (179, false, .iload_n 1, 1, 0, (0, 0, 0, 0), 0, []),
  (180, false, .invokevirtual 287, 3, 1095, (139, 2, 0, 0), 0, [0, 42]),
  (183, false, .ifCond .eq 16, 3, 0, (199, 0, 0, 0), 0, []),
  (186, false, .aload_n 0, 1, 0, (0, 0, 0, 0), 0, []),
  (187, false, .dup, 1, 0, (0, 0, 0, 0), 0, []),
  (188, false, .getfield 290, 3, 860, (40, 66, 0, 0), 0, []),
  (191, false, .iconst 1, 1, 0, (0, 0, 0, 0), 0, []),
  (192, false, .iadd, 1, 0, (0, 0, 0, 0), 0, []),
  (193, false, .putfield 290, 3, 860, (40, 66, 0, 0), 0, []),
  (196, false, .goto (-18), 3, 0, (178, 0, 0, 0), 0, []),
  (199, false, .iconst 0, 1, 0, (0, 0, 0, 0), 0, []),
  (200, false, .istore_n 2, 1, 0, (0, 0, 0, 0), 0, []),
  (201, true, .iload_n 2, 1, 0, (0, 0, 0, 0), 0, []),
  (202, false, .aload_n 0, 1, 0, (0, 0, 0, 0), 0, []),
  (203, false, .getfield 13, 3, 798, (40, 4, 0, 0), 0, []),
  (206, false, .if_icmp .ge 29, 3, 0, (235, 0, 0, 0), 0, []),
  (209, false, .aload_n 0, 1, 0, (0, 0, 0, 0), 0, []),
  (210, false, .getfield 16, 3, 799, (40, 5, 43, 1), 0, []),
  (213, false, .iload_n 2, 1, 0, (0, 0, 0, 0), 0, []),
  (214, false, .iaload, 1, 0, (41, 0, 0, 0), 0, []),
  (215, false, .iconst (-1), 1, 0, (0, 0, 0, 0), 0, []),
  (216, false, .if_icmp .ne 13, 3, 0, (229, 0, 0, 0), 0, []),
  (219, false, .aload_n 0, 1, 0, (0, 0, 0, 0), 0, []),
  (220, false, .getfield 20, 3, 800, (40, 6, 44, 1), 0, []),
  (223, false, .iload_n 2, 1, 0, (0, 0, 0, 0), 0, []),
  (224, false, .dup2, 1, 0, (0, 0, 0, 0), 0, []),
  (225, false, .iaload, 1, 0, (42, 0, 0, 0), 0, []),
  (226, false, .iconst 1, 1, 0, (0, 0, 0, 0), 0, []),
  (227, false, .iadd, 1, 0, (0, 0, 0, 0), 0, []),
  (228, false, .iastore, 1, 0, (42, 0, 0, 0), 0, []),
  (229, false, .iinc 2 1, 3, 0, (0, 0, 0, 0), 0, []),
  (232, false, .goto (-31), 3, 0, (201, 0, 0, 0), 0, []),
  (235, false, .return_, 1, 0, (0, 0, 0, 0), 0, [])]
noncomputable def m_treat_201 : Nat → Int → zz_S → zz_R
  | 0, _, _ => none
  | n + 1, v2, σ => (if v2 < (zz_h σ 40 1 4) then (if zz_b σ 41 1 v2 then (if (zz_h σ 41 1 v2) = (-1) then (if zz_b σ 42 1 v2 then (if zz_b σ 42 1 v2 then (let s1 := zz_w σ 42 1 v2 (zz_r ((zz_h σ 42 1 v2) + 1)); (m_treat_201 n (zz_r (v2 + 1)) s1)) else none) else none) else (m_treat_201 n (zz_r (v2 + 1)) σ)) else none) else (some (0, σ)))
set_option maxRecDepth 100000 in
set_option maxHeartbeats 4000000 in
theorem ze_m_treat_201 (n : Nat) (v2 : Int) (σ : zz_S) : m_treat_201 (n + 1) v2 σ = zz_ev (zz_CE []) (zz_KE [(201, [(0, 42, true), (2, 0, false)], fun vs σ => match vs with | [b0] => m_treat_201 n b0 σ | _ => none)]) zk_m_treat 999 false 0 1 400 true (zz_sk zk_m_treat 201) [(0, 42, 1), (2, 0, v2)] [] σ := rfl
noncomputable def m_treat_178 : Nat → Int → zz_S → zz_R
  | 0, _, _ => none
  | n + 1, v1, σ => ((m_begins v1 σ).bind fun q1 => (if q1.1 = 0 then (m_treat_201 zz_fu 0 q1.2) else (let s2 := zz_w q1.2 40 1 66 (zz_r ((zz_h q1.2 40 1 66) + 1)); (m_treat_178 n v1 s2))))
set_option maxRecDepth 100000 in
set_option maxHeartbeats 4000000 in
theorem ze_m_treat_178 (n : Nat) (v1 : Int) (σ : zz_S) : m_treat_178 (n + 1) v1 σ = zz_ev (zz_CE [(139, zw_m_begins)]) (zz_KE [(178, [(0, 42, true), (1, 0, false)], fun vs σ => match vs with | [b0] => m_treat_178 n b0 σ | _ => none), (201, [(0, 42, true), (2, 0, false)], fun vs σ => match vs with | [b0] => m_treat_201 zz_fu b0 σ | _ => none)]) zk_m_treat 999 false 0 1 400 true (zz_sk zk_m_treat 178) [(0, 42, 1), (1, 0, v1)] [] σ := rfl
noncomputable def m_treat_129 (k78 : Int → Int → zz_S → zz_R) (v1 v2 : Int) (σ : zz_S) : zz_R := (if zz_b σ 62 1 v2 then (if (zz_h σ 62 1 v2) = 0 then (k78 v1 (zz_r (v2 + 1)) σ) else ((m_comes v2 v1 σ).bind fun q1 => (k78 v1 (zz_r (v2 + 1)) q1.2))) else none)
set_option maxRecDepth 100000 in
set_option maxHeartbeats 4000000 in
theorem ze_m_treat_129 (k78 : Int → Int → zz_S → zz_R) (v1 v2 : Int) (σ : zz_S) : m_treat_129 k78 v1 v2 σ = zz_ev (zz_CE [(125, zw_m_comes)]) (zz_KE [(78, [(0, 42, true), (1, 0, false), (2, 0, false)], fun vs σ => match vs with | [b0, b1] => k78 b0 b1 σ | _ => none)]) zk_m_treat 999 false 0 1 400 true (zz_sk zk_m_treat 129) [(0, 42, 1), (1, 0, v1), (2, 0, v2)] [] σ := rfl
noncomputable def m_treat_78 : Nat → Int → Int → zz_S → zz_R
  | 0, _, _, _ => none
  | n + 1, v1, v2, σ => (if v2 < (zz_h σ 40 1 9) then ((m_isActive v2 σ).bind fun q1 => (if q1.1 = 0 then (m_treat_78 n v1 (zz_r (v2 + 1)) q1.2) else ((m_isDue v2 v1 q1.2).bind fun q2 => (if q2.1 = 0 then (m_treat_129 (m_treat_78 n) v1 v2 q2.2) else (if zz_b q2.2 44 1 v2 then (if (zz_h q2.2 44 1 v2) = 2 then (if zz_b q2.2 57 1 v2 then (let s3 := zz_w q2.2 57 1 v2 (-1); ((m_comes v2 v1 s3).bind fun q4 => (m_treat_129 (m_treat_78 n) v1 v2 q4.2))) else none) else ((m_comes v2 v1 q2.2).bind fun q5 => (m_treat_129 (m_treat_78 n) v1 v2 q5.2))) else none))))) else (if (zz_r (v1 + (zz_h σ 40 1 1))) ≤ (zz_h σ 40 1 2) then ((m_misses v1 σ).bind fun q6 => (m_treat_178 zz_fu v1 q6.2)) else (let s7 := zz_w σ 40 1 2 (zz_r (v1 + (zz_h σ 40 1 1))); ((m_misses v1 s7).bind fun q8 => (m_treat_178 zz_fu v1 q8.2)))))
set_option maxRecDepth 100000 in
set_option maxHeartbeats 4000000 in
theorem ze_m_treat_78 (n : Nat) (v1 v2 : Int) (σ : zz_S) : m_treat_78 (n + 1) v1 v2 σ = zz_ev (zz_CE [(110, zw_m_isActive), (125, zw_m_comes), (136, zw_m_isDue), (137, zw_m_misses)]) (zz_KE [(78, [(0, 42, true), (1, 0, false), (2, 0, false)], fun vs σ => match vs with | [b0, b1] => m_treat_78 n b0 b1 σ | _ => none), (129, [(0, 42, true), (1, 0, false), (2, 0, false)], fun vs σ => match vs with | [b0, b1] => m_treat_129 (m_treat_78 n) b0 b1 σ | _ => none), (178, [(0, 42, true), (1, 0, false)], fun vs σ => match vs with | [b0] => m_treat_178 zz_fu b0 σ | _ => none)]) zk_m_treat 999 false 0 1 400 true (zz_sk zk_m_treat 78) [(0, 42, 1), (1, 0, v1), (2, 0, v2)] [] σ := rfl
noncomputable def m_treat_37 : Nat → Int → Int → zz_S → zz_R
  | 0, _, _, _ => none
  | n + 1, v1, v2, σ => (if v2 < (zz_h σ 40 1 42) then (if zz_b σ 80 1 v2 then (if (zz_h σ 80 1 v2) = 0 then (if zz_b σ 78 1 v2 then (if (zz_h σ 78 1 v2) = v1 then ((m_ends v2 v1 σ).bind fun q1 => (m_treat_37 n v1 (zz_r (v2 + 1)) q1.2)) else (m_treat_37 n v1 (zz_r (v2 + 1)) σ)) else none) else (m_treat_37 n v1 (zz_r (v2 + 1)) σ)) else none) else (m_treat_78 zz_fu v1 0 σ))
set_option maxRecDepth 100000 in
set_option maxHeartbeats 4000000 in
theorem ze_m_treat_37 (n : Nat) (v1 v2 : Int) (σ : zz_S) : m_treat_37 (n + 1) v1 v2 σ = zz_ev (zz_CE [(133, zw_m_ends)]) (zz_KE [(37, [(0, 42, true), (1, 0, false), (2, 0, false)], fun vs σ => match vs with | [b0, b1] => m_treat_37 n b0 b1 σ | _ => none), (78, [(0, 42, true), (1, 0, false), (2, 0, false)], fun vs σ => match vs with | [b0, b1] => m_treat_78 zz_fu b0 b1 σ | _ => none)]) zk_m_treat 999 false 0 1 400 true (zz_sk zk_m_treat 37) [(0, 42, 1), (1, 0, v1), (2, 0, v2)] [] σ := rfl
noncomputable def m_treat_2 : Nat → Int → Int → zz_S → zz_R
  | 0, _, _, _ => none
  | n + 1, v1, v2, σ => (if v2 < (zz_h σ 40 1 9) then (if zz_b σ 63 1 v2 then (if zz_b σ 62 1 v2 then (if zz_o (zz_h σ 63 1 v2) then (let s1 := zz_w σ 62 1 v2 (zz_h σ 63 1 v2); (if zz_b s1 63 1 v2 then (let s2 := zz_w s1 63 1 v2 0; (m_treat_2 n v1 (zz_r (v2 + 1)) s2)) else none)) else none) else none) else none) else (m_treat_37 zz_fu v1 0 σ))
set_option maxRecDepth 100000 in
set_option maxHeartbeats 4000000 in
theorem ze_m_treat_2 (n : Nat) (v1 v2 : Int) (σ : zz_S) : m_treat_2 (n + 1) v1 v2 σ = zz_ev (zz_CE []) (zz_KE [(2, [(0, 42, true), (1, 0, false), (2, 0, false)], fun vs σ => match vs with | [b0, b1] => m_treat_2 n b0 b1 σ | _ => none), (37, [(0, 42, true), (1, 0, false), (2, 0, false)], fun vs σ => match vs with | [b0, b1] => m_treat_37 zz_fu b0 b1 σ | _ => none)]) zk_m_treat 999 false 0 1 400 true (zz_sk zk_m_treat 2) [(0, 42, 1), (1, 0, v1), (2, 0, v2)] [] σ := rfl
noncomputable def m_treat (v1 : Int) (σ : zz_S) : zz_R := (m_treat_2 zz_fu v1 0 σ)
set_option maxRecDepth 100000 in
set_option maxHeartbeats 4000000 in
theorem ze_m_treat (v1 : Int) (σ : zz_S) : m_treat v1 σ = zz_ev (zz_CE []) (zz_KE [(2, [(0, 42, true), (1, 0, false), (2, 0, false)], fun vs σ => match vs with | [b0, b1] => m_treat_2 zz_fu b0 b1 σ | _ => none)]) zk_m_treat 999 false 0 1 400 true (zz_sk zk_m_treat 0) [(0, 42, 1), (1, 0, v1)] [] σ := rfl
noncomputable def zw_m_treat : List Int → zz_S → zz_R := fun vs σ => match vs with
  | [a0, a1] => if a0 = 1 then m_treat a1 σ else none
  | _ => none
def zk_m_clock : List zz_E := [(0, false, .iload_n 1, 1, 0, (0, 0, 0, 0), 0, []),
  (1, false, .aload_n 0, 1, 0, (0, 0, 0, 0), 0, []),
  (2, false, .getfield 250, 3, 794, (40, 0, 0, 0), 0, []),
  (5, false, .if_icmp .lt 21, 3, 0, (26, 0, 0, 0), 0, []),
  (8, false, .iload_n 1, 1, 0, (0, 0, 0, 0), 0, []),
  (9, false, .aload_n 0, 1, 0, (0, 0, 0, 0), 0, []),
  (10, false, .getfield 250, 3, 794, (40, 0, 0, 0), 0, []),
  (13, false, .isub, 1, 0, (0, 0, 0, 0), 0, []),
  (14, false, .sipush 5000, 3, 0, (0, 0, 0, 0), 0, []),
  (17, false, .if_icmp .gt 9, 3, 0, (26, 0, 0, 0), 0, []),
  (20, false, .iload_n 1, 1, 0, (0, 0, 0, 0), 0, []),
  (21, false, .ldc 209, 2, 1000, (0, 0, 0, 0), 400000, []),
  (23, false, .if_icmp .le 6, 3, 0, (29, 0, 0, 0), 0, []),
  (26, false, .bipush (-2), 2, 0, (0, 0, 0, 0), 0, []),
  (28, false, .ireturn, 1, 0, (0, 0, 0, 0), 0, []),
  (29, false, .aload_n 0, 1, 0, (0, 0, 0, 0), 0, []),
  (30, false, .iconst 0, 1, 0, (0, 0, 0, 0), 0, []),
  (31, false, .putfield 290, 3, 860, (40, 66, 0, 0), 0, []),
  (34, true, .aload_n 0, 1, 0, (0, 0, 0, 0), 0, []),
  (35, false, .getfield 250, 3, 794, (40, 0, 0, 0), 0, []),
  (38, false, .iload_n 1, 1, 0, (0, 0, 0, 0), 0, []),
  (39, false, .if_icmp .ge 24, 3, 0, (63, 0, 0, 0), 0, []),
  (42, false, .aload_n 0, 1, 0, (0, 0, 0, 0), 0, []),
  (43, false, .aload_n 0, 1, 0, (0, 0, 0, 0), 0, []),
  (44, false, .getfield 250, 3, 794, (40, 0, 0, 0), 0, []),
  (47, false, .invokevirtual 312, 3, 1001, (135, 2, 999, 0), 0, [0, 42]),
  (50, false, .aload_n 0, 1, 0, (0, 0, 0, 0), 0, []),
  (51, false, .dup, 1, 0, (0, 0, 0, 0), 0, []),
  (52, false, .getfield 250, 3, 794, (40, 0, 0, 0), 0, []),
  (55, false, .iconst 1, 1, 0, (0, 0, 0, 0), 0, []),
  (56, false, .iadd, 1, 0, (0, 0, 0, 0), 0, []),
  (57, false, .putfield 250, 3, 794, (40, 0, 0, 0), 0, []),
  (60, false, .goto (-26), 3, 0, (34, 0, 0, 0), 0, []),
  (63, false, .aload_n 0, 1, 0, (0, 0, 0, 0), 0, []),
  (64, false, .getfield 290, 3, 860, (40, 66, 0, 0), 0, []),
  (67, false, .ireturn, 1, 0, (0, 0, 0, 0), 0, [])]
noncomputable def m_clock_34 : Nat → Int → zz_S → zz_R
  | 0, _, _ => none
  | n + 1, v1, σ => (if (zz_h σ 40 1 0) < v1 then ((m_treat (zz_h σ 40 1 0) σ).bind fun q1 => (let s2 := zz_w q1.2 40 1 0 (zz_r ((zz_h q1.2 40 1 0) + 1)); (m_clock_34 n v1 s2))) else (some ((zz_h σ 40 1 66), σ)))
set_option maxRecDepth 100000 in
set_option maxHeartbeats 4000000 in
theorem ze_m_clock_34 (n : Nat) (v1 : Int) (σ : zz_S) : m_clock_34 (n + 1) v1 σ = zz_ev (zz_CE [(135, zw_m_treat)]) (zz_KE [(34, [(0, 42, true), (1, 0, false)], fun vs σ => match vs with | [b0] => m_clock_34 n b0 σ | _ => none)]) zk_m_clock 0 false 0 1 400 true (zz_sk zk_m_clock 34) [(0, 42, 1), (1, 0, v1)] [] σ := rfl
noncomputable def m_clock (v1 : Int) (σ : zz_S) : zz_R := (if v1 < (zz_h σ 40 1 0) then (some ((-2), σ)) else (if (zz_r (v1 - (zz_h σ 40 1 0))) ≤ 5000 then (if v1 ≤ 400000 then (let s1 := zz_w σ 40 1 66 0; (m_clock_34 zz_fu v1 s1)) else (some ((-2), σ))) else (some ((-2), σ))))
set_option maxRecDepth 100000 in
set_option maxHeartbeats 4000000 in
theorem ze_m_clock (v1 : Int) (σ : zz_S) : m_clock v1 σ = zz_ev (zz_CE []) (zz_KE [(34, [(0, 42, true), (1, 0, false)], fun vs σ => match vs with | [b0] => m_clock_34 zz_fu b0 σ | _ => none)]) zk_m_clock 0 false 0 1 400 true (zz_sk zk_m_clock 0) [(0, 42, 1), (1, 0, v1)] [] σ := rfl
noncomputable def zw_m_clock : List Int → zz_S → zz_R := fun vs σ => match vs with
  | [a0, a1] => if a0 = 1 then m_clock a1 σ else none
  | _ => none
def zk_m_workers : List zz_E := [(0, false, .iload_n 1, 1, 0, (0, 0, 0, 0), 0, []),
  (1, false, .iconst 1, 1, 0, (0, 0, 0, 0), 0, []),
  (2, false, .bipush 8, 2, 0, (0, 0, 0, 0), 0, []),
  (4, false, .invokestatic 174, 3, 1021, (108, 3, 0, 0), 0, [0, 0, 0]),
  (7, false, .ifCond .ne 6, 3, 0, (13, 0, 0, 0), 0, []),
  (10, false, .bipush (-2), 2, 0, (0, 0, 0, 0), 0, []),
  (12, false, .ireturn, 1, 0, (0, 0, 0, 0), 0, []),
  (13, false, .aload_n 0, 1, 0, (0, 0, 0, 0), 0, []),
  (14, false, .invokevirtual 302, 3, 1099, (111, 1, 0, 0), 0, [42]),
  (17, false, .ifCond .le 6, 3, 0, (23, 0, 0, 0), 0, []),
  (20, false, .bipush (-3), 2, 0, (0, 0, 0, 0), 0, []),
  (22, false, .ireturn, 1, 0, (0, 0, 0, 0), 0, []),
  (23, false, .aload_n 0, 1, 0, (0, 0, 0, 0), 0, []),
  (24, false, .iload_n 1, 1, 0, (0, 0, 0, 0), 0, []),
  (25, false, .putfield 13, 3, 798, (40, 4, 0, 0), 0, []),
  (28, false, .iconst 0, 1, 0, (0, 0, 0, 0), 0, []),
  (29, false, .istore_n 2, 1, 0, (0, 0, 0, 0), 0, []),
  (30, true, .iload_n 2, 1, 0, (0, 0, 0, 0), 0, []),
  (31, false, .bipush 8, 2, 0, (0, 0, 0, 0), 0, []),
  (33, false, .if_icmp .ge 16, 3, 0, (49, 0, 0, 0), 0, []),
  (36, false, .aload_n 0, 1, 0, (0, 0, 0, 0), 0, []),
  (37, false, .getfield 20, 3, 800, (40, 6, 44, 1), 0, []),
  (40, false, .iload_n 2, 1, 0, (0, 0, 0, 0), 0, []),
  (41, false, .iconst 0, 1, 0, (0, 0, 0, 0), 0, []),
  (42, false, .iastore, 1, 0, (42, 0, 0, 0), 0, []),
  (43, false, .iinc 2 1, 3, 0, (0, 0, 0, 0), 0, []),
  (46, false, .goto (-16), 3, 0, (30, 0, 0, 0), 0, []),
  (49, false, .iload_n 1, 1, 0, (0, 0, 0, 0), 0, []),
  (50, false, .ireturn, 1, 0, (0, 0, 0, 0), 0, [])]
noncomputable def m_workers_30 : Nat → Int → Int → zz_S → zz_R
  | 0, _, _, _ => none
  | n + 1, v1, v2, σ => (if v2 < 8 then (if zz_b σ 42 1 v2 then (let s1 := zz_w σ 42 1 v2 0; (m_workers_30 n v1 (zz_r (v2 + 1)) s1)) else none) else (some (v1, σ)))
set_option maxRecDepth 100000 in
set_option maxHeartbeats 4000000 in
theorem ze_m_workers_30 (n : Nat) (v1 v2 : Int) (σ : zz_S) : m_workers_30 (n + 1) v1 v2 σ = zz_ev (zz_CE []) (zz_KE [(30, [(0, 42, true), (1, 0, false), (2, 0, false)], fun vs σ => match vs with | [b0, b1] => m_workers_30 n b0 b1 σ | _ => none)]) zk_m_workers 0 false 0 1 400 true (zz_sk zk_m_workers 30) [(0, 42, 1), (1, 0, v1), (2, 0, v2)] [] σ := rfl
noncomputable def m_workers (v1 : Int) (σ : zz_S) : zz_R := ((m_in v1 1 8 σ).bind fun q1 => (if q1.1 = 0 then (some ((-2), q1.2)) else ((m_atWork q1.2).bind fun q2 => (if q2.1 ≤ 0 then (let s3 := zz_w q2.2 40 1 4 v1; (m_workers_30 zz_fu v1 0 s3)) else (some ((-3), q2.2))))))
set_option maxRecDepth 100000 in
set_option maxHeartbeats 4000000 in
theorem ze_m_workers (v1 : Int) (σ : zz_S) : m_workers v1 σ = zz_ev (zz_CE [(108, zw_m_in), (111, zw_m_atWork)]) (zz_KE [(30, [(0, 42, true), (1, 0, false), (2, 0, false)], fun vs σ => match vs with | [b0, b1] => m_workers_30 zz_fu b0 b1 σ | _ => none)]) zk_m_workers 0 false 0 1 400 true (zz_sk zk_m_workers 0) [(0, 42, 1), (1, 0, v1)] [] σ := rfl
noncomputable def zw_m_workers : List Int → zz_S → zz_R := fun vs σ => match vs with
  | [a0, a1] => if a0 = 1 then m_workers a1 σ else none
  | _ => none
def zk_m_group : List zz_E := [(0, false, .iload_n 1, 1, 0, (0, 0, 0, 0), 0, []),
  (1, false, .iconst 1, 1, 0, (0, 0, 0, 0), 0, []),
  (2, false, .bipush 8, 2, 0, (0, 0, 0, 0), 0, []),
  (4, false, .invokestatic 174, 3, 1021, (108, 3, 0, 0), 0, [0, 0, 0]),
  (7, false, .ifCond .ne 6, 3, 0, (13, 0, 0, 0), 0, []),
  (10, false, .bipush (-2), 2, 0, (0, 0, 0, 0), 0, []),
  (12, false, .ireturn, 1, 0, (0, 0, 0, 0), 0, []),
  (13, false, .aload_n 0, 1, 0, (0, 0, 0, 0), 0, []),
  (14, false, .getfield 315, 3, 801, (40, 7, 0, 0), 0, []),
  (17, false, .bipush 8, 2, 0, (0, 0, 0, 0), 0, []),
  (19, false, .if_icmp .ne 6, 3, 0, (25, 0, 0, 0), 0, []),
  (22, false, .bipush (-4), 2, 0, (0, 0, 0, 0), 0, []),
  (24, false, .ireturn, 1, 0, (0, 0, 0, 0), 0, []),
  (25, false, .aload_n 0, 1, 0, (0, 0, 0, 0), 0, []),
  (26, false, .getfield 23, 3, 802, (40, 8, 45, 1), 0, []),
  (29, false, .aload_n 0, 1, 0, (0, 0, 0, 0), 0, []),
  (30, false, .getfield 315, 3, 801, (40, 7, 0, 0), 0, []),
  (33, false, .iload_n 1, 1, 0, (0, 0, 0, 0), 0, []),
  (34, false, .iastore, 1, 0, (43, 0, 0, 0), 0, []),
  (35, false, .aload_n 0, 1, 0, (0, 0, 0, 0), 0, []),
  (36, false, .dup, 1, 0, (0, 0, 0, 0), 0, []),
  (37, false, .getfield 315, 3, 801, (40, 7, 0, 0), 0, []),
  (40, false, .dup_x1, 1, 0, (0, 0, 0, 0), 0, []),
  (41, false, .iconst 1, 1, 0, (0, 0, 0, 0), 0, []),
  (42, false, .iadd, 1, 0, (0, 0, 0, 0), 0, []),
  (43, false, .putfield 315, 3, 801, (40, 7, 0, 0), 0, []),
  (46, false, .ireturn, 1, 0, (0, 0, 0, 0), 0, [])]
noncomputable def m_group (v1 : Int) (σ : zz_S) : zz_R := ((m_in v1 1 8 σ).bind fun q1 => (if q1.1 = 0 then (some ((-2), q1.2)) else (if (zz_h q1.2 40 1 7) = 8 then (some ((-4), q1.2)) else (if zz_b q1.2 43 1 (zz_h q1.2 40 1 7) then (let s2 := zz_w q1.2 43 1 (zz_h q1.2 40 1 7) v1; (let s3 := zz_w s2 40 1 7 (zz_r ((zz_h s2 40 1 7) + 1)); (some ((zz_h s2 40 1 7), s3)))) else none))))
set_option maxRecDepth 100000 in
set_option maxHeartbeats 4000000 in
theorem ze_m_group (v1 : Int) (σ : zz_S) : m_group v1 σ = zz_ev (zz_CE [(108, zw_m_in)]) (zz_KE []) zk_m_group 0 false 0 1 400 true (zz_sk zk_m_group 0) [(0, 42, 1), (1, 0, v1)] [] σ := rfl
noncomputable def zw_m_group : List Int → zz_S → zz_R := fun vs σ => match vs with
  | [a0, a1] => if a0 = 1 then m_group a1 σ else none
  | _ => none
def zk_m_task : List zz_E := [(0, false, .iload_n 1, 1, 0, (0, 0, 0, 0), 0, []),
  (1, false, .iconst 0, 1, 0, (0, 0, 0, 0), 0, []),
  (2, false, .iconst 4, 1, 0, (0, 0, 0, 0), 0, []),
  (3, false, .invokestatic 174, 3, 1021, (108, 3, 0, 0), 0, [0, 0, 0]),
  (6, false, .ifCond .eq 42, 3, 0, (48, 0, 0, 0), 0, []),
  (9, false, .iload_n 1, 1, 0, (0, 0, 0, 0), 0, []),
  (10, false, .iconst 2, 1, 0, (0, 0, 0, 0), 0, []),
  (11, false, .if_icmp .gt 16, 3, 0, (27, 0, 0, 0), 0, []),
  (14, false, .iload_n 2, 1, 0, (0, 0, 0, 0), 0, []),
  (15, false, .aload_n 0, 1, 0, (0, 0, 0, 0), 0, []),
  (16, false, .getfield 250, 3, 794, (40, 0, 0, 0), 0, []),
  (19, false, .ldc 209, 2, 1000, (0, 0, 0, 0), 400000, []),
  (21, false, .invokestatic 174, 3, 1021, (108, 3, 0, 0), 0, [0, 0, 0]),
  (24, false, .ifCond .eq 24, 3, 0, (48, 0, 0, 0), 0, []),
  (27, true, .iload_n 1, 1, 0, (0, 0, 0, 0), 0, []),
  (28, false, .iconst 1, 1, 0, (0, 0, 0, 0), 0, []),
  (29, false, .if_icmp .eq 8, 3, 0, (37, 0, 0, 0), 0, []),
  (32, false, .iload_n 1, 1, 0, (0, 0, 0, 0), 0, []),
  (33, false, .iconst 2, 1, 0, (0, 0, 0, 0), 0, []),
  (34, false, .if_icmp .ne 17, 3, 0, (51, 0, 0, 0), 0, []),
  (37, false, .iload_n 3, 1, 0, (0, 0, 0, 0), 0, []),
  (38, false, .iconst 1, 1, 0, (0, 0, 0, 0), 0, []),
  (39, false, .ldc_w 318, 3, 1127, (0, 0, 0, 0), 100000, []),
  (42, false, .invokestatic 174, 3, 1021, (108, 3, 0, 0), 0, [0, 0, 0]),
  (45, false, .ifCond .ne 6, 3, 0, (51, 0, 0, 0), 0, []),
  (48, false, .bipush (-2), 2, 0, (0, 0, 0, 0), 0, []),
  (50, false, .ireturn, 1, 0, (0, 0, 0, 0), 0, []),
  (51, true, .aload_n 0, 1, 0, (0, 0, 0, 0), 0, []),
  (52, false, .getfield 171, 3, 803, (40, 9, 0, 0), 0, []),
  (55, false, .bipush 60, 2, 0, (0, 0, 0, 0), 0, []),
  (57, false, .if_icmp .ne 6, 3, 0, (63, 0, 0, 0), 0, []),
  (60, false, .bipush (-4), 2, 0, (0, 0, 0, 0), 0, []),
  (62, false, .ireturn, 1, 0, (0, 0, 0, 0), 0, []),
  (63, false, .aload_n 0, 1, 0, (0, 0, 0, 0), 0, []),
  (64, false, .dup, 1, 0, (0, 0, 0, 0), 0, []),
  (65, false, .getfield 171, 3, 803, (40, 9, 0, 0), 0, []),
  (68, false, .dup_x1, 1, 0, (0, 0, 0, 0), 0, []),
  (69, false, .iconst 1, 1, 0, (0, 0, 0, 0), 0, []),
  (70, false, .iadd, 1, 0, (0, 0, 0, 0), 0, []),
  (71, false, .putfield 171, 3, 803, (40, 9, 0, 0), 0, []),
  (74, false, .istore 4, 2, 0, (0, 0, 0, 0), 0, []),
  (76, false, .aload_n 0, 1, 0, (0, 0, 0, 0), 0, []),
  (77, false, .getfield 26, 3, 804, (40, 10, 46, 1), 0, []),
  (80, false, .iload 4, 2, 0, (0, 0, 0, 0), 0, []),
  (82, false, .iload_n 1, 1, 0, (0, 0, 0, 0), 0, []),
  (83, false, .iastore, 1, 0, (44, 0, 0, 0), 0, []),
  (84, false, .aload_n 0, 1, 0, (0, 0, 0, 0), 0, []),
  (85, false, .getfield 29, 3, 805, (40, 11, 47, 1), 0, []),
  (88, false, .iload 4, 2, 0, (0, 0, 0, 0), 0, []),
  (90, false, .iload_n 2, 1, 0, (0, 0, 0, 0), 0, []),
  (91, false, .iastore, 1, 0, (45, 0, 0, 0), 0, []),
  (92, false, .aload_n 0, 1, 0, (0, 0, 0, 0), 0, []),
  (93, false, .getfield 32, 3, 806, (40, 12, 48, 1), 0, []),
  (96, false, .iload 4, 2, 0, (0, 0, 0, 0), 0, []),
  (98, false, .iload_n 3, 1, 0, (0, 0, 0, 0), 0, []),
  (99, false, .iastore, 1, 0, (46, 0, 0, 0), 0, []),
  (100, false, .aload_n 0, 1, 0, (0, 0, 0, 0), 0, []),
  (101, false, .getfield 35, 3, 807, (40, 13, 49, 1), 0, []),
  (104, false, .iload 4, 2, 0, (0, 0, 0, 0), 0, []),
  (106, false, .iconst 1, 1, 0, (0, 0, 0, 0), 0, []),
  (107, false, .iastore, 1, 0, (47, 0, 0, 0), 0, []),
  (108, false, .aload_n 0, 1, 0, (0, 0, 0, 0), 0, []),
  (109, false, .getfield 41, 3, 809, (40, 15, 51, 1), 0, []),
  (112, false, .iload 4, 2, 0, (0, 0, 0, 0), 0, []),
  (114, false, .iconst (-1), 1, 0, (0, 0, 0, 0), 0, []),
  (115, false, .iastore, 1, 0, (49, 0, 0, 0), 0, []),
  (116, false, .aload_n 0, 1, 0, (0, 0, 0, 0), 0, []),
  (117, false, .getfield 65, 3, 817, (40, 23, 59, 1), 0, []),
  (120, false, .iload 4, 2, 0, (0, 0, 0, 0), 0, []),
  (122, false, .iload_n 1, 1, 0, (0, 0, 0, 0), 0, []),
  (123, false, .iconst 2, 1, 0, (0, 0, 0, 0), 0, []),
  (124, false, .if_icmp .ne 7, 3, 0, (131, 0, 0, 0), 0, []),
  (127, false, .iload_n 2, 1, 0, (0, 0, 0, 0), 0, []),
  (128, false, .goto 4, 3, 0, (132, 0, 0, 0), 0, []),
  (131, false, .iconst (-1), 1, 0, (0, 0, 0, 0), 0, []),
  (132, false, .iastore, 1, 0, (57, 0, 0, 0), 0, []),
  (133, false, .aload_n 0, 1, 0, (0, 0, 0, 0), 0, []),
  (134, false, .getfield 74, 3, 820, (40, 26, 62, 1), 0, []),
  (137, false, .iload 4, 2, 0, (0, 0, 0, 0), 0, []),
  (139, false, .iconst (-1), 1, 0, (0, 0, 0, 0), 0, []),
  (140, false, .iastore, 1, 0, (60, 0, 0, 0), 0, []),
  (141, false, .iload 4, 2, 0, (0, 0, 0, 0), 0, []),
  (143, false, .ireturn, 1, 0, (0, 0, 0, 0), 0, [])]
noncomputable def m_task_51 (v1 v2 v3 : Int) (σ : zz_S) : zz_R := (if (zz_h σ 40 1 9) = 60 then (some ((-4), σ)) else (let s1 := zz_w σ 40 1 9 (zz_r ((zz_h σ 40 1 9) + 1)); (if zz_b s1 44 1 (zz_h σ 40 1 9) then (let s2 := zz_w s1 44 1 (zz_h σ 40 1 9) v1; (if zz_b s2 45 1 (zz_h σ 40 1 9) then (let s3 := zz_w s2 45 1 (zz_h σ 40 1 9) v2; (if zz_b s3 46 1 (zz_h σ 40 1 9) then (let s4 := zz_w s3 46 1 (zz_h σ 40 1 9) v3; (if zz_b s4 47 1 (zz_h σ 40 1 9) then (let s5 := zz_w s4 47 1 (zz_h σ 40 1 9) 1; (if zz_b s5 49 1 (zz_h σ 40 1 9) then (let s6 := zz_w s5 49 1 (zz_h σ 40 1 9) (-1); (if v1 = 2 then (if zz_b s6 57 1 (zz_h σ 40 1 9) then (let s7 := zz_w s6 57 1 (zz_h σ 40 1 9) v2; (if zz_b s7 60 1 (zz_h σ 40 1 9) then (let s8 := zz_w s7 60 1 (zz_h σ 40 1 9) (-1); (some ((zz_h σ 40 1 9), s8))) else none)) else none) else (if zz_b s6 57 1 (zz_h σ 40 1 9) then (let s9 := zz_w s6 57 1 (zz_h σ 40 1 9) (-1); (if zz_b s9 60 1 (zz_h σ 40 1 9) then (let s10 := zz_w s9 60 1 (zz_h σ 40 1 9) (-1); (some ((zz_h σ 40 1 9), s10))) else none)) else none))) else none)) else none)) else none)) else none)) else none)))
set_option maxRecDepth 100000 in
set_option maxHeartbeats 4000000 in
theorem ze_m_task_51 (v1 v2 v3 : Int) (σ : zz_S) : m_task_51 v1 v2 v3 σ = zz_ev (zz_CE []) (zz_KE []) zk_m_task 0 false 0 1 400 true (zz_sk zk_m_task 51) [(0, 42, 1), (1, 0, v1), (2, 0, v2), (3, 0, v3)] [] σ := rfl
noncomputable def m_task_27 (v1 v2 v3 : Int) (σ : zz_S) : zz_R := (if v1 = 1 then ((m_in v3 1 100000 σ).bind fun q1 => (if q1.1 = 0 then (some ((-2), q1.2)) else (m_task_51 v1 v2 v3 q1.2))) else (if v1 = 2 then ((m_in v3 1 100000 σ).bind fun q2 => (if q2.1 = 0 then (some ((-2), q2.2)) else (m_task_51 v1 v2 v3 q2.2))) else (m_task_51 v1 v2 v3 σ)))
set_option maxRecDepth 100000 in
set_option maxHeartbeats 4000000 in
theorem ze_m_task_27 (v1 v2 v3 : Int) (σ : zz_S) : m_task_27 v1 v2 v3 σ = zz_ev (zz_CE [(108, zw_m_in)]) (zz_KE [(51, [(0, 42, true), (1, 0, false), (2, 0, false), (3, 0, false)], fun vs σ => match vs with | [b0, b1, b2] => m_task_51 b0 b1 b2 σ | _ => none)]) zk_m_task 0 false 0 1 400 true (zz_sk zk_m_task 27) [(0, 42, 1), (1, 0, v1), (2, 0, v2), (3, 0, v3)] [] σ := rfl
noncomputable def m_task (v1 v2 v3 : Int) (σ : zz_S) : zz_R := ((m_in v1 0 4 σ).bind fun q1 => (if q1.1 = 0 then (some ((-2), q1.2)) else (if v1 ≤ 2 then ((m_in v2 (zz_h q1.2 40 1 0) 400000 q1.2).bind fun q2 => (if q2.1 = 0 then (some ((-2), q2.2)) else (m_task_27 v1 v2 v3 q2.2))) else (m_task_27 v1 v2 v3 q1.2))))
set_option maxRecDepth 100000 in
set_option maxHeartbeats 4000000 in
theorem ze_m_task (v1 v2 v3 : Int) (σ : zz_S) : m_task v1 v2 v3 σ = zz_ev (zz_CE [(108, zw_m_in)]) (zz_KE [(27, [(0, 42, true), (1, 0, false), (2, 0, false), (3, 0, false)], fun vs σ => match vs with | [b0, b1, b2] => m_task_27 b0 b1 b2 σ | _ => none)]) zk_m_task 0 false 0 1 400 true (zz_sk zk_m_task 0) [(0, 42, 1), (1, 0, v1), (2, 0, v2), (3, 0, v3)] [] σ := rfl
noncomputable def zw_m_task : List Int → zz_S → zz_R := fun vs σ => match vs with
  | [a0, a1, a2, a3] => if a0 = 1 then m_task a1 a2 a3 σ else none
  | _ => none
def zk_m_set : List zz_E := [(0, false, .aload_n 0, 1, 0, (0, 0, 0, 0), 0, []),
  (1, false, .iload_n 1, 1, 0, (0, 0, 0, 0), 0, []),
  (2, false, .invokevirtual 262, 3, 1017, (109, 2, 0, 0), 0, [0, 42]),
  (5, false, .ifCond .ne 6, 3, 0, (11, 0, 0, 0), 0, []),
  (8, false, .bipush (-2), 2, 0, (0, 0, 0, 0), 0, []),
  (10, false, .ireturn, 1, 0, (0, 0, 0, 0), 0, []),
  (11, false, .iload_n 2, 1, 0, (0, 0, 0, 0), 0, []),
  (12, false, .tableswitch 227 0 5 #[40, 71, 102, 137, 167, 197], 40, 0, (239, 0, 0, 0), 0, [52, 83, 114, 149, 179, 209]),
  (52, false, .iload_n 3, 1, 0, (0, 0, 0, 0), 0, []),
  (53, false, .iconst 1, 1, 0, (0, 0, 0, 0), 0, []),
  (54, false, .bipush 120, 2, 0, (0, 0, 0, 0), 0, []),
  (56, false, .invokestatic 174, 3, 1021, (108, 3, 0, 0), 0, [0, 0, 0]),
  (59, false, .ifCond .ne 6, 3, 0, (65, 0, 0, 0), 0, []),
  (62, false, .bipush (-2), 2, 0, (0, 0, 0, 0), 0, []),
  (64, false, .ireturn, 1, 0, (0, 0, 0, 0), 0, []),
  (65, false, .aload_n 0, 1, 0, (0, 0, 0, 0), 0, []),
  (66, false, .getfield 35, 3, 807, (40, 13, 49, 1), 0, []),
  (69, false, .iload_n 1, 1, 0, (0, 0, 0, 0), 0, []),
  (70, false, .iaload, 1, 0, (47, 0, 0, 0), 0, []),
  (71, false, .istore 4, 2, 0, (0, 0, 0, 0), 0, []),
  (73, false, .aload_n 0, 1, 0, (0, 0, 0, 0), 0, []),
  (74, false, .getfield 35, 3, 807, (40, 13, 49, 1), 0, []),
  (77, false, .iload_n 1, 1, 0, (0, 0, 0, 0), 0, []),
  (78, false, .iload_n 3, 1, 0, (0, 0, 0, 0), 0, []),
  (79, false, .iastore, 1, 0, (47, 0, 0, 0), 0, []),
  (80, false, .iload 4, 2, 0, (0, 0, 0, 0), 0, []),
  (82, false, .ireturn, 1, 0, (0, 0, 0, 0), 0, []),
  (83, false, .iload_n 3, 1, 0, (0, 0, 0, 0), 0, []),
  (84, false, .iconst 0, 1, 0, (0, 0, 0, 0), 0, []),
  (85, false, .bipush 9, 2, 0, (0, 0, 0, 0), 0, []),
  (87, false, .invokestatic 174, 3, 1021, (108, 3, 0, 0), 0, [0, 0, 0]),
  (90, false, .ifCond .ne 6, 3, 0, (96, 0, 0, 0), 0, []),
  (93, false, .bipush (-2), 2, 0, (0, 0, 0, 0), 0, []),
  (95, false, .ireturn, 1, 0, (0, 0, 0, 0), 0, []),
  (96, false, .aload_n 0, 1, 0, (0, 0, 0, 0), 0, []),
  (97, false, .getfield 38, 3, 808, (40, 14, 50, 1), 0, []),
  (100, false, .iload_n 1, 1, 0, (0, 0, 0, 0), 0, []),
  (101, false, .iaload, 1, 0, (48, 0, 0, 0), 0, []),
  (102, false, .istore 4, 2, 0, (0, 0, 0, 0), 0, []),
  (104, false, .aload_n 0, 1, 0, (0, 0, 0, 0), 0, []),
  (105, false, .getfield 38, 3, 808, (40, 14, 50, 1), 0, []),
  (108, false, .iload_n 1, 1, 0, (0, 0, 0, 0), 0, []),
  (109, false, .iload_n 3, 1, 0, (0, 0, 0, 0), 0, []),
  (110, false, .iastore, 1, 0, (48, 0, 0, 0), 0, []),
  (111, false, .iload 4, 2, 0, (0, 0, 0, 0), 0, []),
  (113, false, .ireturn, 1, 0, (0, 0, 0, 0), 0, []),
  (114, false, .iload_n 3, 1, 0, (0, 0, 0, 0), 0, []),
  (115, false, .iconst (-1), 1, 0, (0, 0, 0, 0), 0, []),
  (116, false, .aload_n 0, 1, 0, (0, 0, 0, 0), 0, []),
  (117, false, .getfield 315, 3, 801, (40, 7, 0, 0), 0, []),
  (120, false, .iconst 1, 1, 0, (0, 0, 0, 0), 0, []),
  (121, false, .isub, 1, 0, (0, 0, 0, 0), 0, []),
  (122, false, .invokestatic 174, 3, 1021, (108, 3, 0, 0), 0, [0, 0, 0]),
  (125, false, .ifCond .ne 6, 3, 0, (131, 0, 0, 0), 0, []),
  (128, false, .bipush (-2), 2, 0, (0, 0, 0, 0), 0, []),
  (130, false, .ireturn, 1, 0, (0, 0, 0, 0), 0, []),
  (131, false, .aload_n 0, 1, 0, (0, 0, 0, 0), 0, []),
  (132, false, .getfield 41, 3, 809, (40, 15, 51, 1), 0, []),
  (135, false, .iload_n 1, 1, 0, (0, 0, 0, 0), 0, []),
  (136, false, .iaload, 1, 0, (49, 0, 0, 0), 0, []),
  (137, false, .istore 4, 2, 0, (0, 0, 0, 0), 0, []),
  (139, false, .aload_n 0, 1, 0, (0, 0, 0, 0), 0, []),
  (140, false, .getfield 41, 3, 809, (40, 15, 51, 1), 0, []),
  (143, false, .iload_n 1, 1, 0, (0, 0, 0, 0), 0, []),
  (144, false, .iload_n 3, 1, 0, (0, 0, 0, 0), 0, []),
  (145, false, .iastore, 1, 0, (49, 0, 0, 0), 0, []),
  (146, false, .iload 4, 2, 0, (0, 0, 0, 0), 0, []),
  (148, false, .ireturn, 1, 0, (0, 0, 0, 0), 0, []),
  (149, false, .iload_n 3, 1, 0, (0, 0, 0, 0), 0, []),
  (150, false, .iconst 0, 1, 0, (0, 0, 0, 0), 0, []),
  (151, false, .iconst 2, 1, 0, (0, 0, 0, 0), 0, []),
  (152, false, .invokestatic 174, 3, 1021, (108, 3, 0, 0), 0, [0, 0, 0]),
  (155, false, .ifCond .ne 6, 3, 0, (161, 0, 0, 0), 0, []),
  (158, false, .bipush (-2), 2, 0, (0, 0, 0, 0), 0, []),
  (160, false, .ireturn, 1, 0, (0, 0, 0, 0), 0, []),
  (161, false, .aload_n 0, 1, 0, (0, 0, 0, 0), 0, []),
  (162, false, .getfield 44, 3, 810, (40, 16, 52, 1), 0, []),
  (165, false, .iload_n 1, 1, 0, (0, 0, 0, 0), 0, []),
  (166, false, .iaload, 1, 0, (50, 0, 0, 0), 0, []),
  (167, false, .istore 4, 2, 0, (0, 0, 0, 0), 0, []),
  (169, false, .aload_n 0, 1, 0, (0, 0, 0, 0), 0, []),
  (170, false, .getfield 44, 3, 810, (40, 16, 52, 1), 0, []),
  (173, false, .iload_n 1, 1, 0, (0, 0, 0, 0), 0, []),
  (174, false, .iload_n 3, 1, 0, (0, 0, 0, 0), 0, []),
  (175, false, .iastore, 1, 0, (50, 0, 0, 0), 0, []),
  (176, false, .iload 4, 2, 0, (0, 0, 0, 0), 0, []),
  (178, false, .ireturn, 1, 0, (0, 0, 0, 0), 0, []),
  (179, false, .iload_n 3, 1, 0, (0, 0, 0, 0), 0, []),
  (180, false, .iconst 0, 1, 0, (0, 0, 0, 0), 0, []),
  (181, false, .iconst 2, 1, 0, (0, 0, 0, 0), 0, []),
  (182, false, .invokestatic 174, 3, 1021, (108, 3, 0, 0), 0, [0, 0, 0]),
  (185, false, .ifCond .ne 6, 3, 0, (191, 0, 0, 0), 0, []),
  (188, false, .bipush (-2), 2, 0, (0, 0, 0, 0), 0, []),
  (190, false, .ireturn, 1, 0, (0, 0, 0, 0), 0, []),
  (191, false, .aload_n 0, 1, 0, (0, 0, 0, 0), 0, []),
  (192, false, .getfield 47, 3, 811, (40, 17, 53, 1), 0, []),
  (195, false, .iload_n 1, 1, 0, (0, 0, 0, 0), 0, []),
  (196, false, .iaload, 1, 0, (51, 0, 0, 0), 0, []),
  (197, false, .istore 4, 2, 0, (0, 0, 0, 0), 0, []),
  (199, false, .aload_n 0, 1, 0, (0, 0, 0, 0), 0, []),
  (200, false, .getfield 47, 3, 811, (40, 17, 53, 1), 0, []),
  (203, false, .iload_n 1, 1, 0, (0, 0, 0, 0), 0, []),
  (204, false, .iload_n 3, 1, 0, (0, 0, 0, 0), 0, []),
  (205, false, .iastore, 1, 0, (51, 0, 0, 0), 0, []),
  (206, false, .iload 4, 2, 0, (0, 0, 0, 0), 0, []),
  (208, false, .ireturn, 1, 0, (0, 0, 0, 0), 0, []),
  (209, false, .iload_n 3, 1, 0, (0, 0, 0, 0), 0, []),
  (210, false, .iconst 0, 1, 0, (0, 0, 0, 0), 0, []),
  (211, false, .iconst 2, 1, 0, (0, 0, 0, 0), 0, []),
  (212, false, .invokestatic 174, 3, 1021, (108, 3, 0, 0), 0, [0, 0, 0]),
  (215, false, .ifCond .ne 6, 3, 0, (221, 0, 0, 0), 0, []),
  (218, false, .bipush (-2), 2, 0, (0, 0, 0, 0), 0, []),
  (220, false, .ireturn, 1, 0, (0, 0, 0, 0), 0, []),
  (221, false, .aload_n 0, 1, 0, (0, 0, 0, 0), 0, []),
  (222, false, .getfield 50, 3, 812, (40, 18, 54, 1), 0, []),
  (225, false, .iload_n 1, 1, 0, (0, 0, 0, 0), 0, []),
  (226, false, .iaload, 1, 0, (52, 0, 0, 0), 0, []),
  (227, false, .istore 4, 2, 0, (0, 0, 0, 0), 0, []),
  (229, false, .aload_n 0, 1, 0, (0, 0, 0, 0), 0, []),
  (230, false, .getfield 50, 3, 812, (40, 18, 54, 1), 0, []),
  (233, false, .iload_n 1, 1, 0, (0, 0, 0, 0), 0, []),
  (234, false, .iload_n 3, 1, 0, (0, 0, 0, 0), 0, []),
  (235, false, .iastore, 1, 0, (52, 0, 0, 0), 0, []),
  (236, false, .iload 4, 2, 0, (0, 0, 0, 0), 0, []),
  (238, false, .ireturn, 1, 0, (0, 0, 0, 0), 0, []),
  (239, false, .bipush (-2), 2, 0, (0, 0, 0, 0), 0, []),
  (241, false, .ireturn, 1, 0, (0, 0, 0, 0), 0, [])]
noncomputable def m_set (v1 v2 v3 : Int) (σ : zz_S) : zz_R := ((m_isTask v1 σ).bind fun q1 => (if q1.1 = 0 then (some ((-2), q1.2)) else (if v2 = 0 then ((m_in v3 1 120 q1.2).bind fun q12 => (if q12.1 = 0 then (some ((-2), q12.2)) else (if zz_b q12.2 47 1 v1 then (if zz_b q12.2 47 1 v1 then (let s13 := zz_w q12.2 47 1 v1 v3; (some ((zz_h q12.2 47 1 v1), s13))) else none) else none))) else (if v2 = 1 then ((m_in v3 0 9 q1.2).bind fun q10 => (if q10.1 = 0 then (some ((-2), q10.2)) else (if zz_b q10.2 48 1 v1 then (if zz_b q10.2 48 1 v1 then (let s11 := zz_w q10.2 48 1 v1 v3; (some ((zz_h q10.2 48 1 v1), s11))) else none) else none))) else (if v2 = 2 then ((m_in v3 (-1) (zz_r ((zz_h q1.2 40 1 7) - 1)) q1.2).bind fun q8 => (if q8.1 = 0 then (some ((-2), q8.2)) else (if zz_b q8.2 49 1 v1 then (if zz_b q8.2 49 1 v1 then (let s9 := zz_w q8.2 49 1 v1 v3; (some ((zz_h q8.2 49 1 v1), s9))) else none) else none))) else (if v2 = 3 then ((m_in v3 0 2 q1.2).bind fun q6 => (if q6.1 = 0 then (some ((-2), q6.2)) else (if zz_b q6.2 50 1 v1 then (if zz_b q6.2 50 1 v1 then (let s7 := zz_w q6.2 50 1 v1 v3; (some ((zz_h q6.2 50 1 v1), s7))) else none) else none))) else (if v2 = 4 then ((m_in v3 0 2 q1.2).bind fun q4 => (if q4.1 = 0 then (some ((-2), q4.2)) else (if zz_b q4.2 51 1 v1 then (if zz_b q4.2 51 1 v1 then (let s5 := zz_w q4.2 51 1 v1 v3; (some ((zz_h q4.2 51 1 v1), s5))) else none) else none))) else (if v2 = 5 then ((m_in v3 0 2 q1.2).bind fun q2 => (if q2.1 = 0 then (some ((-2), q2.2)) else (if zz_b q2.2 52 1 v1 then (if zz_b q2.2 52 1 v1 then (let s3 := zz_w q2.2 52 1 v1 v3; (some ((zz_h q2.2 52 1 v1), s3))) else none) else none))) else (some ((-2), q1.2))))))))))
set_option maxRecDepth 100000 in
set_option maxHeartbeats 4000000 in
theorem ze_m_set (v1 v2 v3 : Int) (σ : zz_S) : m_set v1 v2 v3 σ = zz_ev (zz_CE [(108, zw_m_in), (109, zw_m_isTask)]) (zz_KE []) zk_m_set 0 false 0 1 400 true (zz_sk zk_m_set 0) [(0, 42, 1), (1, 0, v1), (2, 0, v2), (3, 0, v3)] [] σ := rfl
noncomputable def zw_m_set : List Int → zz_S → zz_R := fun vs σ => match vs with
  | [a0, a1, a2, a3] => if a0 = 1 then m_set a1 a2 a3 σ else none
  | _ => none
def zk_m_isForm : List zz_E := [(0, false, .iload_n 0, 1, 0, (0, 0, 0, 0), 0, []),
  (1, false, .tableswitch 175 0 8 #[51, 59, 67, 98, 106, 132, 140, 142, 167], 51, 0, (176, 0, 0, 0), 0, [52, 60, 68, 99, 107, 133, 141, 143, 168]),
  (52, false, .iload_n 1, 1, 0, (0, 0, 0, 0), 0, []),
  (53, false, .iconst 0, 1, 0, (0, 0, 0, 0), 0, []),
  (54, false, .bipush 59, 2, 0, (0, 0, 0, 0), 0, []),
  (56, false, .invokestatic 174, 3, 1021, (108, 3, 0, 0), 0, [0, 0, 0]),
  (59, false, .ireturn, 1, 0, (0, 0, 0, 0), 0, []),
  (60, false, .iload_n 1, 1, 0, (0, 0, 0, 0), 0, []),
  (61, false, .iconst 0, 1, 0, (0, 0, 0, 0), 0, []),
  (62, false, .bipush 23, 2, 0, (0, 0, 0, 0), 0, []),
  (64, false, .invokestatic 174, 3, 1021, (108, 3, 0, 0), 0, [0, 0, 0]),
  (67, false, .ireturn, 1, 0, (0, 0, 0, 0), 0, []),
  (68, false, .iload_n 1, 1, 0, (0, 0, 0, 0), 0, []),
  (69, false, .iconst 0, 1, 0, (0, 0, 0, 0), 0, []),
  (70, false, .bipush 23, 2, 0, (0, 0, 0, 0), 0, []),
  (72, false, .invokestatic 174, 3, 1021, (108, 3, 0, 0), 0, [0, 0, 0]),
  (75, false, .ifCond .eq 22, 3, 0, (97, 0, 0, 0), 0, []),
  (78, false, .iload_n 2, 1, 0, (0, 0, 0, 0), 0, []),
  (79, false, .iconst 0, 1, 0, (0, 0, 0, 0), 0, []),
  (80, false, .bipush 23, 2, 0, (0, 0, 0, 0), 0, []),
  (82, false, .invokestatic 174, 3, 1021, (108, 3, 0, 0), 0, [0, 0, 0]),
  (85, false, .ifCond .eq 12, 3, 0, (97, 0, 0, 0), 0, []),
  (88, false, .iload_n 1, 1, 0, (0, 0, 0, 0), 0, []),
  (89, false, .iload_n 2, 1, 0, (0, 0, 0, 0), 0, []),
  (90, false, .if_icmp .gt 7, 3, 0, (97, 0, 0, 0), 0, []),
  (93, false, .iconst 1, 1, 0, (0, 0, 0, 0), 0, []),
  (94, false, .goto 4, 3, 0, (98, 0, 0, 0), 0, []),
  (97, false, .iconst 0, 1, 0, (0, 0, 0, 0), 0, []),
  (98, false, .ireturn, 1, 0, (0, 0, 0, 0), 0, []),
  (99, false, .iload_n 1, 1, 0, (0, 0, 0, 0), 0, []),
  (100, false, .iconst 0, 1, 0, (0, 0, 0, 0), 0, []),
  (101, false, .bipush 6, 2, 0, (0, 0, 0, 0), 0, []),
  (103, false, .invokestatic 174, 3, 1021, (108, 3, 0, 0), 0, [0, 0, 0]),
  (106, false, .ireturn, 1, 0, (0, 0, 0, 0), 0, []),
  (107, false, .iload_n 1, 1, 0, (0, 0, 0, 0), 0, []),
  (108, false, .iconst 0, 1, 0, (0, 0, 0, 0), 0, []),
  (109, false, .bipush 6, 2, 0, (0, 0, 0, 0), 0, []),
  (111, false, .invokestatic 174, 3, 1021, (108, 3, 0, 0), 0, [0, 0, 0]),
  (114, false, .ifCond .eq 17, 3, 0, (131, 0, 0, 0), 0, []),
  (117, false, .iload_n 2, 1, 0, (0, 0, 0, 0), 0, []),
  (118, false, .iconst 0, 1, 0, (0, 0, 0, 0), 0, []),
  (119, false, .bipush 6, 2, 0, (0, 0, 0, 0), 0, []),
  (121, false, .invokestatic 174, 3, 1021, (108, 3, 0, 0), 0, [0, 0, 0]),
  (124, false, .ifCond .eq 7, 3, 0, (131, 0, 0, 0), 0, []),
  (127, false, .iconst 1, 1, 0, (0, 0, 0, 0), 0, []),
  (128, false, .goto 4, 3, 0, (132, 0, 0, 0), 0, []),
  (131, false, .iconst 0, 1, 0, (0, 0, 0, 0), 0, []),
  (132, false, .ireturn, 1, 0, (0, 0, 0, 0), 0, []),
  (133, false, .iload_n 1, 1, 0, (0, 0, 0, 0), 0, []),
  (134, false, .iconst 1, 1, 0, (0, 0, 0, 0), 0, []),
  (135, false, .bipush 31, 2, 0, (0, 0, 0, 0), 0, []),
  (137, false, .invokestatic 174, 3, 1021, (108, 3, 0, 0), 0, [0, 0, 0]),
  (140, false, .ireturn, 1, 0, (0, 0, 0, 0), 0, []),
  (141, false, .iconst 1, 1, 0, (0, 0, 0, 0), 0, []),
  (142, false, .ireturn, 1, 0, (0, 0, 0, 0), 0, []),
  (143, false, .iload_n 1, 1, 0, (0, 0, 0, 0), 0, []),
  (144, false, .iconst 1, 1, 0, (0, 0, 0, 0), 0, []),
  (145, false, .iconst 5, 1, 0, (0, 0, 0, 0), 0, []),
  (146, false, .invokestatic 174, 3, 1021, (108, 3, 0, 0), 0, [0, 0, 0]),
  (149, false, .ifCond .eq 17, 3, 0, (166, 0, 0, 0), 0, []),
  (152, false, .iload_n 2, 1, 0, (0, 0, 0, 0), 0, []),
  (153, false, .iconst 0, 1, 0, (0, 0, 0, 0), 0, []),
  (154, false, .bipush 6, 2, 0, (0, 0, 0, 0), 0, []),
  (156, false, .invokestatic 174, 3, 1021, (108, 3, 0, 0), 0, [0, 0, 0]),
  (159, false, .ifCond .eq 7, 3, 0, (166, 0, 0, 0), 0, []),
  (162, false, .iconst 1, 1, 0, (0, 0, 0, 0), 0, []),
  (163, false, .goto 4, 3, 0, (167, 0, 0, 0), 0, []),
  (166, false, .iconst 0, 1, 0, (0, 0, 0, 0), 0, []),
  (167, false, .ireturn, 1, 0, (0, 0, 0, 0), 0, []),
  (168, false, .iload_n 1, 1, 0, (0, 0, 0, 0), 0, []),
  (169, false, .iconst 1, 1, 0, (0, 0, 0, 0), 0, []),
  (170, false, .bipush 12, 2, 0, (0, 0, 0, 0), 0, []),
  (172, false, .invokestatic 174, 3, 1021, (108, 3, 0, 0), 0, [0, 0, 0]),
  (175, false, .ireturn, 1, 0, (0, 0, 0, 0), 0, []),
  (176, false, .iconst 0, 1, 0, (0, 0, 0, 0), 0, []),
  (177, false, .ireturn, 1, 0, (0, 0, 0, 0), 0, [])]
noncomputable def m_isForm (v0 v1 v2 : Int) (σ : zz_S) : zz_R := (if v0 = 0 then ((m_in v1 0 59 σ).bind fun q11 => (if zz_o q11.1 then (some (q11.1, q11.2)) else none)) else (if v0 = 1 then ((m_in v1 0 23 σ).bind fun q10 => (if zz_o q10.1 then (some (q10.1, q10.2)) else none)) else (if v0 = 2 then ((m_in v1 0 23 σ).bind fun q8 => (if q8.1 = 0 then (some (0, q8.2)) else ((m_in v2 0 23 q8.2).bind fun q9 => (if q9.1 = 0 then (some (0, q9.2)) else (if v1 ≤ v2 then (some (1, q9.2)) else (some (0, q9.2))))))) else (if v0 = 3 then ((m_in v1 0 6 σ).bind fun q7 => (if zz_o q7.1 then (some (q7.1, q7.2)) else none)) else (if v0 = 4 then ((m_in v1 0 6 σ).bind fun q5 => (if q5.1 = 0 then (some (0, q5.2)) else ((m_in v2 0 6 q5.2).bind fun q6 => (if q6.1 = 0 then (some (0, q6.2)) else (some (1, q6.2)))))) else (if v0 = 5 then ((m_in v1 1 31 σ).bind fun q4 => (if zz_o q4.1 then (some (q4.1, q4.2)) else none)) else (if v0 = 6 then (some (1, σ)) else (if v0 = 7 then ((m_in v1 1 5 σ).bind fun q2 => (if q2.1 = 0 then (some (0, q2.2)) else ((m_in v2 0 6 q2.2).bind fun q3 => (if q3.1 = 0 then (some (0, q3.2)) else (some (1, q3.2)))))) else (if v0 = 8 then ((m_in v1 1 12 σ).bind fun q1 => (if zz_o q1.1 then (some (q1.1, q1.2)) else none)) else (some (0, σ)))))))))))
set_option maxRecDepth 100000 in
set_option maxHeartbeats 4000000 in
theorem ze_m_isForm (v0 v1 v2 : Int) (σ : zz_S) : m_isForm v0 v1 v2 σ = zz_ev (zz_CE [(108, zw_m_in)]) (zz_KE []) zk_m_isForm 0 true 0 1 400 true (zz_sk zk_m_isForm 0) [(0, 0, v0), (1, 0, v1), (2, 0, v2)] [] σ := rfl
noncomputable def zw_m_isForm : List Int → zz_S → zz_R := fun vs σ => match vs with
  | [a0, a1, a2] => m_isForm a0 a1 a2 σ
  | _ => none
def zk_m_calendar : List zz_E := [(0, false, .aload_n 0, 1, 0, (0, 0, 0, 0), 0, []),
  (1, false, .iload_n 1, 1, 0, (0, 0, 0, 0), 0, []),
  (2, false, .invokevirtual 262, 3, 1017, (109, 2, 0, 0), 0, [0, 42]),
  (5, false, .ifCond .eq 23, 3, 0, (28, 0, 0, 0), 0, []),
  (8, false, .aload_n 0, 1, 0, (0, 0, 0, 0), 0, []),
  (9, false, .getfield 26, 3, 804, (40, 10, 46, 1), 0, []),
  (12, false, .iload_n 1, 1, 0, (0, 0, 0, 0), 0, []),
  (13, false, .iaload, 1, 0, (44, 0, 0, 0), 0, []),
  (14, false, .iconst 3, 1, 0, (0, 0, 0, 0), 0, []),
  (15, false, .if_icmp .ne 13, 3, 0, (28, 0, 0, 0), 0, []),
  (18, false, .iload_n 2, 1, 0, (0, 0, 0, 0), 0, []),
  (19, false, .iload_n 3, 1, 0, (0, 0, 0, 0), 0, []),
  (20, false, .iload 4, 2, 0, (0, 0, 0, 0), 0, []),
  (22, false, .invokestatic 319, 3, 1136, (146, 3, 0, 0), 0, [0, 0, 0]),
  (25, false, .ifCond .ne 6, 3, 0, (31, 0, 0, 0), 0, []),
  (28, false, .bipush (-2), 2, 0, (0, 0, 0, 0), 0, []),
  (30, false, .ireturn, 1, 0, (0, 0, 0, 0), 0, []),
  (31, false, .aload_n 0, 1, 0, (0, 0, 0, 0), 0, []),
  (32, false, .getfield 87, 3, 824, (40, 30, 66, 1), 0, []),
  (35, false, .iload_n 1, 1, 0, (0, 0, 0, 0), 0, []),
  (36, false, .iaload, 1, 0, (64, 0, 0, 0), 0, []),
  (37, false, .iconst 4, 1, 0, (0, 0, 0, 0), 0, []),
  (38, false, .if_icmp .ne 6, 3, 0, (44, 0, 0, 0), 0, []),
  (41, false, .bipush (-4), 2, 0, (0, 0, 0, 0), 0, []),
  (43, false, .ireturn, 1, 0, (0, 0, 0, 0), 0, []),
  (44, false, .iconst 4, 1, 0, (0, 0, 0, 0), 0, []),
  (45, false, .iload_n 1, 1, 0, (0, 0, 0, 0), 0, []),
  (46, false, .imul, 1, 0, (0, 0, 0, 0), 0, []),
  (47, false, .aload_n 0, 1, 0, (0, 0, 0, 0), 0, []),
  (48, false, .getfield 87, 3, 824, (40, 30, 66, 1), 0, []),
  (51, false, .iload_n 1, 1, 0, (0, 0, 0, 0), 0, []),
  (52, false, .iaload, 1, 0, (64, 0, 0, 0), 0, []),
  (53, false, .iadd, 1, 0, (0, 0, 0, 0), 0, []),
  (54, false, .istore 5, 2, 0, (0, 0, 0, 0), 0, []),
  (56, false, .aload_n 0, 1, 0, (0, 0, 0, 0), 0, []),
  (57, false, .getfield 90, 3, 825, (40, 31, 67, 1), 0, []),
  (60, false, .iload 5, 2, 0, (0, 0, 0, 0), 0, []),
  (62, false, .iload_n 2, 1, 0, (0, 0, 0, 0), 0, []),
  (63, false, .iastore, 1, 0, (65, 0, 0, 0), 0, []),
  (64, false, .aload_n 0, 1, 0, (0, 0, 0, 0), 0, []),
  (65, false, .getfield 93, 3, 826, (40, 32, 68, 1), 0, []),
  (68, false, .iload 5, 2, 0, (0, 0, 0, 0), 0, []),
  (70, false, .iload_n 3, 1, 0, (0, 0, 0, 0), 0, []),
  (71, false, .iastore, 1, 0, (66, 0, 0, 0), 0, []),
  (72, false, .aload_n 0, 1, 0, (0, 0, 0, 0), 0, []),
  (73, false, .getfield 96, 3, 827, (40, 33, 69, 1), 0, []),
  (76, false, .iload 5, 2, 0, (0, 0, 0, 0), 0, []),
  (78, false, .iload 4, 2, 0, (0, 0, 0, 0), 0, []),
  (80, false, .iastore, 1, 0, (67, 0, 0, 0), 0, []),
  (81, false, .aload_n 0, 1, 0, (0, 0, 0, 0), 0, []),
  (82, false, .getfield 87, 3, 824, (40, 30, 66, 1), 0, []),
  (85, false, .iload_n 1, 1, 0, (0, 0, 0, 0), 0, []),
  (86, false, .dup2, 1, 0, (0, 0, 0, 0), 0, []),
  (87, false, .iaload, 1, 0, (64, 0, 0, 0), 0, []),
  (88, false, .iconst 1, 1, 0, (0, 0, 0, 0), 0, []),
  (89, false, .iadd, 1, 0, (0, 0, 0, 0), 0, []),
  (90, false, .dup_x2, 1, 0, (0, 0, 0, 0), 0, []),
  (91, false, .iastore, 1, 0, (64, 0, 0, 0), 0, []),
  (92, false, .ireturn, 1, 0, (0, 0, 0, 0), 0, [])]
noncomputable def m_calendar (v1 v2 v3 v4 : Int) (σ : zz_S) : zz_R := ((m_isTask v1 σ).bind fun q1 => (if q1.1 = 0 then (some ((-2), q1.2)) else (if zz_b q1.2 44 1 v1 then (if (zz_h q1.2 44 1 v1) = 3 then ((m_isForm v2 v3 v4 q1.2).bind fun q2 => (if q2.1 = 0 then (some ((-2), q2.2)) else (if zz_b q2.2 64 1 v1 then (if (zz_h q2.2 64 1 v1) = 4 then (some ((-4), q2.2)) else (if zz_b q2.2 64 1 v1 then (if zz_b q2.2 65 1 (zz_r ((zz_r (4 * v1)) + (zz_h q2.2 64 1 v1))) then (let s3 := zz_w q2.2 65 1 (zz_r ((zz_r (4 * v1)) + (zz_h q2.2 64 1 v1))) v2; (if zz_b s3 66 1 (zz_r ((zz_r (4 * v1)) + (zz_h q2.2 64 1 v1))) then (let s4 := zz_w s3 66 1 (zz_r ((zz_r (4 * v1)) + (zz_h q2.2 64 1 v1))) v3; (if zz_b s4 67 1 (zz_r ((zz_r (4 * v1)) + (zz_h q2.2 64 1 v1))) then (let s5 := zz_w s4 67 1 (zz_r ((zz_r (4 * v1)) + (zz_h q2.2 64 1 v1))) v4; (if zz_b s5 64 1 v1 then (if zz_b s5 64 1 v1 then (let s6 := zz_w s5 64 1 v1 (zz_r ((zz_h s5 64 1 v1) + 1)); (some ((zz_r ((zz_h s5 64 1 v1) + 1)), s6))) else none) else none)) else none)) else none)) else none) else none)) else none))) else (some ((-2), q1.2))) else none)))
set_option maxRecDepth 100000 in
set_option maxHeartbeats 4000000 in
theorem ze_m_calendar (v1 v2 v3 v4 : Int) (σ : zz_S) : m_calendar v1 v2 v3 v4 σ = zz_ev (zz_CE [(109, zw_m_isTask), (146, zw_m_isForm)]) (zz_KE []) zk_m_calendar 0 false 0 1 400 true (zz_sk zk_m_calendar 0) [(0, 42, 1), (1, 0, v1), (2, 0, v2), (3, 0, v3), (4, 0, v4)] [] σ := rfl
noncomputable def zw_m_calendar : List Int → zz_S → zz_R := fun vs σ => match vs with
  | [a0, a1, a2, a3, a4] => if a0 = 1 then m_calendar a1 a2 a3 a4 σ else none
  | _ => none
def zk_m_body : List zz_E := [(0, false, .aload_n 0, 1, 0, (0, 0, 0, 0), 0, []),
  (1, false, .iload_n 1, 1, 0, (0, 0, 0, 0), 0, []),
  (2, false, .invokevirtual 262, 3, 1017, (109, 2, 0, 0), 0, [0, 42]),
  (5, false, .ifCond .eq 13, 3, 0, (18, 0, 0, 0), 0, []),
  (8, false, .iload_n 2, 1, 0, (0, 0, 0, 0), 0, []),
  (9, false, .iconst 0, 1, 0, (0, 0, 0, 0), 0, []),
  (10, false, .bipush 6, 2, 0, (0, 0, 0, 0), 0, []),
  (12, false, .invokestatic 174, 3, 1021, (108, 3, 0, 0), 0, [0, 0, 0]),
  (15, false, .ifCond .ne 6, 3, 0, (21, 0, 0, 0), 0, []),
  (18, false, .bipush (-2), 2, 0, (0, 0, 0, 0), 0, []),
  (20, false, .ireturn, 1, 0, (0, 0, 0, 0), 0, []),
  (21, false, .aload_n 0, 1, 0, (0, 0, 0, 0), 0, []),
  (22, false, .getfield 53, 3, 813, (40, 19, 55, 1), 0, []),
  (25, false, .iload_n 1, 1, 0, (0, 0, 0, 0), 0, []),
  (26, false, .iaload, 1, 0, (53, 0, 0, 0), 0, []),
  (27, false, .istore 5, 2, 0, (0, 0, 0, 0), 0, []),
  (29, false, .aload_n 0, 1, 0, (0, 0, 0, 0), 0, []),
  (30, false, .getfield 53, 3, 813, (40, 19, 55, 1), 0, []),
  (33, false, .iload_n 1, 1, 0, (0, 0, 0, 0), 0, []),
  (34, false, .iload_n 2, 1, 0, (0, 0, 0, 0), 0, []),
  (35, false, .iastore, 1, 0, (53, 0, 0, 0), 0, []),
  (36, false, .aload_n 0, 1, 0, (0, 0, 0, 0), 0, []),
  (37, false, .getfield 56, 3, 814, (40, 20, 56, 1), 0, []),
  (40, false, .iload_n 1, 1, 0, (0, 0, 0, 0), 0, []),
  (41, false, .iload_n 3, 1, 0, (0, 0, 0, 0), 0, []),
  (42, false, .iastore, 1, 0, (54, 0, 0, 0), 0, []),
  (43, false, .aload_n 0, 1, 0, (0, 0, 0, 0), 0, []),
  (44, false, .getfield 59, 3, 815, (40, 21, 57, 1), 0, []),
  (47, false, .iload_n 1, 1, 0, (0, 0, 0, 0), 0, []),
  (48, false, .iload 4, 2, 0, (0, 0, 0, 0), 0, []),
  (50, false, .iastore, 1, 0, (55, 0, 0, 0), 0, []),
  (51, false, .iload 5, 2, 0, (0, 0, 0, 0), 0, []),
  (53, false, .ireturn, 1, 0, (0, 0, 0, 0), 0, [])]
noncomputable def m_body (v1 v2 v3 v4 : Int) (σ : zz_S) : zz_R := ((m_isTask v1 σ).bind fun q1 => (if q1.1 = 0 then (some ((-2), q1.2)) else ((m_in v2 0 6 q1.2).bind fun q2 => (if q2.1 = 0 then (some ((-2), q2.2)) else (if zz_b q2.2 53 1 v1 then (if zz_b q2.2 53 1 v1 then (let s3 := zz_w q2.2 53 1 v1 v2; (if zz_b s3 54 1 v1 then (let s4 := zz_w s3 54 1 v1 v3; (if zz_b s4 55 1 v1 then (let s5 := zz_w s4 55 1 v1 v4; (some ((zz_h q2.2 53 1 v1), s5))) else none)) else none)) else none) else none)))))
set_option maxRecDepth 100000 in
set_option maxHeartbeats 4000000 in
theorem ze_m_body (v1 v2 v3 v4 : Int) (σ : zz_S) : m_body v1 v2 v3 v4 σ = zz_ev (zz_CE [(108, zw_m_in), (109, zw_m_isTask)]) (zz_KE []) zk_m_body 0 false 0 1 400 true (zz_sk zk_m_body 0) [(0, 42, 1), (1, 0, v1), (2, 0, v2), (3, 0, v3), (4, 0, v4)] [] σ := rfl
noncomputable def zw_m_body : List Int → zz_S → zz_R := fun vs σ => match vs with
  | [a0, a1, a2, a3, a4] => if a0 = 1 then m_body a1 a2 a3 a4 σ else none
  | _ => none
def zk_m_leads : List zz_E := [(0, false, .iconst 0, 1, 0, (0, 0, 0, 0), 0, []),
  (1, false, .istore_n 3, 1, 0, (0, 0, 0, 0), 0, []),
  (2, true, .iload_n 3, 1, 0, (0, 0, 0, 0), 0, []),
  (3, false, .aload_n 0, 1, 0, (0, 0, 0, 0), 0, []),
  (4, false, .getfield 171, 3, 803, (40, 9, 0, 0), 0, []),
  (7, false, .if_icmp .ge 16, 3, 0, (23, 0, 0, 0), 0, []),
  (10, false, .aload_n 0, 1, 0, (0, 0, 0, 0), 0, []),
  (11, false, .getfield 168, 3, 855, (40, 61, 93, 1), 0, []),
  (14, false, .iload_n 3, 1, 0, (0, 0, 0, 0), 0, []),
  (15, false, .iconst 0, 1, 0, (0, 0, 0, 0), 0, []),
  (16, false, .bastore, 1, 0, (91, 0, 0, 0), 0, []),
  (17, false, .iinc 3 1, 3, 0, (0, 0, 0, 0), 0, []),
  (20, false, .goto (-18), 3, 0, (2, 0, 0, 0), 0, []),
  (23, false, .aload_n 0, 1, 0, (0, 0, 0, 0), 0, []),
  (24, false, .getfield 168, 3, 855, (40, 61, 93, 1), 0, []),
  (27, false, .iload_n 1, 1, 0, (0, 0, 0, 0), 0, []),
  (28, false, .iconst 1, 1, 0, (0, 0, 0, 0), 0, []),
  (29, false, .bastore, 1, 0, (91, 0, 0, 0), 0, []),
  (30, false, .iconst 1, 1, 0, (0, 0, 0, 0), 0, []),
  (31, false, .istore_n 3, 1, 0, (0, 0, 0, 0), 0, []),
  (32, true, .iload_n 3, 1, 0, (0, 0, 0, 0), 0, []),
  (33, false, .ifCond .eq 98, 3, 0, (131, 0, 0, 0), 0, []),
  (36, false, .iconst 0, 1, 0, (0, 0, 0, 0), 0, []),
  (37, false, .istore_n 3, 1, 0, (0, 0, 0, 0), 0, []),
  (38, false, .iconst 0, 1, 0, (0, 0, 0, 0), 0, []),
  (39, false, .istore 4, 2, 0, (0, 0, 0, 0), 0, []),
  (41, true, .iload 4, 2, 0, (0, 0, 0, 0), 0, []),
  (43, false, .aload_n 0, 1, 0, (0, 0, 0, 0), 0, []),
  (44, false, .getfield 171, 3, 803, (40, 9, 0, 0), 0, []),
  (47, false, .if_icmp .ge 81, 3, 0, (128, 0, 0, 0), 0, []),
  (50, false, .aload_n 0, 1, 0, (0, 0, 0, 0), 0, []),
  (51, false, .getfield 168, 3, 855, (40, 61, 93, 1), 0, []),
  (54, false, .iload 4, 2, 0, (0, 0, 0, 0), 0, []),
  (56, false, .baload, 1, 0, (91, 0, 0, 0), 0, []),
  (57, false, .ifCond .ne 6, 3, 0, (63, 0, 0, 0), 0, []),
  (60, false, .goto 62, 3, 0, (122, 0, 0, 0), 0, []),
  (63, false, .iconst 4, 1, 0, (0, 0, 0, 0), 0, []),
  (64, false, .iload 4, 2, 0, (0, 0, 0, 0), 0, []),
  (66, false, .imul, 1, 0, (0, 0, 0, 0), 0, []),
  (67, false, .istore 5, 2, 0, (0, 0, 0, 0), 0, []),
  (69, true, .iload 5, 2, 0, (0, 0, 0, 0), 0, []),
  (71, false, .iconst 4, 1, 0, (0, 0, 0, 0), 0, []),
  (72, false, .iload 4, 2, 0, (0, 0, 0, 0), 0, []),
  (74, false, .imul, 1, 0, (0, 0, 0, 0), 0, []),
  (75, false, .aload_n 0, 1, 0, (0, 0, 0, 0), 0, []),
  (76, false, .getfield 99, 3, 828, (40, 34, 70, 1), 0, []),
  (79, false, .iload 4, 2, 0, (0, 0, 0, 0), 0, []),
  (81, false, .iaload, 1, 0, (68, 0, 0, 0), 0, []),
  (82, false, .iadd, 1, 0, (0, 0, 0, 0), 0, []),
  (83, false, .if_icmp .ge 39, 3, 0, (122, 0, 0, 0), 0, []),
  (86, false, .aload_n 0, 1, 0, (0, 0, 0, 0), 0, []),
  (87, false, .getfield 168, 3, 855, (40, 61, 93, 1), 0, []),
  (90, false, .aload_n 0, 1, 0, (0, 0, 0, 0), 0, []),
  (91, false, .getfield 102, 3, 829, (40, 35, 71, 1), 0, []),
  (94, false, .iload 5, 2, 0, (0, 0, 0, 0), 0, []),
  (96, false, .iaload, 1, 0, (69, 0, 0, 0), 0, []),
  (97, false, .baload, 1, 0, (91, 0, 0, 0), 0, []),
  (98, false, .ifCond .ne 18, 3, 0, (116, 0, 0, 0), 0, []),
  (101, false, .aload_n 0, 1, 0, (0, 0, 0, 0), 0, []),
  (102, false, .getfield 168, 3, 855, (40, 61, 93, 1), 0, []),
  (105, false, .aload_n 0, 1, 0, (0, 0, 0, 0), 0, []),
  (106, false, .getfield 102, 3, 829, (40, 35, 71, 1), 0, []),
  (109, false, .iload 5, 2, 0, (0, 0, 0, 0), 0, []),
  (111, false, .iaload, 1, 0, (69, 0, 0, 0), 0, []),
  (112, false, .iconst 1, 1, 0, (0, 0, 0, 0), 0, []),
  (113, false, .bastore, 1, 0, (91, 0, 0, 0), 0, []),
  (114, false, .iconst 1, 1, 0, (0, 0, 0, 0), 0, []),
  (115, false, .istore_n 3, 1, 0, (0, 0, 0, 0), 0, []),
  (116, false, .iinc 5 1, 3, 0, (0, 0, 0, 0), 0, []),
  (119, false, .goto (-50), 3, 0, (69, 0, 0, 0), 0, []),
  (122, false, .iinc 4 1, 3, 0, (0, 0, 0, 0), 0, []),
  (125, false, .goto (-84), 3, 0, (41, 0, 0, 0), 0, []),
  (128, false, .goto (-96), 3, 0, (32, 0, 0, 0), 0, []),
  (131, false, .aload_n 0, 1, 0, (0, 0, 0, 0), 0, []),
  (132, false, .getfield 168, 3, 855, (40, 61, 93, 1), 0, []),
  (135, false, .iload_n 2, 1, 0, (0, 0, 0, 0), 0, []),
  (136, false, .baload, 1, 0, (91, 0, 0, 0), 0, []),
  (137, false, .ireturn, 1, 0, (0, 0, 0, 0), 0, [])]
noncomputable def m_leads_69 (k32 : Int → Int → zz_S → zz_R) (k41 : Int → Int → Int → zz_S → zz_R) : Nat → Int → Int → Int → Int → zz_S → zz_R
  | 0, _, _, _, _, _ => none
  | n + 1, v2, v3, v4, v5, σ => (if zz_b σ 68 1 v4 then (if v5 < (zz_r ((zz_r (4 * v4)) + (zz_h σ 68 1 v4))) then (if zz_b σ 69 1 v5 then (if zz_b σ 91 1 (zz_h σ 69 1 v5) then (if (zz_h σ 91 1 (zz_h σ 69 1 v5)) = 0 then (if zz_b σ 69 1 v5 then (if zz_b σ 91 1 (zz_h σ 69 1 v5) then (let s1 := zz_w σ 91 1 (zz_h σ 69 1 v5) 1; (m_leads_69 k32 k41 n v2 1 v4 (zz_r (v5 + 1)) s1)) else none) else none) else (m_leads_69 k32 k41 n v2 v3 v4 (zz_r (v5 + 1)) σ)) else none) else none) else (k41 v2 v3 (zz_r (v4 + 1)) σ)) else none)
set_option maxRecDepth 100000 in
set_option maxHeartbeats 4000000 in
theorem ze_m_leads_69 (k32 : Int → Int → zz_S → zz_R) (k41 : Int → Int → Int → zz_S → zz_R) (n : Nat) (v2 v3 v4 v5 : Int) (σ : zz_S) : m_leads_69 k32 k41 (n + 1) v2 v3 v4 v5 σ = zz_ev (zz_CE []) (zz_KE [(41, [(0, 42, true), (2, 0, false), (3, 0, false), (4, 0, false)], fun vs σ => match vs with | [b0, b1, b2] => k41 b0 b1 b2 σ | _ => none), (69, [(0, 42, true), (2, 0, false), (3, 0, false), (4, 0, false), (5, 0, false)], fun vs σ => match vs with | [b0, b1, b2, b3] => m_leads_69 k32 k41 n b0 b1 b2 b3 σ | _ => none)]) zk_m_leads 0 true 0 1 400 true (zz_sk zk_m_leads 69) [(0, 42, 1), (2, 0, v2), (3, 0, v3), (4, 0, v4), (5, 0, v5)] [] σ := rfl
noncomputable def m_leads_41 (k32 : Int → Int → zz_S → zz_R) : Nat → Int → Int → Int → zz_S → zz_R
  | 0, _, _, _, _ => none
  | n + 1, v2, v3, v4, σ => (if v4 < (zz_h σ 40 1 9) then (if zz_b σ 91 1 v4 then (if (zz_h σ 91 1 v4) = 0 then (m_leads_41 k32 n v2 v3 (zz_r (v4 + 1)) σ) else (m_leads_69 k32 (m_leads_41 k32 n) zz_fu v2 v3 v4 (zz_r (4 * v4)) σ)) else none) else (k32 v2 v3 σ))
set_option maxRecDepth 100000 in
set_option maxHeartbeats 4000000 in
theorem ze_m_leads_41 (k32 : Int → Int → zz_S → zz_R) (n : Nat) (v2 v3 v4 : Int) (σ : zz_S) : m_leads_41 k32 (n + 1) v2 v3 v4 σ = zz_ev (zz_CE []) (zz_KE [(32, [(0, 42, true), (2, 0, false), (3, 0, false)], fun vs σ => match vs with | [b0, b1] => k32 b0 b1 σ | _ => none), (41, [(0, 42, true), (2, 0, false), (3, 0, false), (4, 0, false)], fun vs σ => match vs with | [b0, b1, b2] => m_leads_41 k32 n b0 b1 b2 σ | _ => none), (69, [(0, 42, true), (2, 0, false), (3, 0, false), (4, 0, false), (5, 0, false)], fun vs σ => match vs with | [b0, b1, b2, b3] => m_leads_69 k32 (m_leads_41 k32 n) zz_fu b0 b1 b2 b3 σ | _ => none)]) zk_m_leads 0 true 0 1 400 true (zz_sk zk_m_leads 41) [(0, 42, 1), (2, 0, v2), (3, 0, v3), (4, 0, v4)] [] σ := rfl
noncomputable def m_leads_32 : Nat → Int → Int → zz_S → zz_R
  | 0, _, _, _ => none
  | n + 1, v2, v3, σ => (if v3 = 0 then (if zz_b σ 91 1 v2 then (if zz_o (zz_h σ 91 1 v2) then (some ((zz_h σ 91 1 v2), σ)) else none) else none) else (m_leads_41 (m_leads_32 n) zz_fu v2 0 0 σ))
set_option maxRecDepth 100000 in
set_option maxHeartbeats 4000000 in
theorem ze_m_leads_32 (n : Nat) (v2 v3 : Int) (σ : zz_S) : m_leads_32 (n + 1) v2 v3 σ = zz_ev (zz_CE []) (zz_KE [(41, [(0, 42, true), (2, 0, false), (3, 0, false), (4, 0, false)], fun vs σ => match vs with | [b0, b1, b2] => m_leads_41 (m_leads_32 n) zz_fu b0 b1 b2 σ | _ => none)]) zk_m_leads 0 true 0 1 400 true (zz_sk zk_m_leads 32) [(0, 42, 1), (2, 0, v2), (3, 0, v3)] [] σ := rfl
noncomputable def m_leads_2 : Nat → Int → Int → Int → zz_S → zz_R
  | 0, _, _, _, _ => none
  | n + 1, v1, v2, v3, σ => (if v3 < (zz_h σ 40 1 9) then (if zz_b σ 91 1 v3 then (let s1 := zz_w σ 91 1 v3 0; (m_leads_2 n v1 v2 (zz_r (v3 + 1)) s1)) else none) else (if zz_b σ 91 1 v1 then (let s2 := zz_w σ 91 1 v1 1; (m_leads_32 zz_fu v2 1 s2)) else none))
set_option maxRecDepth 100000 in
set_option maxHeartbeats 4000000 in
theorem ze_m_leads_2 (n : Nat) (v1 v2 v3 : Int) (σ : zz_S) : m_leads_2 (n + 1) v1 v2 v3 σ = zz_ev (zz_CE []) (zz_KE [(2, [(0, 42, true), (1, 0, false), (2, 0, false), (3, 0, false)], fun vs σ => match vs with | [b0, b1, b2] => m_leads_2 n b0 b1 b2 σ | _ => none), (32, [(0, 42, true), (2, 0, false), (3, 0, false)], fun vs σ => match vs with | [b0, b1] => m_leads_32 zz_fu b0 b1 σ | _ => none)]) zk_m_leads 0 true 0 1 400 true (zz_sk zk_m_leads 2) [(0, 42, 1), (1, 0, v1), (2, 0, v2), (3, 0, v3)] [] σ := rfl
noncomputable def m_leads (v1 v2 : Int) (σ : zz_S) : zz_R := (m_leads_2 zz_fu v1 v2 0 σ)
set_option maxRecDepth 100000 in
set_option maxHeartbeats 4000000 in
theorem ze_m_leads (v1 v2 : Int) (σ : zz_S) : m_leads v1 v2 σ = zz_ev (zz_CE []) (zz_KE [(2, [(0, 42, true), (1, 0, false), (2, 0, false), (3, 0, false)], fun vs σ => match vs with | [b0, b1, b2] => m_leads_2 zz_fu b0 b1 b2 σ | _ => none)]) zk_m_leads 0 true 0 1 400 true (zz_sk zk_m_leads 0) [(0, 42, 1), (1, 0, v1), (2, 0, v2)] [] σ := rfl
noncomputable def zw_m_leads : List Int → zz_S → zz_R := fun vs σ => match vs with
  | [a0, a1, a2] => if a0 = 1 then m_leads a1 a2 σ else none
  | _ => none
def zk_m_after : List zz_E := [(0, false, .aload_n 0, 1, 0, (0, 0, 0, 0), 0, []),
  (1, false, .iload_n 1, 1, 0, (0, 0, 0, 0), 0, []),
  (2, false, .invokevirtual 262, 3, 1017, (109, 2, 0, 0), 0, [0, 42]),
  (5, false, .ifCond .eq 35, 3, 0, (40, 0, 0, 0), 0, []),
  (8, false, .aload_n 0, 1, 0, (0, 0, 0, 0), 0, []),
  (9, false, .getfield 26, 3, 804, (40, 10, 46, 1), 0, []),
  (12, false, .iload_n 1, 1, 0, (0, 0, 0, 0), 0, []),
  (13, false, .iaload, 1, 0, (44, 0, 0, 0), 0, []),
  (14, false, .iconst 4, 1, 0, (0, 0, 0, 0), 0, []),
  (15, false, .if_icmp .ne 25, 3, 0, (40, 0, 0, 0), 0, []),
  (18, false, .aload_n 0, 1, 0, (0, 0, 0, 0), 0, []),
  (19, false, .iload_n 2, 1, 0, (0, 0, 0, 0), 0, []),
  (20, false, .invokevirtual 262, 3, 1017, (109, 2, 0, 0), 0, [0, 42]),
  (23, false, .ifCond .eq 17, 3, 0, (40, 0, 0, 0), 0, []),
  (26, false, .iload_n 2, 1, 0, (0, 0, 0, 0), 0, []),
  (27, false, .iload_n 1, 1, 0, (0, 0, 0, 0), 0, []),
  (28, false, .if_icmp .eq 12, 3, 0, (40, 0, 0, 0), 0, []),
  (31, false, .iload_n 3, 1, 0, (0, 0, 0, 0), 0, []),
  (32, false, .iconst 0, 1, 0, (0, 0, 0, 0), 0, []),
  (33, false, .iconst 2, 1, 0, (0, 0, 0, 0), 0, []),
  (34, false, .invokestatic 174, 3, 1021, (108, 3, 0, 0), 0, [0, 0, 0]),
  (37, false, .ifCond .ne 6, 3, 0, (43, 0, 0, 0), 0, []),
  (40, false, .bipush (-2), 2, 0, (0, 0, 0, 0), 0, []),
  (42, false, .ireturn, 1, 0, (0, 0, 0, 0), 0, []),
  (43, false, .aload_n 0, 1, 0, (0, 0, 0, 0), 0, []),
  (44, false, .iload_n 2, 1, 0, (0, 0, 0, 0), 0, []),
  (45, false, .iload_n 1, 1, 0, (0, 0, 0, 0), 0, []),
  (46, false, .invokevirtual 322, 3, 1147, (149, 3, 0, 0), 0, [0, 0, 42]),
  (49, false, .ifCond .eq 6, 3, 0, (55, 0, 0, 0), 0, []),
  (52, false, .bipush (-3), 2, 0, (0, 0, 0, 0), 0, []),
  (54, false, .ireturn, 1, 0, (0, 0, 0, 0), 0, []),
  (55, false, .aload_n 0, 1, 0, (0, 0, 0, 0), 0, []),
  (56, false, .getfield 99, 3, 828, (40, 34, 70, 1), 0, []),
  (59, false, .iload_n 1, 1, 0, (0, 0, 0, 0), 0, []),
  (60, false, .iaload, 1, 0, (68, 0, 0, 0), 0, []),
  (61, false, .iconst 4, 1, 0, (0, 0, 0, 0), 0, []),
  (62, false, .if_icmp .ne 6, 3, 0, (68, 0, 0, 0), 0, []),
  (65, false, .bipush (-4), 2, 0, (0, 0, 0, 0), 0, []),
  (67, false, .ireturn, 1, 0, (0, 0, 0, 0), 0, []),
  (68, false, .aload_n 0, 1, 0, (0, 0, 0, 0), 0, []),
  (69, false, .getfield 102, 3, 829, (40, 35, 71, 1), 0, []),
  (72, false, .iconst 4, 1, 0, (0, 0, 0, 0), 0, []),
  (73, false, .iload_n 1, 1, 0, (0, 0, 0, 0), 0, []),
  (74, false, .imul, 1, 0, (0, 0, 0, 0), 0, []),
  (75, false, .aload_n 0, 1, 0, (0, 0, 0, 0), 0, []),
  (76, false, .getfield 99, 3, 828, (40, 34, 70, 1), 0, []),
  (79, false, .iload_n 1, 1, 0, (0, 0, 0, 0), 0, []),
  (80, false, .iaload, 1, 0, (68, 0, 0, 0), 0, []),
  (81, false, .iadd, 1, 0, (0, 0, 0, 0), 0, []),
  (82, false, .iload_n 2, 1, 0, (0, 0, 0, 0), 0, []),
  (83, false, .iastore, 1, 0, (69, 0, 0, 0), 0, []),
  (84, false, .aload_n 0, 1, 0, (0, 0, 0, 0), 0, []),
  (85, false, .getfield 105, 3, 830, (40, 36, 72, 1), 0, []),
  (88, false, .iconst 4, 1, 0, (0, 0, 0, 0), 0, []),
  (89, false, .iload_n 1, 1, 0, (0, 0, 0, 0), 0, []),
  (90, false, .imul, 1, 0, (0, 0, 0, 0), 0, []),
  (91, false, .aload_n 0, 1, 0, (0, 0, 0, 0), 0, []),
  (92, false, .getfield 99, 3, 828, (40, 34, 70, 1), 0, []),
  (95, false, .iload_n 1, 1, 0, (0, 0, 0, 0), 0, []),
  (96, false, .iaload, 1, 0, (68, 0, 0, 0), 0, []),
  (97, false, .iadd, 1, 0, (0, 0, 0, 0), 0, []),
  (98, false, .iload_n 3, 1, 0, (0, 0, 0, 0), 0, []),
  (99, false, .iastore, 1, 0, (70, 0, 0, 0), 0, []),
  (100, false, .aload_n 0, 1, 0, (0, 0, 0, 0), 0, []),
  (101, false, .getfield 99, 3, 828, (40, 34, 70, 1), 0, []),
  (104, false, .iload_n 1, 1, 0, (0, 0, 0, 0), 0, []),
  (105, false, .dup2, 1, 0, (0, 0, 0, 0), 0, []),
  (106, false, .iaload, 1, 0, (68, 0, 0, 0), 0, []),
  (107, false, .iconst 1, 1, 0, (0, 0, 0, 0), 0, []),
  (108, false, .iadd, 1, 0, (0, 0, 0, 0), 0, []),
  (109, false, .dup_x2, 1, 0, (0, 0, 0, 0), 0, []),
  (110, false, .iastore, 1, 0, (68, 0, 0, 0), 0, []),
  (111, false, .ireturn, 1, 0, (0, 0, 0, 0), 0, [])]
noncomputable def m_after (v1 v2 v3 : Int) (σ : zz_S) : zz_R := ((m_isTask v1 σ).bind fun q1 => (if q1.1 = 0 then (some ((-2), q1.2)) else (if zz_b q1.2 44 1 v1 then (if (zz_h q1.2 44 1 v1) = 4 then ((m_isTask v2 q1.2).bind fun q2 => (if q2.1 = 0 then (some ((-2), q2.2)) else (if v2 = v1 then (some ((-2), q2.2)) else ((m_in v3 0 2 q2.2).bind fun q3 => (if q3.1 = 0 then (some ((-2), q3.2)) else ((m_leads v2 v1 q3.2).bind fun q4 => (if q4.1 = 0 then (if zz_b q4.2 68 1 v1 then (if (zz_h q4.2 68 1 v1) = 4 then (some ((-4), q4.2)) else (if zz_b q4.2 68 1 v1 then (if zz_b q4.2 69 1 (zz_r ((zz_r (4 * v1)) + (zz_h q4.2 68 1 v1))) then (let s5 := zz_w q4.2 69 1 (zz_r ((zz_r (4 * v1)) + (zz_h q4.2 68 1 v1))) v2; (if zz_b s5 68 1 v1 then (if zz_b s5 70 1 (zz_r ((zz_r (4 * v1)) + (zz_h s5 68 1 v1))) then (let s6 := zz_w s5 70 1 (zz_r ((zz_r (4 * v1)) + (zz_h s5 68 1 v1))) v3; (if zz_b s6 68 1 v1 then (if zz_b s6 68 1 v1 then (let s7 := zz_w s6 68 1 v1 (zz_r ((zz_h s6 68 1 v1) + 1)); (some ((zz_r ((zz_h s6 68 1 v1) + 1)), s7))) else none) else none)) else none) else none)) else none) else none)) else none) else (some ((-3), q4.2))))))))) else (some ((-2), q1.2))) else none)))
set_option maxRecDepth 100000 in
set_option maxHeartbeats 4000000 in
theorem ze_m_after (v1 v2 v3 : Int) (σ : zz_S) : m_after v1 v2 v3 σ = zz_ev (zz_CE [(108, zw_m_in), (109, zw_m_isTask), (149, zw_m_leads)]) (zz_KE []) zk_m_after 0 false 0 1 400 true (zz_sk zk_m_after 0) [(0, 42, 1), (1, 0, v1), (2, 0, v2), (3, 0, v3)] [] σ := rfl
noncomputable def zw_m_after : List Int → zz_S → zz_R := fun vs σ => match vs with
  | [a0, a1, a2, a3] => if a0 = 1 then m_after a1 a2 a3 σ else none
  | _ => none
def zk_m_plan : List zz_E := [(0, false, .aload_n 0, 1, 0, (0, 0, 0, 0), 0, []),
  (1, false, .iload_n 1, 1, 0, (0, 0, 0, 0), 0, []),
  (2, false, .invokevirtual 262, 3, 1017, (109, 2, 0, 0), 0, [0, 42]),
  (5, false, .ifCond .eq 23, 3, 0, (28, 0, 0, 0), 0, []),
  (8, false, .iload_n 2, 1, 0, (0, 0, 0, 0), 0, []),
  (9, false, .iconst 1, 1, 0, (0, 0, 0, 0), 0, []),
  (10, false, .bipush 50, 2, 0, (0, 0, 0, 0), 0, []),
  (12, false, .invokestatic 174, 3, 1021, (108, 3, 0, 0), 0, [0, 0, 0]),
  (15, false, .ifCond .eq 13, 3, 0, (28, 0, 0, 0), 0, []),
  (18, false, .iload_n 3, 1, 0, (0, 0, 0, 0), 0, []),
  (19, false, .iconst 0, 1, 0, (0, 0, 0, 0), 0, []),
  (20, false, .bipush 15, 2, 0, (0, 0, 0, 0), 0, []),
  (22, false, .invokestatic 174, 3, 1021, (108, 3, 0, 0), 0, [0, 0, 0]),
  (25, false, .ifCond .ne 6, 3, 0, (31, 0, 0, 0), 0, []),
  (28, false, .bipush (-2), 2, 0, (0, 0, 0, 0), 0, []),
  (30, false, .ireturn, 1, 0, (0, 0, 0, 0), 0, []),
  (31, false, .iconst 0, 1, 0, (0, 0, 0, 0), 0, []),
  (32, false, .istore 4, 2, 0, (0, 0, 0, 0), 0, []),
  (34, true, .iload 4, 2, 0, (0, 0, 0, 0), 0, []),
  (36, false, .aload_n 0, 1, 0, (0, 0, 0, 0), 0, []),
  (37, false, .getfield 259, 3, 831, (40, 37, 0, 0), 0, []),
  (40, false, .if_icmp .ge 44, 3, 0, (84, 0, 0, 0), 0, []),
  (43, false, .aload_n 0, 1, 0, (0, 0, 0, 0), 0, []),
  (44, false, .getfield 108, 3, 832, (40, 38, 73, 1), 0, []),
  (47, false, .iload 4, 2, 0, (0, 0, 0, 0), 0, []),
  (49, false, .iaload, 1, 0, (71, 0, 0, 0), 0, []),
  (50, false, .iload_n 1, 1, 0, (0, 0, 0, 0), 0, []),
  (51, false, .if_icmp .ne 27, 3, 0, (78, 0, 0, 0), 0, []),
  (54, false, .aload_n 0, 1, 0, (0, 0, 0, 0), 0, []),
  (55, false, .getfield 111, 3, 833, (40, 39, 74, 1), 0, []),
  (58, false, .iload 4, 2, 0, (0, 0, 0, 0), 0, []),
  (60, false, .iaload, 1, 0, (72, 0, 0, 0), 0, []),
  (61, false, .iload_n 2, 1, 0, (0, 0, 0, 0), 0, []),
  (62, false, .if_icmp .ne 16, 3, 0, (78, 0, 0, 0), 0, []),
  (65, false, .aload_n 0, 1, 0, (0, 0, 0, 0), 0, []),
  (66, false, .getfield 114, 3, 834, (40, 40, 75, 1), 0, []),
  (69, false, .iload 4, 2, 0, (0, 0, 0, 0), 0, []),
  (71, false, .iload_n 3, 1, 0, (0, 0, 0, 0), 0, []),
  (72, false, .iastore, 1, 0, (73, 0, 0, 0), 0, []),
  (73, false, .aload_n 0, 1, 0, (0, 0, 0, 0), 0, []),
  (74, false, .getfield 259, 3, 831, (40, 37, 0, 0), 0, []),
  (77, false, .ireturn, 1, 0, (0, 0, 0, 0), 0, []),
  (78, false, .iinc 4 1, 3, 0, (0, 0, 0, 0), 0, []),
  (81, false, .goto (-47), 3, 0, (34, 0, 0, 0), 0, []),
  (84, false, .aload_n 0, 1, 0, (0, 0, 0, 0), 0, []),
  (85, false, .getfield 259, 3, 831, (40, 37, 0, 0), 0, []),
  (88, false, .bipush 40, 2, 0, (0, 0, 0, 0), 0, []),
  (90, false, .if_icmp .ne 6, 3, 0, (96, 0, 0, 0), 0, []),
  (93, false, .bipush (-4), 2, 0, (0, 0, 0, 0), 0, []),
  (95, false, .ireturn, 1, 0, (0, 0, 0, 0), 0, []),
  (96, false, .aload_n 0, 1, 0, (0, 0, 0, 0), 0, []),
  (97, false, .getfield 108, 3, 832, (40, 38, 73, 1), 0, []),
  (100, false, .aload_n 0, 1, 0, (0, 0, 0, 0), 0, []),
  (101, false, .getfield 259, 3, 831, (40, 37, 0, 0), 0, []),
  (104, false, .iload_n 1, 1, 0, (0, 0, 0, 0), 0, []),
  (105, false, .iastore, 1, 0, (71, 0, 0, 0), 0, []),
  (106, false, .aload_n 0, 1, 0, (0, 0, 0, 0), 0, []),
  (107, false, .getfield 111, 3, 833, (40, 39, 74, 1), 0, []),
  (110, false, .aload_n 0, 1, 0, (0, 0, 0, 0), 0, []),
  (111, false, .getfield 259, 3, 831, (40, 37, 0, 0), 0, []),
  (114, false, .iload_n 2, 1, 0, (0, 0, 0, 0), 0, []),
  (115, false, .iastore, 1, 0, (72, 0, 0, 0), 0, []),
  (116, false, .aload_n 0, 1, 0, (0, 0, 0, 0), 0, []),
  (117, false, .getfield 114, 3, 834, (40, 40, 75, 1), 0, []),
  (120, false, .aload_n 0, 1, 0, (0, 0, 0, 0), 0, []),
  (121, false, .getfield 259, 3, 831, (40, 37, 0, 0), 0, []),
  (124, false, .iload_n 3, 1, 0, (0, 0, 0, 0), 0, []),
  (125, false, .iastore, 1, 0, (73, 0, 0, 0), 0, []),
  (126, false, .aload_n 0, 1, 0, (0, 0, 0, 0), 0, []),
  (127, false, .dup, 1, 0, (0, 0, 0, 0), 0, []),
  (128, false, .getfield 259, 3, 831, (40, 37, 0, 0), 0, []),
  (131, false, .iconst 1, 1, 0, (0, 0, 0, 0), 0, []),
  (132, false, .iadd, 1, 0, (0, 0, 0, 0), 0, []),
  (133, false, .dup_x1, 1, 0, (0, 0, 0, 0), 0, []),
  (134, false, .putfield 259, 3, 831, (40, 37, 0, 0), 0, []),
  (137, false, .ireturn, 1, 0, (0, 0, 0, 0), 0, [])]
noncomputable def m_plan_34 : Nat → Int → Int → Int → Int → zz_S → zz_R
  | 0, _, _, _, _, _ => none
  | n + 1, v1, v2, v3, v4, σ => (if v4 < (zz_h σ 40 1 37) then (if zz_b σ 71 1 v4 then (if (zz_h σ 71 1 v4) = v1 then (if zz_b σ 72 1 v4 then (if (zz_h σ 72 1 v4) = v2 then (if zz_b σ 73 1 v4 then (let s1 := zz_w σ 73 1 v4 v3; (some ((zz_h s1 40 1 37), s1))) else none) else (m_plan_34 n v1 v2 v3 (zz_r (v4 + 1)) σ)) else none) else (m_plan_34 n v1 v2 v3 (zz_r (v4 + 1)) σ)) else none) else (if (zz_h σ 40 1 37) = 40 then (some ((-4), σ)) else (if zz_b σ 71 1 (zz_h σ 40 1 37) then (let s2 := zz_w σ 71 1 (zz_h σ 40 1 37) v1; (if zz_b s2 72 1 (zz_h s2 40 1 37) then (let s3 := zz_w s2 72 1 (zz_h s2 40 1 37) v2; (if zz_b s3 73 1 (zz_h s3 40 1 37) then (let s4 := zz_w s3 73 1 (zz_h s3 40 1 37) v3; (let s5 := zz_w s4 40 1 37 (zz_r ((zz_h s4 40 1 37) + 1)); (some ((zz_r ((zz_h s4 40 1 37) + 1)), s5)))) else none)) else none)) else none)))
set_option maxRecDepth 100000 in
set_option maxHeartbeats 4000000 in
theorem ze_m_plan_34 (n : Nat) (v1 v2 v3 v4 : Int) (σ : zz_S) : m_plan_34 (n + 1) v1 v2 v3 v4 σ = zz_ev (zz_CE []) (zz_KE [(34, [(0, 42, true), (1, 0, false), (2, 0, false), (3, 0, false), (4, 0, false)], fun vs σ => match vs with | [b0, b1, b2, b3] => m_plan_34 n b0 b1 b2 b3 σ | _ => none)]) zk_m_plan 0 false 0 1 400 true (zz_sk zk_m_plan 34) [(0, 42, 1), (1, 0, v1), (2, 0, v2), (3, 0, v3), (4, 0, v4)] [] σ := rfl
noncomputable def m_plan (v1 v2 v3 : Int) (σ : zz_S) : zz_R := ((m_isTask v1 σ).bind fun q1 => (if q1.1 = 0 then (some ((-2), q1.2)) else ((m_in v2 1 50 q1.2).bind fun q2 => (if q2.1 = 0 then (some ((-2), q2.2)) else ((m_in v3 0 15 q2.2).bind fun q3 => (if q3.1 = 0 then (some ((-2), q3.2)) else (m_plan_34 zz_fu v1 v2 v3 0 q3.2)))))))
set_option maxRecDepth 100000 in
set_option maxHeartbeats 4000000 in
theorem ze_m_plan (v1 v2 v3 : Int) (σ : zz_S) : m_plan v1 v2 v3 σ = zz_ev (zz_CE [(108, zw_m_in), (109, zw_m_isTask)]) (zz_KE [(34, [(0, 42, true), (1, 0, false), (2, 0, false), (3, 0, false), (4, 0, false)], fun vs σ => match vs with | [b0, b1, b2, b3] => m_plan_34 zz_fu b0 b1 b2 b3 σ | _ => none)]) zk_m_plan 0 false 0 1 400 true (zz_sk zk_m_plan 0) [(0, 42, 1), (1, 0, v1), (2, 0, v2), (3, 0, v3)] [] σ := rfl
noncomputable def zw_m_plan : List Int → zz_S → zz_R := fun vs σ => match vs with
  | [a0, a1, a2, a3] => if a0 = 1 then m_plan a1 a2 a3 σ else none
  | _ => none
def zk_m_clearPlan : List zz_E := [(0, false, .aload_n 0, 1, 0, (0, 0, 0, 0), 0, []),
  (1, false, .getfield 259, 3, 831, (40, 37, 0, 0), 0, []),
  (4, false, .istore_n 1, 1, 0, (0, 0, 0, 0), 0, []),
  (5, false, .aload_n 0, 1, 0, (0, 0, 0, 0), 0, []),
  (6, false, .iconst 0, 1, 0, (0, 0, 0, 0), 0, []),
  (7, false, .putfield 259, 3, 831, (40, 37, 0, 0), 0, []),
  (10, false, .iload_n 1, 1, 0, (0, 0, 0, 0), 0, []),
  (11, false, .ireturn, 1, 0, (0, 0, 0, 0), 0, [])]
noncomputable def m_clearPlan (σ : zz_S) : zz_R := (let s1 := zz_w σ 40 1 37 0; (some ((zz_h σ 40 1 37), s1)))
set_option maxRecDepth 100000 in
set_option maxHeartbeats 4000000 in
theorem ze_m_clearPlan (σ : zz_S) : m_clearPlan σ = zz_ev (zz_CE []) (zz_KE []) zk_m_clearPlan 0 false 0 1 400 true (zz_sk zk_m_clearPlan 0) [(0, 42, 1)] [] σ := rfl
noncomputable def zw_m_clearPlan : List Int → zz_S → zz_R := fun vs σ => match vs with
  | [a0] => if a0 = 1 then m_clearPlan σ else none
  | _ => none
def zk_m_jump : List zz_E := [(0, false, .iload_n 1, 1, 0, (0, 0, 0, 0), 0, []),
  (1, false, .sipush (-720), 3, 0, (0, 0, 0, 0), 0, []),
  (4, false, .sipush 720, 3, 0, (0, 0, 0, 0), 0, []),
  (7, false, .invokestatic 174, 3, 1021, (108, 3, 0, 0), 0, [0, 0, 0]),
  (10, false, .ifCond .eq 39, 3, 0, (49, 0, 0, 0), 0, []),
  (13, false, .iload_n 1, 1, 0, (0, 0, 0, 0), 0, []),
  (14, false, .ifCond .eq 35, 3, 0, (49, 0, 0, 0), 0, []),
  (17, false, .aload_n 0, 1, 0, (0, 0, 0, 0), 0, []),
  (18, false, .getfield 214, 3, 795, (40, 1, 0, 0), 0, []),
  (21, false, .iload_n 1, 1, 0, (0, 0, 0, 0), 0, []),
  (22, false, .iadd, 1, 0, (0, 0, 0, 0), 0, []),
  (23, false, .sipush (-1440), 3, 0, (0, 0, 0, 0), 0, []),
  (26, false, .sipush 1440, 3, 0, (0, 0, 0, 0), 0, []),
  (29, false, .invokestatic 174, 3, 1021, (108, 3, 0, 0), 0, [0, 0, 0]),
  (32, false, .ifCond .eq 17, 3, 0, (49, 0, 0, 0), 0, []),
  (35, false, .aload_n 0, 1, 0, (0, 0, 0, 0), 0, []),
  (36, false, .getfield 250, 3, 794, (40, 0, 0, 0), 0, []),
  (39, false, .aload_n 0, 1, 0, (0, 0, 0, 0), 0, []),
  (40, false, .getfield 214, 3, 795, (40, 1, 0, 0), 0, []),
  (43, false, .iadd, 1, 0, (0, 0, 0, 0), 0, []),
  (44, false, .iload_n 1, 1, 0, (0, 0, 0, 0), 0, []),
  (45, false, .iadd, 1, 0, (0, 0, 0, 0), 0, []),
  (46, false, .ifCond .ge 6, 3, 0, (52, 0, 0, 0), 0, []),
  (49, false, .bipush (-2), 2, 0, (0, 0, 0, 0), 0, []),
  (51, false, .ireturn, 1, 0, (0, 0, 0, 0), 0, []),
  (52, false, .iload_n 1, 1, 0, (0, 0, 0, 0), 0, []),
  (53, false, .ifCond .le 161, 3, 0, (214, 0, 0, 0), 0, []),
  (56, false, .aload_n 0, 1, 0, (0, 0, 0, 0), 0, []),
  (57, false, .getfield 250, 3, 794, (40, 0, 0, 0), 0, []),
  (60, false, .aload_n 0, 1, 0, (0, 0, 0, 0), 0, []),
  (61, false, .getfield 214, 3, 795, (40, 1, 0, 0), 0, []),
  (64, false, .iadd, 1, 0, (0, 0, 0, 0), 0, []),
  (65, false, .istore_n 2, 1, 0, (0, 0, 0, 0), 0, []),
  (66, false, .iconst 0, 1, 0, (0, 0, 0, 0), 0, []),
  (67, false, .istore_n 3, 1, 0, (0, 0, 0, 0), 0, []),
  (68, true, .iload_n 3, 1, 0, (0, 0, 0, 0), 0, []),
  (69, false, .aload_n 0, 1, 0, (0, 0, 0, 0), 0, []),
  (70, false, .getfield 171, 3, 803, (40, 9, 0, 0), 0, []),
  (73, false, .if_icmp .ge 120, 3, 0, (193, 0, 0, 0), 0, []),
  (76, false, .aload_n 0, 1, 0, (0, 0, 0, 0), 0, []),
  (77, false, .iload_n 3, 1, 0, (0, 0, 0, 0), 0, []),
  (78, false, .invokevirtual 241, 3, 1024, (110, 2, 0, 0), 0, [0, 42]),
  (81, false, .ifCond .eq 106, 3, 0, (187, 0, 0, 0), 0, []),
  (84, false, .aload_n 0, 1, 0, (0, 0, 0, 0), 0, []),
  (85, false, .getfield 26, 3, 804, (40, 10, 46, 1), 0, []),
  (88, false, .iload_n 3, 1, 0, (0, 0, 0, 0), 0, []),
  (89, false, .iaload, 1, 0, (44, 0, 0, 0), 0, []),
  (90, false, .iconst 3, 1, 0, (0, 0, 0, 0), 0, []),
  (91, false, .if_icmp .eq 6, 3, 0, (97, 0, 0, 0), 0, []),
  (94, false, .goto 93, 3, 0, (187, 0, 0, 0), 0, []),
  (97, false, .iconst 0, 1, 0, (0, 0, 0, 0), 0, []),
  (98, false, .istore 4, 2, 0, (0, 0, 0, 0), 0, []),
  (100, false, .iload_n 2, 1, 0, (0, 0, 0, 0), 0, []),
  (101, false, .istore 5, 2, 0, (0, 0, 0, 0), 0, []),
  (103, true, .iload 5, 2, 0, (0, 0, 0, 0), 0, []),
  (105, false, .iload_n 2, 1, 0, (0, 0, 0, 0), 0, []),
  (106, false, .iload_n 1, 1, 0, (0, 0, 0, 0), 0, []),
  (107, false, .iadd, 1, 0, (0, 0, 0, 0), 0, []),
  (108, false, .if_icmp .ge 79, 3, 0, (187, 0, 0, 0), 0, []),
  (111, false, .iload 5, 2, 0, (0, 0, 0, 0), 0, []),
  (113, false, .aload_n 0, 1, 0, (0, 0, 0, 0), 0, []),
  (114, false, .getfield 7, 3, 796, (40, 2, 0, 0), 0, []),
  (117, false, .if_icmp .le 64, 3, 0, (181, 0, 0, 0), 0, []),
  (120, false, .aload_n 0, 1, 0, (0, 0, 0, 0), 0, []),
  (121, false, .iload_n 3, 1, 0, (0, 0, 0, 0), 0, []),
  (122, false, .iload 5, 2, 0, (0, 0, 0, 0), 0, []),
  (124, false, .invokevirtual 293, 3, 1068, (119, 3, 0, 0), 0, [0, 0, 42]),
  (127, false, .ifCond .ne 6, 3, 0, (133, 0, 0, 0), 0, []),
  (130, false, .goto 51, 3, 0, (181, 0, 0, 0), 0, []),
  (133, false, .iinc 4 1, 3, 0, (0, 0, 0, 0), 0, []),
  (136, false, .aload_n 0, 1, 0, (0, 0, 0, 0), 0, []),
  (137, false, .getfield 47, 3, 811, (40, 17, 53, 1), 0, []),
  (140, false, .iload_n 3, 1, 0, (0, 0, 0, 0), 0, []),
  (141, false, .iaload, 1, 0, (51, 0, 0, 0), 0, []),
  (142, false, .ifCond .ne 14, 3, 0, (156, 0, 0, 0), 0, []),
  (145, false, .aload_n 0, 1, 0, (0, 0, 0, 0), 0, []),
  (146, false, .iload_n 3, 1, 0, (0, 0, 0, 0), 0, []),
  (147, false, .iload 5, 2, 0, (0, 0, 0, 0), 0, []),
  (149, false, .iconst 3, 1, 0, (0, 0, 0, 0), 0, []),
  (150, false, .invokevirtual 227, 3, 1052, (123, 4, 999, 0), 0, [0, 0, 0, 42]),
  (153, false, .goto 28, 3, 0, (181, 0, 0, 0), 0, []),
  (156, false, .aload_n 0, 1, 0, (0, 0, 0, 0), 0, []),
  (157, false, .getfield 47, 3, 811, (40, 17, 53, 1), 0, []),
  (160, false, .iload_n 3, 1, 0, (0, 0, 0, 0), 0, []),
  (161, false, .iaload, 1, 0, (51, 0, 0, 0), 0, []),
  (162, false, .iconst 2, 1, 0, (0, 0, 0, 0), 0, []),
  (163, false, .if_icmp .eq 9, 3, 0, (172, 0, 0, 0), 0, []),
  (166, false, .iload 4, 2, 0, (0, 0, 0, 0), 0, []),
  (168, false, .iconst 1, 1, 0, (0, 0, 0, 0), 0, []),
  (169, false, .if_icmp .ne 12, 3, 0, (181, 0, 0, 0), 0, []),
  (172, false, .aload_n 0, 1, 0, (0, 0, 0, 0), 0, []),
  (173, false, .iload_n 3, 1, 0, (0, 0, 0, 0), 0, []),
  (174, false, .aload_n 0, 1, 0, (0, 0, 0, 0), 0, []),
  (175, false, .getfield 250, 3, 794, (40, 0, 0, 0), 0, []),
  (178, false, .invokevirtual 244, 3, 1048, (125, 3, 999, 0), 0, [0, 0, 42]),
  (181, false, .iinc 5 1, 3, 0, (0, 0, 0, 0), 0, []),
  (184, false, .goto (-81), 3, 0, (103, 0, 0, 0), 0, []),
  (187, false, .iinc 3 1, 3, 0, (0, 0, 0, 0), 0, []),
  (190, false, .goto (-122), 3, 0, (68, 0, 0, 0), 0, []),
  (193, false, .iload_n 2, 1, 0, (0, 0, 0, 0), 0, []),
  (194, false, .iload_n 1, 1, 0, (0, 0, 0, 0), 0, []),
  (195, false, .iadd, 1, 0, (0, 0, 0, 0), 0, []),
  (196, false, .iconst 1, 1, 0, (0, 0, 0, 0), 0, []),
  (197, false, .isub, 1, 0, (0, 0, 0, 0), 0, []),
  (198, false, .aload_n 0, 1, 0, (0, 0, 0, 0), 0, []),
  (199, false, .getfield 7, 3, 796, (40, 2, 0, 0), 0, []),
  (202, false, .if_icmp .le 12, 3, 0, (214, 0, 0, 0), 0, []),
  (205, false, .aload_n 0, 1, 0, (0, 0, 0, 0), 0, []),
  (206, false, .iload_n 2, 1, 0, (0, 0, 0, 0), 0, []),
  (207, false, .iload_n 1, 1, 0, (0, 0, 0, 0), 0, []),
  (208, false, .iadd, 1, 0, (0, 0, 0, 0), 0, []),
  (209, false, .iconst 1, 1, 0, (0, 0, 0, 0), 0, []),
  (210, false, .isub, 1, 0, (0, 0, 0, 0), 0, []),
  (211, false, .putfield 7, 3, 796, (40, 2, 0, 0), 0, []),
  (214, true, .aload_n 0, 1, 0, (0, 0, 0, 0), 0, []),
  (215, false, .dup, 1, 0, (0, 0, 0, 0), 0, []),
  (216, false, .getfield 214, 3, 795, (40, 1, 0, 0), 0, []),
  (219, false, .iload_n 1, 1, 0, (0, 0, 0, 0), 0, []),
  (220, false, .iadd, 1, 0, (0, 0, 0, 0), 0, []),
  (221, false, .putfield 214, 3, 795, (40, 1, 0, 0), 0, []),
  (224, false, .aload_n 0, 1, 0, (0, 0, 0, 0), 0, []),
  (225, false, .getfield 214, 3, 795, (40, 1, 0, 0), 0, []),
  (228, false, .ireturn, 1, 0, (0, 0, 0, 0), 0, [])]
noncomputable def m_jump_214 (v1 : Int) (σ : zz_S) : zz_R := (let s1 := zz_w σ 40 1 1 (zz_r ((zz_h σ 40 1 1) + v1)); (some ((zz_h s1 40 1 1), s1)))
set_option maxRecDepth 100000 in
set_option maxHeartbeats 4000000 in
theorem ze_m_jump_214 (v1 : Int) (σ : zz_S) : m_jump_214 v1 σ = zz_ev (zz_CE []) (zz_KE []) zk_m_jump 0 false 0 1 400 true (zz_sk zk_m_jump 214) [(0, 42, 1), (1, 0, v1)] [] σ := rfl
noncomputable def m_jump_103 (k68 : Int → Int → Int → zz_S → zz_R) : Nat → Int → Int → Int → Int → Int → zz_S → zz_R
  | 0, _, _, _, _, _, _ => none
  | n + 1, v1, v2, v3, v4, v5, σ => (if v5 < (zz_r (v2 + v1)) then (if v5 ≤ (zz_h σ 40 1 2) then (m_jump_103 k68 n v1 v2 v3 v4 (zz_r (v5 + 1)) σ) else ((m_fits v3 v5 σ).bind fun q1 => (if q1.1 = 0 then (m_jump_103 k68 n v1 v2 v3 v4 (zz_r (v5 + 1)) q1.2) else (if zz_b q1.2 51 1 v3 then (if (zz_h q1.2 51 1 v3) = 0 then ((m_books v3 v5 3 q1.2).bind fun q2 => (m_jump_103 k68 n v1 v2 v3 (zz_r (v4 + 1)) (zz_r (v5 + 1)) q2.2)) else (if zz_b q1.2 51 1 v3 then (if (zz_h q1.2 51 1 v3) = 2 then ((m_comes v3 (zz_h q1.2 40 1 0) q1.2).bind fun q3 => (m_jump_103 k68 n v1 v2 v3 (zz_r (v4 + 1)) (zz_r (v5 + 1)) q3.2)) else (if (zz_r (v4 + 1)) = 1 then ((m_comes v3 (zz_h q1.2 40 1 0) q1.2).bind fun q4 => (m_jump_103 k68 n v1 v2 v3 (zz_r (v4 + 1)) (zz_r (v5 + 1)) q4.2)) else (m_jump_103 k68 n v1 v2 v3 (zz_r (v4 + 1)) (zz_r (v5 + 1)) q1.2))) else none)) else none)))) else (k68 v1 v2 (zz_r (v3 + 1)) σ))
set_option maxRecDepth 100000 in
set_option maxHeartbeats 4000000 in
theorem ze_m_jump_103 (k68 : Int → Int → Int → zz_S → zz_R) (n : Nat) (v1 v2 v3 v4 v5 : Int) (σ : zz_S) : m_jump_103 k68 (n + 1) v1 v2 v3 v4 v5 σ = zz_ev (zz_CE [(119, zw_m_fits), (123, zw_m_books), (125, zw_m_comes)]) (zz_KE [(68, [(0, 42, true), (1, 0, false), (2, 0, false), (3, 0, false)], fun vs σ => match vs with | [b0, b1, b2] => k68 b0 b1 b2 σ | _ => none), (103, [(0, 42, true), (1, 0, false), (2, 0, false), (3, 0, false), (4, 0, false), (5, 0, false)], fun vs σ => match vs with | [b0, b1, b2, b3, b4] => m_jump_103 k68 n b0 b1 b2 b3 b4 σ | _ => none)]) zk_m_jump 0 false 0 1 400 true (zz_sk zk_m_jump 103) [(0, 42, 1), (1, 0, v1), (2, 0, v2), (3, 0, v3), (4, 0, v4), (5, 0, v5)] [] σ := rfl
noncomputable def m_jump_68 : Nat → Int → Int → Int → zz_S → zz_R
  | 0, _, _, _, _ => none
  | n + 1, v1, v2, v3, σ => (if v3 < (zz_h σ 40 1 9) then ((m_isActive v3 σ).bind fun q1 => (if q1.1 = 0 then (m_jump_68 n v1 v2 (zz_r (v3 + 1)) q1.2) else (if zz_b q1.2 44 1 v3 then (if (zz_h q1.2 44 1 v3) = 3 then (m_jump_103 (m_jump_68 n) zz_fu v1 v2 v3 0 v2 q1.2) else (m_jump_68 n v1 v2 (zz_r (v3 + 1)) q1.2)) else none))) else (if (zz_r ((zz_r (v2 + v1)) - 1)) ≤ (zz_h σ 40 1 2) then (m_jump_214 v1 σ) else (let s2 := zz_w σ 40 1 2 (zz_r ((zz_r (v2 + v1)) - 1)); (m_jump_214 v1 s2))))
set_option maxRecDepth 100000 in
set_option maxHeartbeats 4000000 in
theorem ze_m_jump_68 (n : Nat) (v1 v2 v3 : Int) (σ : zz_S) : m_jump_68 (n + 1) v1 v2 v3 σ = zz_ev (zz_CE [(110, zw_m_isActive)]) (zz_KE [(68, [(0, 42, true), (1, 0, false), (2, 0, false), (3, 0, false)], fun vs σ => match vs with | [b0, b1, b2] => m_jump_68 n b0 b1 b2 σ | _ => none), (103, [(0, 42, true), (1, 0, false), (2, 0, false), (3, 0, false), (4, 0, false), (5, 0, false)], fun vs σ => match vs with | [b0, b1, b2, b3, b4] => m_jump_103 (m_jump_68 n) zz_fu b0 b1 b2 b3 b4 σ | _ => none), (214, [(0, 42, true), (1, 0, false)], fun vs σ => match vs with | [b0] => m_jump_214 b0 σ | _ => none)]) zk_m_jump 0 false 0 1 400 true (zz_sk zk_m_jump 68) [(0, 42, 1), (1, 0, v1), (2, 0, v2), (3, 0, v3)] [] σ := rfl
noncomputable def m_jump (v1 : Int) (σ : zz_S) : zz_R := ((m_in v1 (-720) 720 σ).bind fun q1 => (if q1.1 = 0 then (some ((-2), q1.2)) else (if v1 = 0 then (some ((-2), q1.2)) else ((m_in (zz_r ((zz_h q1.2 40 1 1) + v1)) (-1440) 1440 q1.2).bind fun q2 => (if q2.1 = 0 then (some ((-2), q2.2)) else (if (zz_r ((zz_r ((zz_h q2.2 40 1 0) + (zz_h q2.2 40 1 1))) + v1)) < 0 then (some ((-2), q2.2)) else (if v1 ≤ 0 then (m_jump_214 v1 q2.2) else (m_jump_68 zz_fu v1 (zz_r ((zz_h q2.2 40 1 0) + (zz_h q2.2 40 1 1))) 0 q2.2))))))))
set_option maxRecDepth 100000 in
set_option maxHeartbeats 4000000 in
theorem ze_m_jump (v1 : Int) (σ : zz_S) : m_jump v1 σ = zz_ev (zz_CE [(108, zw_m_in)]) (zz_KE [(68, [(0, 42, true), (1, 0, false), (2, 0, false), (3, 0, false)], fun vs σ => match vs with | [b0, b1, b2] => m_jump_68 zz_fu b0 b1 b2 σ | _ => none), (214, [(0, 42, true), (1, 0, false)], fun vs σ => match vs with | [b0] => m_jump_214 b0 σ | _ => none)]) zk_m_jump 0 false 0 1 400 true (zz_sk zk_m_jump 0) [(0, 42, 1), (1, 0, v1)] [] σ := rfl
noncomputable def zw_m_jump : List Int → zz_S → zz_R := fun vs σ => match vs with
  | [a0, a1] => if a0 = 1 then m_jump a1 σ else none
  | _ => none
def zk_m_cancel : List zz_E := [(0, false, .aload_n 0, 1, 0, (0, 0, 0, 0), 0, []),
  (1, false, .iload_n 1, 1, 0, (0, 0, 0, 0), 0, []),
  (2, false, .invokevirtual 262, 3, 1017, (109, 2, 0, 0), 0, [0, 42]),
  (5, false, .ifCond .eq 12, 3, 0, (17, 0, 0, 0), 0, []),
  (8, false, .iload_n 2, 1, 0, (0, 0, 0, 0), 0, []),
  (9, false, .iconst 0, 1, 0, (0, 0, 0, 0), 0, []),
  (10, false, .iconst 1, 1, 0, (0, 0, 0, 0), 0, []),
  (11, false, .invokestatic 174, 3, 1021, (108, 3, 0, 0), 0, [0, 0, 0]),
  (14, false, .ifCond .ne 6, 3, 0, (20, 0, 0, 0), 0, []),
  (17, false, .bipush (-2), 2, 0, (0, 0, 0, 0), 0, []),
  (19, false, .ireturn, 1, 0, (0, 0, 0, 0), 0, []),
  (20, false, .aload_n 0, 1, 0, (0, 0, 0, 0), 0, []),
  (21, false, .iload_n 1, 1, 0, (0, 0, 0, 0), 0, []),
  (22, false, .invokevirtual 241, 3, 1024, (110, 2, 0, 0), 0, [0, 42]),
  (25, false, .ifCond .ne 6, 3, 0, (31, 0, 0, 0), 0, []),
  (28, false, .bipush (-3), 2, 0, (0, 0, 0, 0), 0, []),
  (30, false, .ireturn, 1, 0, (0, 0, 0, 0), 0, []),
  (31, false, .aload_n 0, 1, 0, (0, 0, 0, 0), 0, []),
  (32, false, .getfield 62, 3, 816, (40, 22, 58, 1), 0, []),
  (35, false, .iload_n 1, 1, 0, (0, 0, 0, 0), 0, []),
  (36, false, .iconst 3, 1, 0, (0, 0, 0, 0), 0, []),
  (37, false, .iastore, 1, 0, (56, 0, 0, 0), 0, []),
  (38, false, .aload_n 0, 1, 0, (0, 0, 0, 0), 0, []),
  (39, false, .iload_n 1, 1, 0, (0, 0, 0, 0), 0, []),
  (40, false, .invokevirtual 265, 3, 1028, (127, 2, 999, 0), 0, [0, 42]),
  (43, false, .iload_n 2, 1, 0, (0, 0, 0, 0), 0, []),
  (44, false, .iconst 1, 1, 0, (0, 0, 0, 0), 0, []),
  (45, false, .if_icmp .ne 9, 3, 0, (54, 0, 0, 0), 0, []),
  (48, false, .aload_n 0, 1, 0, (0, 0, 0, 0), 0, []),
  (49, false, .iload_n 1, 1, 0, (0, 0, 0, 0), 0, []),
  (50, false, .iconst 0, 1, 0, (0, 0, 0, 0), 0, []),
  (51, false, .invokevirtual 325, 3, 1167, (130, 3, 999, 0), 0, [0, 0, 42]),
  (54, false, .iconst 1, 1, 0, (0, 0, 0, 0), 0, []),
  (55, false, .ireturn, 1, 0, (0, 0, 0, 0), 0, [])]
noncomputable def m_cancel (v1 v2 : Int) (σ : zz_S) : zz_R := ((m_isTask v1 σ).bind fun q1 => (if q1.1 = 0 then (some ((-2), q1.2)) else ((m_in v2 0 1 q1.2).bind fun q2 => (if q2.1 = 0 then (some ((-2), q2.2)) else ((m_isActive v1 q2.2).bind fun q3 => (if q3.1 = 0 then (some ((-3), q3.2)) else (if zz_b q3.2 56 1 v1 then (let s4 := zz_w q3.2 56 1 v1 3; ((m_dropDues v1 s4).bind fun q5 => (if v2 = 1 then ((m_interrupts v1 0 q5.2).bind fun q6 => (some (1, q6.2))) else (some (1, q5.2))))) else none)))))))
set_option maxRecDepth 100000 in
set_option maxHeartbeats 4000000 in
theorem ze_m_cancel (v1 v2 : Int) (σ : zz_S) : m_cancel v1 v2 σ = zz_ev (zz_CE [(108, zw_m_in), (109, zw_m_isTask), (110, zw_m_isActive), (127, zw_m_dropDues), (130, zw_m_interrupts)]) (zz_KE []) zk_m_cancel 0 false 0 1 400 true (zz_sk zk_m_cancel 0) [(0, 42, 1), (1, 0, v1), (2, 0, v2)] [] σ := rfl
noncomputable def zw_m_cancel : List Int → zz_S → zz_R := fun vs σ => match vs with
  | [a0, a1, a2] => if a0 = 1 then m_cancel a1 a2 σ else none
  | _ => none
def zk_m_stop : List zz_E := [(0, false, .iload_n 1, 1, 0, (0, 0, 0, 0), 0, []),
  (1, false, .iconst 0, 1, 0, (0, 0, 0, 0), 0, []),
  (2, false, .iconst 1, 1, 0, (0, 0, 0, 0), 0, []),
  (3, false, .invokestatic 174, 3, 1021, (108, 3, 0, 0), 0, [0, 0, 0]),
  (6, false, .ifCond .ne 6, 3, 0, (12, 0, 0, 0), 0, []),
  (9, false, .bipush (-2), 2, 0, (0, 0, 0, 0), 0, []),
  (11, false, .ireturn, 1, 0, (0, 0, 0, 0), 0, []),
  (12, false, .aload_n 0, 1, 0, (0, 0, 0, 0), 0, []),
  (13, false, .getfield 223, 3, 797, (40, 3, 0, 0), 1, []),
  (16, false, .ifCond .eq 6, 3, 0, (22, 0, 0, 0), 0, []),
  (19, false, .bipush (-3), 2, 0, (0, 0, 0, 0), 0, []),
  (21, false, .ireturn, 1, 0, (0, 0, 0, 0), 0, []),
  (22, false, .aload_n 0, 1, 0, (0, 0, 0, 0), 0, []),
  (23, false, .iconst 1, 1, 0, (0, 0, 0, 0), 0, []),
  (24, false, .putfield 223, 3, 797, (40, 3, 0, 0), 1, []),
  (27, false, .iload_n 1, 1, 0, (0, 0, 0, 0), 0, []),
  (28, false, .iconst 1, 1, 0, (0, 0, 0, 0), 0, []),
  (29, false, .if_icmp .ne 74, 3, 0, (103, 0, 0, 0), 0, []),
  (32, false, .iconst 0, 1, 0, (0, 0, 0, 0), 0, []),
  (33, false, .istore_n 2, 1, 0, (0, 0, 0, 0), 0, []),
  (34, true, .iload_n 2, 1, 0, (0, 0, 0, 0), 0, []),
  (35, false, .aload_n 0, 1, 0, (0, 0, 0, 0), 0, []),
  (36, false, .getfield 178, 3, 847, (40, 53, 0, 0), 0, []),
  (39, false, .if_icmp .ge 53, 3, 0, (92, 0, 0, 0), 0, []),
  (42, false, .aload_n 0, 1, 0, (0, 0, 0, 0), 0, []),
  (43, false, .aload_n 0, 1, 0, (0, 0, 0, 0), 0, []),
  (44, false, .getfield 150, 3, 848, (40, 54, 87, 1), 0, []),
  (47, false, .iload_n 2, 1, 0, (0, 0, 0, 0), 0, []),
  (48, false, .iaload, 1, 0, (85, 0, 0, 0), 0, []),
  (49, false, .aload_n 0, 1, 0, (0, 0, 0, 0), 0, []),
  (50, false, .getfield 153, 3, 849, (40, 55, 88, 1), 0, []),
  (53, false, .iload_n 2, 1, 0, (0, 0, 0, 0), 0, []),
  (54, false, .iaload, 1, 0, (86, 0, 0, 0), 0, []),
  (55, false, .iconst 4, 1, 0, (0, 0, 0, 0), 0, []),
  (56, false, .invokevirtual 227, 3, 1052, (123, 4, 999, 0), 0, [0, 0, 0, 42]),
  (59, false, .aload_n 0, 1, 0, (0, 0, 0, 0), 0, []),
  (60, false, .aload_n 0, 1, 0, (0, 0, 0, 0), 0, []),
  (61, false, .getfield 150, 3, 848, (40, 54, 87, 1), 0, []),
  (64, false, .iload_n 2, 1, 0, (0, 0, 0, 0), 0, []),
  (65, false, .iaload, 1, 0, (85, 0, 0, 0), 0, []),
  (66, false, .invokevirtual 241, 3, 1024, (110, 2, 0, 0), 0, [0, 42]),
  (69, false, .ifCond .eq 17, 3, 0, (86, 0, 0, 0), 0, []),
  (72, false, .aload_n 0, 1, 0, (0, 0, 0, 0), 0, []),
  (73, false, .aload_n 0, 1, 0, (0, 0, 0, 0), 0, []),
  (74, false, .getfield 150, 3, 848, (40, 54, 87, 1), 0, []),
  (77, false, .iload_n 2, 1, 0, (0, 0, 0, 0), 0, []),
  (78, false, .iaload, 1, 0, (85, 0, 0, 0), 0, []),
  (79, false, .aload_n 0, 1, 0, (0, 0, 0, 0), 0, []),
  (80, false, .getfield 250, 3, 794, (40, 0, 0, 0), 0, []),
  (83, false, .invokevirtual 231, 3, 1056, (124, 3, 999, 0), 0, [0, 0, 42]),
  (86, false, .iinc 2 1, 3, 0, (0, 0, 0, 0), 0, []),
  (89, false, .goto (-55), 3, 0, (34, 0, 0, 0), 0, []),
  (92, false, .aload_n 0, 1, 0, (0, 0, 0, 0), 0, []),
  (93, false, .iconst 0, 1, 0, (0, 0, 0, 0), 0, []),
  (94, false, .putfield 178, 3, 847, (40, 53, 0, 0), 0, []),
  (97, false, .aload_n 0, 1, 0, (0, 0, 0, 0), 0, []),
  (98, false, .iconst 0, 1, 0, (0, 0, 0, 0), 0, []),
  (99, false, .iconst 1, 1, 0, (0, 0, 0, 0), 0, []),
  (100, false, .invokevirtual 325, 3, 1167, (130, 3, 999, 0), 0, [0, 0, 42]),
  (103, false, .iconst 1, 1, 0, (0, 0, 0, 0), 0, []),
  (104, false, .ireturn, 1, 0, (0, 0, 0, 0), 0, [])]
noncomputable def m_stop_34 : Nat → Int → zz_S → zz_R
  | 0, _, _ => none
  | n + 1, v2, σ => (if v2 < (zz_h σ 40 1 53) then (if zz_b σ 85 1 v2 then (if zz_b σ 86 1 v2 then ((m_books (zz_h σ 85 1 v2) (zz_h σ 86 1 v2) 4 σ).bind fun q1 => (if zz_b q1.2 85 1 v2 then ((m_isActive (zz_h q1.2 85 1 v2) q1.2).bind fun q2 => (if q2.1 = 0 then (m_stop_34 n (zz_r (v2 + 1)) q2.2) else (if zz_b q2.2 85 1 v2 then ((m_dueGone (zz_h q2.2 85 1 v2) (zz_h q2.2 40 1 0) q2.2).bind fun q3 => (m_stop_34 n (zz_r (v2 + 1)) q3.2)) else none))) else none)) else none) else none) else (let s4 := zz_w σ 40 1 53 0; ((m_interrupts 0 1 s4).bind fun q5 => (some (1, q5.2)))))
set_option maxRecDepth 100000 in
set_option maxHeartbeats 4000000 in
theorem ze_m_stop_34 (n : Nat) (v2 : Int) (σ : zz_S) : m_stop_34 (n + 1) v2 σ = zz_ev (zz_CE [(110, zw_m_isActive), (123, zw_m_books), (124, zw_m_dueGone), (130, zw_m_interrupts)]) (zz_KE [(34, [(0, 42, true), (2, 0, false)], fun vs σ => match vs with | [b0] => m_stop_34 n b0 σ | _ => none)]) zk_m_stop 0 false 0 1 400 true (zz_sk zk_m_stop 34) [(0, 42, 1), (2, 0, v2)] [] σ := rfl
noncomputable def m_stop (v1 : Int) (σ : zz_S) : zz_R := ((m_in v1 0 1 σ).bind fun q1 => (if q1.1 = 0 then (some ((-2), q1.2)) else (if (zz_h q1.2 40 1 3) = 0 then (let s2 := zz_w q1.2 40 1 3 1; (if v1 = 1 then (m_stop_34 zz_fu 0 s2) else (some (1, s2)))) else (some ((-3), q1.2)))))
set_option maxRecDepth 100000 in
set_option maxHeartbeats 4000000 in
theorem ze_m_stop (v1 : Int) (σ : zz_S) : m_stop v1 σ = zz_ev (zz_CE [(108, zw_m_in)]) (zz_KE [(34, [(0, 42, true), (2, 0, false)], fun vs σ => match vs with | [b0] => m_stop_34 zz_fu b0 σ | _ => none)]) zk_m_stop 0 false 0 1 400 true (zz_sk zk_m_stop 0) [(0, 42, 1), (1, 0, v1)] [] σ := rfl
noncomputable def zw_m_stop : List Int → zz_S → zz_R := fun vs σ => match vs with
  | [a0, a1] => if a0 = 1 then m_stop a1 σ else none
  | _ => none
def zk_m_go : List zz_E := [(0, false, .aload_n 0, 1, 0, (0, 0, 0, 0), 0, []),
  (1, false, .getfield 223, 3, 797, (40, 3, 0, 0), 1, []),
  (4, false, .ifCond .ne 6, 3, 0, (10, 0, 0, 0), 0, []),
  (7, false, .bipush (-3), 2, 0, (0, 0, 0, 0), 0, []),
  (9, false, .ireturn, 1, 0, (0, 0, 0, 0), 0, []),
  (10, false, .aload_n 0, 1, 0, (0, 0, 0, 0), 0, []),
  (11, false, .iconst 0, 1, 0, (0, 0, 0, 0), 0, []),
  (12, false, .putfield 223, 3, 797, (40, 3, 0, 0), 1, []),
  (15, false, .iconst 1, 1, 0, (0, 0, 0, 0), 0, []),
  (16, false, .ireturn, 1, 0, (0, 0, 0, 0), 0, [])]
noncomputable def m_go (σ : zz_S) : zz_R := (if (zz_h σ 40 1 3) = 0 then (some ((-3), σ)) else (let s1 := zz_w σ 40 1 3 0; (some (1, s1))))
set_option maxRecDepth 100000 in
set_option maxHeartbeats 4000000 in
theorem ze_m_go (σ : zz_S) : m_go σ = zz_ev (zz_CE []) (zz_KE []) zk_m_go 0 false 0 1 400 true (zz_sk zk_m_go 0) [(0, 42, 1)] [] σ := rfl
noncomputable def zw_m_go : List Int → zz_S → zz_R := fun vs σ => match vs with
  | [a0] => if a0 = 1 then m_go σ else none
  | _ => none
def zk_m_run : List zz_E := [(0, false, .iload_n 1, 1, 0, (0, 0, 0, 0), 0, []),
  (1, false, .iconst 0, 1, 0, (0, 0, 0, 0), 0, []),
  (2, false, .aload_n 0, 1, 0, (0, 0, 0, 0), 0, []),
  (3, false, .getfield 247, 3, 836, (40, 42, 0, 0), 0, []),
  (6, false, .iconst 1, 1, 0, (0, 0, 0, 0), 0, []),
  (7, false, .isub, 1, 0, (0, 0, 0, 0), 0, []),
  (8, false, .invokestatic 174, 3, 1021, (108, 3, 0, 0), 0, [0, 0, 0]),
  (11, false, .ifCond .ne 6, 3, 0, (17, 0, 0, 0), 0, []),
  (14, false, .bipush (-2), 2, 0, (0, 0, 0, 0), 0, []),
  (16, false, .ireturn, 1, 0, (0, 0, 0, 0), 0, []),
  (17, false, .iload_n 2, 1, 0, (0, 0, 0, 0), 0, []),
  (18, false, .tableswitch 102 0 7 #[46, 53, 60, 67, 74, 81, 88, 95], 46, 0, (120, 0, 0, 0), 0, [64, 71, 78, 85, 92, 99, 106, 113]),
  (64, false, .aload_n 0, 1, 0, (0, 0, 0, 0), 0, []),
  (65, false, .getfield 120, 3, 837, (40, 43, 77, 1), 0, []),
  (68, false, .iload_n 1, 1, 0, (0, 0, 0, 0), 0, []),
  (69, false, .iaload, 1, 0, (75, 0, 0, 0), 0, []),
  (70, false, .ireturn, 1, 0, (0, 0, 0, 0), 0, []),
  (71, false, .aload_n 0, 1, 0, (0, 0, 0, 0), 0, []),
  (72, false, .getfield 123, 3, 838, (40, 44, 78, 1), 0, []),
  (75, false, .iload_n 1, 1, 0, (0, 0, 0, 0), 0, []),
  (76, false, .iaload, 1, 0, (76, 0, 0, 0), 0, []),
  (77, false, .ireturn, 1, 0, (0, 0, 0, 0), 0, []),
  (78, false, .aload_n 0, 1, 0, (0, 0, 0, 0), 0, []),
  (79, false, .getfield 126, 3, 839, (40, 45, 79, 1), 0, []),
  (82, false, .iload_n 1, 1, 0, (0, 0, 0, 0), 0, []),
  (83, false, .iaload, 1, 0, (77, 0, 0, 0), 0, []),
  (84, false, .ireturn, 1, 0, (0, 0, 0, 0), 0, []),
  (85, false, .aload_n 0, 1, 0, (0, 0, 0, 0), 0, []),
  (86, false, .getfield 132, 3, 841, (40, 47, 81, 1), 0, []),
  (89, false, .iload_n 1, 1, 0, (0, 0, 0, 0), 0, []),
  (90, false, .iaload, 1, 0, (79, 0, 0, 0), 0, []),
  (91, false, .ireturn, 1, 0, (0, 0, 0, 0), 0, []),
  (92, false, .aload_n 0, 1, 0, (0, 0, 0, 0), 0, []),
  (93, false, .getfield 135, 3, 842, (40, 48, 82, 1), 0, []),
  (96, false, .iload_n 1, 1, 0, (0, 0, 0, 0), 0, []),
  (97, false, .iaload, 1, 0, (80, 0, 0, 0), 0, []),
  (98, false, .ireturn, 1, 0, (0, 0, 0, 0), 0, []),
  (99, false, .aload_n 0, 1, 0, (0, 0, 0, 0), 0, []),
  (100, false, .getfield 138, 3, 843, (40, 49, 83, 1), 0, []),
  (103, false, .iload_n 1, 1, 0, (0, 0, 0, 0), 0, []),
  (104, false, .iaload, 1, 0, (81, 0, 0, 0), 0, []),
  (105, false, .ireturn, 1, 0, (0, 0, 0, 0), 0, []),
  (106, false, .aload_n 0, 1, 0, (0, 0, 0, 0), 0, []),
  (107, false, .getfield 141, 3, 844, (40, 50, 84, 1), 0, []),
  (110, false, .iload_n 1, 1, 0, (0, 0, 0, 0), 0, []),
  (111, false, .iaload, 1, 0, (82, 0, 0, 0), 0, []),
  (112, false, .ireturn, 1, 0, (0, 0, 0, 0), 0, []),
  (113, false, .aload_n 0, 1, 0, (0, 0, 0, 0), 0, []),
  (114, false, .getfield 144, 3, 845, (40, 51, 85, 1), 0, []),
  (117, false, .iload_n 1, 1, 0, (0, 0, 0, 0), 0, []),
  (118, false, .iaload, 1, 0, (83, 0, 0, 0), 0, []),
  (119, false, .ireturn, 1, 0, (0, 0, 0, 0), 0, []),
  (120, false, .bipush (-2), 2, 0, (0, 0, 0, 0), 0, []),
  (122, false, .ireturn, 1, 0, (0, 0, 0, 0), 0, [])]
noncomputable def m_run (v1 v2 : Int) (σ : zz_S) : zz_R := ((m_in v1 0 (zz_r ((zz_h σ 40 1 42) - 1)) σ).bind fun q1 => (if q1.1 = 0 then (some ((-2), q1.2)) else (if v2 = 0 then (if zz_b q1.2 75 1 v1 then (some ((zz_h q1.2 75 1 v1), q1.2)) else none) else (if v2 = 1 then (if zz_b q1.2 76 1 v1 then (some ((zz_h q1.2 76 1 v1), q1.2)) else none) else (if v2 = 2 then (if zz_b q1.2 77 1 v1 then (some ((zz_h q1.2 77 1 v1), q1.2)) else none) else (if v2 = 3 then (if zz_b q1.2 79 1 v1 then (some ((zz_h q1.2 79 1 v1), q1.2)) else none) else (if v2 = 4 then (if zz_b q1.2 80 1 v1 then (some ((zz_h q1.2 80 1 v1), q1.2)) else none) else (if v2 = 5 then (if zz_b q1.2 81 1 v1 then (some ((zz_h q1.2 81 1 v1), q1.2)) else none) else (if v2 = 6 then (if zz_b q1.2 82 1 v1 then (some ((zz_h q1.2 82 1 v1), q1.2)) else none) else (if v2 = 7 then (if zz_b q1.2 83 1 v1 then (some ((zz_h q1.2 83 1 v1), q1.2)) else none) else (some ((-2), q1.2))))))))))))
set_option maxRecDepth 100000 in
set_option maxHeartbeats 4000000 in
theorem ze_m_run (v1 v2 : Int) (σ : zz_S) : m_run v1 v2 σ = zz_ev (zz_CE [(108, zw_m_in)]) (zz_KE []) zk_m_run 0 false 0 1 400 true (zz_sk zk_m_run 0) [(0, 42, 1), (1, 0, v1), (2, 0, v2)] [] σ := rfl
noncomputable def zw_m_run : List Int → zz_S → zz_R := fun vs σ => match vs with
  | [a0, a1, a2] => if a0 = 1 then m_run a1 a2 σ else none
  | _ => none
def zk_m_of : List zz_E := [(0, false, .aload_n 0, 1, 0, (0, 0, 0, 0), 0, []),
  (1, false, .iload_n 1, 1, 0, (0, 0, 0, 0), 0, []),
  (2, false, .invokevirtual 262, 3, 1017, (109, 2, 0, 0), 0, [0, 42]),
  (5, false, .ifCond .ne 6, 3, 0, (11, 0, 0, 0), 0, []),
  (8, false, .bipush (-2), 2, 0, (0, 0, 0, 0), 0, []),
  (10, false, .ireturn, 1, 0, (0, 0, 0, 0), 0, []),
  (11, false, .iload_n 2, 1, 0, (0, 0, 0, 0), 0, []),
  (12, false, .tableswitch 175 0 7 #[48, 110, 117, 124, 131, 137, 144, 168], 48, 0, (187, 0, 0, 0), 0, [60, 122, 129, 136, 143, 149, 156, 180]),
  (60, false, .aload_n 0, 1, 0, (0, 0, 0, 0), 0, []),
  (61, false, .getfield 62, 3, 816, (40, 22, 58, 1), 0, []),
  (64, false, .iload_n 1, 1, 0, (0, 0, 0, 0), 0, []),
  (65, false, .iaload, 1, 0, (56, 0, 0, 0), 0, []),
  (66, false, .ifCond .eq 10, 3, 0, (76, 0, 0, 0), 0, []),
  (69, false, .aload_n 0, 1, 0, (0, 0, 0, 0), 0, []),
  (70, false, .getfield 62, 3, 816, (40, 22, 58, 1), 0, []),
  (73, false, .iload_n 1, 1, 0, (0, 0, 0, 0), 0, []),
  (74, false, .iaload, 1, 0, (56, 0, 0, 0), 0, []),
  (75, false, .ireturn, 1, 0, (0, 0, 0, 0), 0, []),
  (76, false, .aload_n 0, 1, 0, (0, 0, 0, 0), 0, []),
  (77, false, .iload_n 1, 1, 0, (0, 0, 0, 0), 0, []),
  (78, false, .invokevirtual 235, 3, 1060, (112, 2, 0, 0), 0, [0, 42]),
  (81, false, .ifCond .eq 5, 3, 0, (86, 0, 0, 0), 0, []),
  (84, false, .iconst 1, 1, 0, (0, 0, 0, 0), 0, []),
  (85, false, .ireturn, 1, 0, (0, 0, 0, 0), 0, []),
  (86, false, .aload_n 0, 1, 0, (0, 0, 0, 0), 0, []),
  (87, false, .getfield 26, 3, 804, (40, 10, 46, 1), 0, []),
  (90, false, .iload_n 1, 1, 0, (0, 0, 0, 0), 0, []),
  (91, false, .iaload, 1, 0, (44, 0, 0, 0), 0, []),
  (92, false, .ifCond .ne 28, 3, 0, (120, 0, 0, 0), 0, []),
  (95, false, .aload_n 0, 1, 0, (0, 0, 0, 0), 0, []),
  (96, false, .getfield 29, 3, 805, (40, 11, 47, 1), 0, []),
  (99, false, .iload_n 1, 1, 0, (0, 0, 0, 0), 0, []),
  (100, false, .iaload, 1, 0, (45, 0, 0, 0), 0, []),
  (101, false, .aload_n 0, 1, 0, (0, 0, 0, 0), 0, []),
  (102, false, .getfield 250, 3, 794, (40, 0, 0, 0), 0, []),
  (105, false, .if_icmp .ge 15, 3, 0, (120, 0, 0, 0), 0, []),
  (108, false, .aload_n 0, 1, 0, (0, 0, 0, 0), 0, []),
  (109, false, .iload_n 1, 1, 0, (0, 0, 0, 0), 0, []),
  (110, false, .invokevirtual 296, 3, 1091, (114, 2, 0, 0), 0, [0, 42]),
  (113, false, .ifCond .ne 7, 3, 0, (120, 0, 0, 0), 0, []),
  (116, false, .iconst 2, 1, 0, (0, 0, 0, 0), 0, []),
  (117, false, .goto 4, 3, 0, (121, 0, 0, 0), 0, []),
  (120, false, .iconst 0, 1, 0, (0, 0, 0, 0), 0, []),
  (121, false, .ireturn, 1, 0, (0, 0, 0, 0), 0, []),
  (122, false, .aload_n 0, 1, 0, (0, 0, 0, 0), 0, []),
  (123, false, .getfield 26, 3, 804, (40, 10, 46, 1), 0, []),
  (126, false, .iload_n 1, 1, 0, (0, 0, 0, 0), 0, []),
  (127, false, .iaload, 1, 0, (44, 0, 0, 0), 0, []),
  (128, false, .ireturn, 1, 0, (0, 0, 0, 0), 0, []),
  (129, false, .aload_n 0, 1, 0, (0, 0, 0, 0), 0, []),
  (130, false, .getfield 77, 3, 821, (40, 27, 63, 1), 0, []),
  (133, false, .iload_n 1, 1, 0, (0, 0, 0, 0), 0, []),
  (134, false, .iaload, 1, 0, (61, 0, 0, 0), 0, []),
  (135, false, .ireturn, 1, 0, (0, 0, 0, 0), 0, []),
  (136, false, .aload_n 0, 1, 0, (0, 0, 0, 0), 0, []),
  (137, false, .getfield 68, 3, 818, (40, 24, 60, 1), 0, []),
  (140, false, .iload_n 1, 1, 0, (0, 0, 0, 0), 0, []),
  (141, false, .iaload, 1, 0, (58, 0, 0, 0), 0, []),
  (142, false, .ireturn, 1, 0, (0, 0, 0, 0), 0, []),
  (143, false, .aload_n 0, 1, 0, (0, 0, 0, 0), 0, []),
  (144, false, .iload_n 1, 1, 0, (0, 0, 0, 0), 0, []),
  (145, false, .invokevirtual 296, 3, 1091, (114, 2, 0, 0), 0, [0, 42]),
  (148, false, .ireturn, 1, 0, (0, 0, 0, 0), 0, []),
  (149, false, .aload_n 0, 1, 0, (0, 0, 0, 0), 0, []),
  (150, false, .getfield 71, 3, 819, (40, 25, 61, 1), 0, []),
  (153, false, .iload_n 1, 1, 0, (0, 0, 0, 0), 0, []),
  (154, false, .iaload, 1, 0, (59, 0, 0, 0), 0, []),
  (155, false, .ireturn, 1, 0, (0, 0, 0, 0), 0, []),
  (156, false, .aload_n 0, 1, 0, (0, 0, 0, 0), 0, []),
  (157, false, .getfield 74, 3, 820, (40, 26, 62, 1), 0, []),
  (160, false, .iload_n 1, 1, 0, (0, 0, 0, 0), 0, []),
  (161, false, .iaload, 1, 0, (60, 0, 0, 0), 0, []),
  (162, false, .aload_n 0, 1, 0, (0, 0, 0, 0), 0, []),
  (163, false, .getfield 250, 3, 794, (40, 0, 0, 0), 0, []),
  (166, false, .if_icmp .le 12, 3, 0, (178, 0, 0, 0), 0, []),
  (169, false, .aload_n 0, 1, 0, (0, 0, 0, 0), 0, []),
  (170, false, .getfield 74, 3, 820, (40, 26, 62, 1), 0, []),
  (173, false, .iload_n 1, 1, 0, (0, 0, 0, 0), 0, []),
  (174, false, .iaload, 1, 0, (60, 0, 0, 0), 0, []),
  (175, false, .goto 4, 3, 0, (179, 0, 0, 0), 0, []),
  (178, false, .iconst (-1), 1, 0, (0, 0, 0, 0), 0, []),
  (179, false, .ireturn, 1, 0, (0, 0, 0, 0), 0, []),
  (180, false, .aload_n 0, 1, 0, (0, 0, 0, 0), 0, []),
  (181, false, .getfield 53, 3, 813, (40, 19, 55, 1), 0, []),
  (184, false, .iload_n 1, 1, 0, (0, 0, 0, 0), 0, []),
  (185, false, .iaload, 1, 0, (53, 0, 0, 0), 0, []),
  (186, false, .ireturn, 1, 0, (0, 0, 0, 0), 0, []),
  (187, false, .bipush (-2), 2, 0, (0, 0, 0, 0), 0, []),
  (189, false, .ireturn, 1, 0, (0, 0, 0, 0), 0, [])]
noncomputable def m_of (v1 v2 : Int) (σ : zz_S) : zz_R := ((m_isTask v1 σ).bind fun q1 => (if q1.1 = 0 then (some ((-2), q1.2)) else (if v2 = 0 then (if zz_b q1.2 56 1 v1 then (if (zz_h q1.2 56 1 v1) = 0 then ((m_isRunning v1 q1.2).bind fun q3 => (if q3.1 = 0 then (if zz_b q3.2 44 1 v1 then (if (zz_h q3.2 44 1 v1) = 0 then (if zz_b q3.2 45 1 v1 then (if (zz_h q3.2 45 1 v1) < (zz_h q3.2 40 1 0) then ((m_duesOf v1 q3.2).bind fun q4 => (if q4.1 = 0 then (some (2, q4.2)) else (some (0, q4.2)))) else (some (0, q3.2))) else none) else (some (0, q3.2))) else none) else (some (1, q3.2)))) else (if zz_b q1.2 56 1 v1 then (some ((zz_h q1.2 56 1 v1), q1.2)) else none)) else none) else (if v2 = 1 then (if zz_b q1.2 44 1 v1 then (some ((zz_h q1.2 44 1 v1), q1.2)) else none) else (if v2 = 2 then (if zz_b q1.2 61 1 v1 then (some ((zz_h q1.2 61 1 v1), q1.2)) else none) else (if v2 = 3 then (if zz_b q1.2 58 1 v1 then (some ((zz_h q1.2 58 1 v1), q1.2)) else none) else (if v2 = 4 then ((m_duesOf v1 q1.2).bind fun q2 => (some (q2.1, q2.2))) else (if v2 = 5 then (if zz_b q1.2 59 1 v1 then (some ((zz_h q1.2 59 1 v1), q1.2)) else none) else (if v2 = 6 then (if zz_b q1.2 60 1 v1 then (if (zz_h q1.2 60 1 v1) ≤ (zz_h q1.2 40 1 0) then (some ((-1), q1.2)) else (if zz_b q1.2 60 1 v1 then (some ((zz_h q1.2 60 1 v1), q1.2)) else none)) else none) else (if v2 = 7 then (if zz_b q1.2 53 1 v1 then (some ((zz_h q1.2 53 1 v1), q1.2)) else none) else (some ((-2), q1.2))))))))))))
set_option maxRecDepth 100000 in
set_option maxHeartbeats 4000000 in
theorem ze_m_of (v1 v2 : Int) (σ : zz_S) : m_of v1 v2 σ = zz_ev (zz_CE [(109, zw_m_isTask), (112, zw_m_isRunning), (114, zw_m_duesOf)]) (zz_KE []) zk_m_of 0 false 0 1 400 true (zz_sk zk_m_of 0) [(0, 42, 1), (1, 0, v1), (2, 0, v2)] [] σ := rfl
noncomputable def zw_m_of : List Int → zz_S → zz_R := fun vs σ => match vs with
  | [a0, a1, a2] => if a0 = 1 then m_of a1 a2 σ else none
  | _ => none
def zk_m_next : List zz_E := [(0, false, .aload_n 0, 1, 0, (0, 0, 0, 0), 0, []),
  (1, false, .iload_n 1, 1, 0, (0, 0, 0, 0), 0, []),
  (2, false, .invokevirtual 262, 3, 1017, (109, 2, 0, 0), 0, [0, 42]),
  (5, false, .ifCond .eq 13, 3, 0, (18, 0, 0, 0), 0, []),
  (8, false, .iload_n 2, 1, 0, (0, 0, 0, 0), 0, []),
  (9, false, .iconst 0, 1, 0, (0, 0, 0, 0), 0, []),
  (10, false, .bipush 9, 2, 0, (0, 0, 0, 0), 0, []),
  (12, false, .invokestatic 174, 3, 1021, (108, 3, 0, 0), 0, [0, 0, 0]),
  (15, false, .ifCond .ne 6, 3, 0, (21, 0, 0, 0), 0, []),
  (18, false, .bipush (-2), 2, 0, (0, 0, 0, 0), 0, []),
  (20, false, .ireturn, 1, 0, (0, 0, 0, 0), 0, []),
  (21, false, .aload_n 0, 1, 0, (0, 0, 0, 0), 0, []),
  (22, false, .getfield 26, 3, 804, (40, 10, 46, 1), 0, []),
  (25, false, .iload_n 1, 1, 0, (0, 0, 0, 0), 0, []),
  (26, false, .iaload, 1, 0, (44, 0, 0, 0), 0, []),
  (27, false, .iconst 2, 1, 0, (0, 0, 0, 0), 0, []),
  (28, false, .if_icmp .ne 21, 3, 0, (49, 0, 0, 0), 0, []),
  (31, false, .iload_n 2, 1, 0, (0, 0, 0, 0), 0, []),
  (32, false, .ifCond .ne 15, 3, 0, (47, 0, 0, 0), 0, []),
  (35, false, .aload_n 0, 1, 0, (0, 0, 0, 0), 0, []),
  (36, false, .iload_n 1, 1, 0, (0, 0, 0, 0), 0, []),
  (37, false, .aload_n 0, 1, 0, (0, 0, 0, 0), 0, []),
  (38, false, .getfield 250, 3, 794, (40, 0, 0, 0), 0, []),
  (41, false, .invokevirtual 329, 3, 1191, (121, 3, 0, 0), 0, [0, 0, 42]),
  (44, false, .goto 4, 3, 0, (48, 0, 0, 0), 0, []),
  (47, false, .iconst (-1), 1, 0, (0, 0, 0, 0), 0, []),
  (48, false, .ireturn, 1, 0, (0, 0, 0, 0), 0, []),
  (49, false, .aload_n 0, 1, 0, (0, 0, 0, 0), 0, []),
  (50, false, .getfield 250, 3, 794, (40, 0, 0, 0), 0, []),
  (53, false, .iconst 1, 1, 0, (0, 0, 0, 0), 0, []),
  (54, false, .isub, 1, 0, (0, 0, 0, 0), 0, []),
  (55, false, .istore_n 3, 1, 0, (0, 0, 0, 0), 0, []),
  (56, false, .iconst 0, 1, 0, (0, 0, 0, 0), 0, []),
  (57, false, .istore 4, 2, 0, (0, 0, 0, 0), 0, []),
  (59, true, .iload 4, 2, 0, (0, 0, 0, 0), 0, []),
  (61, false, .iload_n 2, 1, 0, (0, 0, 0, 0), 0, []),
  (62, false, .if_icmp .gt 25, 3, 0, (87, 0, 0, 0), 0, []),
  (65, false, .aload_n 0, 1, 0, (0, 0, 0, 0), 0, []),
  (66, false, .iload_n 1, 1, 0, (0, 0, 0, 0), 0, []),
  (67, false, .iload_n 3, 1, 0, (0, 0, 0, 0), 0, []),
  (68, false, .iconst 1, 1, 0, (0, 0, 0, 0), 0, []),
  (69, false, .iadd, 1, 0, (0, 0, 0, 0), 0, []),
  (70, false, .invokevirtual 329, 3, 1191, (121, 3, 0, 0), 0, [0, 0, 42]),
  (73, false, .istore_n 3, 1, 0, (0, 0, 0, 0), 0, []),
  (74, false, .iload_n 3, 1, 0, (0, 0, 0, 0), 0, []),
  (75, false, .iconst (-1), 1, 0, (0, 0, 0, 0), 0, []),
  (76, false, .if_icmp .ne 5, 3, 0, (81, 0, 0, 0), 0, []),
  (79, false, .iconst (-1), 1, 0, (0, 0, 0, 0), 0, []),
  (80, false, .ireturn, 1, 0, (0, 0, 0, 0), 0, []),
  (81, false, .iinc 4 1, 3, 0, (0, 0, 0, 0), 0, []),
  (84, false, .goto (-25), 3, 0, (59, 0, 0, 0), 0, []),
  (87, false, .iload_n 3, 1, 0, (0, 0, 0, 0), 0, []),
  (88, false, .ireturn, 1, 0, (0, 0, 0, 0), 0, [])]
noncomputable def m_next_59 : Nat → Int → Int → Int → Int → zz_S → zz_R
  | 0, _, _, _, _, _ => none
  | n + 1, v1, v2, v3, v4, σ => (if v4 ≤ v2 then ((m_dueFrom v1 (zz_r (v3 + 1)) σ).bind fun q1 => (if q1.1 = (-1) then (some ((-1), q1.2)) else (m_next_59 n v1 v2 q1.1 (zz_r (v4 + 1)) q1.2))) else (some (v3, σ)))
set_option maxRecDepth 100000 in
set_option maxHeartbeats 4000000 in
theorem ze_m_next_59 (n : Nat) (v1 v2 v3 v4 : Int) (σ : zz_S) : m_next_59 (n + 1) v1 v2 v3 v4 σ = zz_ev (zz_CE [(121, zw_m_dueFrom)]) (zz_KE [(59, [(0, 42, true), (1, 0, false), (2, 0, false), (3, 0, false), (4, 0, false)], fun vs σ => match vs with | [b0, b1, b2, b3] => m_next_59 n b0 b1 b2 b3 σ | _ => none)]) zk_m_next 0 false 0 1 400 true (zz_sk zk_m_next 59) [(0, 42, 1), (1, 0, v1), (2, 0, v2), (3, 0, v3), (4, 0, v4)] [] σ := rfl
noncomputable def m_next (v1 v2 : Int) (σ : zz_S) : zz_R := ((m_isTask v1 σ).bind fun q1 => (if q1.1 = 0 then (some ((-2), q1.2)) else ((m_in v2 0 9 q1.2).bind fun q2 => (if q2.1 = 0 then (some ((-2), q2.2)) else (if zz_b q2.2 44 1 v1 then (if (zz_h q2.2 44 1 v1) = 2 then (if v2 = 0 then ((m_dueFrom v1 (zz_h q2.2 40 1 0) q2.2).bind fun q3 => (some (q3.1, q3.2))) else (some ((-1), q2.2))) else (m_next_59 zz_fu v1 v2 (zz_r ((zz_h q2.2 40 1 0) - 1)) 0 q2.2)) else none)))))
set_option maxRecDepth 100000 in
set_option maxHeartbeats 4000000 in
theorem ze_m_next (v1 v2 : Int) (σ : zz_S) : m_next v1 v2 σ = zz_ev (zz_CE [(108, zw_m_in), (109, zw_m_isTask), (121, zw_m_dueFrom)]) (zz_KE [(59, [(0, 42, true), (1, 0, false), (2, 0, false), (3, 0, false), (4, 0, false)], fun vs σ => match vs with | [b0, b1, b2, b3] => m_next_59 zz_fu b0 b1 b2 b3 σ | _ => none)]) zk_m_next 0 false 0 1 400 true (zz_sk zk_m_next 0) [(0, 42, 1), (1, 0, v1), (2, 0, v2)] [] σ := rfl
noncomputable def zw_m_next : List Int → zz_S → zz_R := fun vs σ => match vs with
  | [a0, a1, a2] => if a0 = 1 then m_next a1 a2 σ else none
  | _ => none
def zk_m_waiting : List zz_E := [(0, false, .iload_n 2, 1, 0, (0, 0, 0, 0), 0, []),
  (1, false, .iconst 0, 1, 0, (0, 0, 0, 0), 0, []),
  (2, false, .iconst 2, 1, 0, (0, 0, 0, 0), 0, []),
  (3, false, .invokestatic 174, 3, 1021, (108, 3, 0, 0), 0, [0, 0, 0]),
  (6, false, .ifCond .ne 6, 3, 0, (12, 0, 0, 0), 0, []),
  (9, false, .bipush (-2), 2, 0, (0, 0, 0, 0), 0, []),
  (11, false, .ireturn, 1, 0, (0, 0, 0, 0), 0, []),
  (12, false, .iload_n 1, 1, 0, (0, 0, 0, 0), 0, []),
  (13, false, .iconst 0, 1, 0, (0, 0, 0, 0), 0, []),
  (14, false, .aload_n 0, 1, 0, (0, 0, 0, 0), 0, []),
  (15, false, .getfield 178, 3, 847, (40, 53, 0, 0), 0, []),
  (18, false, .iconst 1, 1, 0, (0, 0, 0, 0), 0, []),
  (19, false, .isub, 1, 0, (0, 0, 0, 0), 0, []),
  (20, false, .invokestatic 174, 3, 1021, (108, 3, 0, 0), 0, [0, 0, 0]),
  (23, false, .ifCond .ne 5, 3, 0, (28, 0, 0, 0), 0, []),
  (26, false, .iconst (-1), 1, 0, (0, 0, 0, 0), 0, []),
  (27, false, .ireturn, 1, 0, (0, 0, 0, 0), 0, []),
  (28, false, .iload_n 2, 1, 0, (0, 0, 0, 0), 0, []),
  (29, false, .ifCond .ne 12, 3, 0, (41, 0, 0, 0), 0, []),
  (32, false, .aload_n 0, 1, 0, (0, 0, 0, 0), 0, []),
  (33, false, .getfield 150, 3, 848, (40, 54, 87, 1), 0, []),
  (36, false, .iload_n 1, 1, 0, (0, 0, 0, 0), 0, []),
  (37, false, .iaload, 1, 0, (85, 0, 0, 0), 0, []),
  (38, false, .goto 31, 3, 0, (69, 0, 0, 0), 0, []),
  (41, false, .iload_n 2, 1, 0, (0, 0, 0, 0), 0, []),
  (42, false, .iconst 1, 1, 0, (0, 0, 0, 0), 0, []),
  (43, false, .if_icmp .ne 12, 3, 0, (55, 0, 0, 0), 0, []),
  (46, false, .aload_n 0, 1, 0, (0, 0, 0, 0), 0, []),
  (47, false, .getfield 153, 3, 849, (40, 55, 88, 1), 0, []),
  (50, false, .iload_n 1, 1, 0, (0, 0, 0, 0), 0, []),
  (51, false, .iaload, 1, 0, (86, 0, 0, 0), 0, []),
  (52, false, .goto 17, 3, 0, (69, 0, 0, 0), 0, []),
  (55, false, .aload_n 0, 1, 0, (0, 0, 0, 0), 0, []),
  (56, false, .getfield 156, 3, 850, (40, 56, 89, 1), 0, []),
  (59, false, .iload_n 1, 1, 0, (0, 0, 0, 0), 0, []),
  (60, false, .baload, 1, 0, (87, 0, 0, 0), 0, []),
  (61, false, .ifCond .eq 7, 3, 0, (68, 0, 0, 0), 0, []),
  (64, false, .iconst 1, 1, 0, (0, 0, 0, 0), 0, []),
  (65, false, .goto 4, 3, 0, (69, 0, 0, 0), 0, []),
  (68, false, .iconst 0, 1, 0, (0, 0, 0, 0), 0, []),
  (69, false, .ireturn, 1, 0, (0, 0, 0, 0), 0, [])]
noncomputable def m_waiting (v1 v2 : Int) (σ : zz_S) : zz_R := ((m_in v2 0 2 σ).bind fun q1 => (if q1.1 = 0 then (some ((-2), q1.2)) else ((m_in v1 0 (zz_r ((zz_h q1.2 40 1 53) - 1)) q1.2).bind fun q2 => (if q2.1 = 0 then (some ((-1), q2.2)) else (if v2 = 0 then (if zz_b q2.2 85 1 v1 then (some ((zz_h q2.2 85 1 v1), q2.2)) else none) else (if v2 = 1 then (if zz_b q2.2 86 1 v1 then (some ((zz_h q2.2 86 1 v1), q2.2)) else none) else (if zz_b q2.2 87 1 v1 then (if (zz_h q2.2 87 1 v1) = 0 then (some (0, q2.2)) else (some (1, q2.2))) else none)))))))
set_option maxRecDepth 100000 in
set_option maxHeartbeats 4000000 in
theorem ze_m_waiting (v1 v2 : Int) (σ : zz_S) : m_waiting v1 v2 σ = zz_ev (zz_CE [(108, zw_m_in)]) (zz_KE []) zk_m_waiting 0 false 0 1 400 true (zz_sk zk_m_waiting 0) [(0, 42, 1), (1, 0, v1), (2, 0, v2)] [] σ := rfl
noncomputable def zw_m_waiting : List Int → zz_S → zz_R := fun vs σ => match vs with
  | [a0, a1, a2] => if a0 = 1 then m_waiting a1 a2 σ else none
  | _ => none
def zk_m_book : List zz_E := [(0, false, .iload_n 2, 1, 0, (0, 0, 0, 0), 0, []),
  (1, false, .iconst 0, 1, 0, (0, 0, 0, 0), 0, []),
  (2, false, .iconst 2, 1, 0, (0, 0, 0, 0), 0, []),
  (3, false, .invokestatic 174, 3, 1021, (108, 3, 0, 0), 0, [0, 0, 0]),
  (6, false, .ifCond .ne 6, 3, 0, (12, 0, 0, 0), 0, []),
  (9, false, .bipush (-2), 2, 0, (0, 0, 0, 0), 0, []),
  (11, false, .ireturn, 1, 0, (0, 0, 0, 0), 0, []),
  (12, false, .iload_n 1, 1, 0, (0, 0, 0, 0), 0, []),
  (13, false, .iconst 0, 1, 0, (0, 0, 0, 0), 0, []),
  (14, false, .aload_n 0, 1, 0, (0, 0, 0, 0), 0, []),
  (15, false, .getfield 220, 3, 851, (40, 57, 0, 0), 0, []),
  (18, false, .iconst 1, 1, 0, (0, 0, 0, 0), 0, []),
  (19, false, .isub, 1, 0, (0, 0, 0, 0), 0, []),
  (20, false, .invokestatic 174, 3, 1021, (108, 3, 0, 0), 0, [0, 0, 0]),
  (23, false, .ifCond .eq 10, 3, 0, (33, 0, 0, 0), 0, []),
  (26, false, .iload_n 1, 1, 0, (0, 0, 0, 0), 0, []),
  (27, false, .sipush 300, 3, 0, (0, 0, 0, 0), 0, []),
  (30, false, .if_icmp .lt 5, 3, 0, (35, 0, 0, 0), 0, []),
  (33, false, .iconst (-1), 1, 0, (0, 0, 0, 0), 0, []),
  (34, false, .ireturn, 1, 0, (0, 0, 0, 0), 0, []),
  (35, false, .iload_n 2, 1, 0, (0, 0, 0, 0), 0, []),
  (36, false, .ifCond .ne 12, 3, 0, (48, 0, 0, 0), 0, []),
  (39, false, .aload_n 0, 1, 0, (0, 0, 0, 0), 0, []),
  (40, false, .getfield 159, 3, 852, (40, 58, 90, 1), 0, []),
  (43, false, .iload_n 1, 1, 0, (0, 0, 0, 0), 0, []),
  (44, false, .iaload, 1, 0, (88, 0, 0, 0), 0, []),
  (45, false, .goto 23, 3, 0, (68, 0, 0, 0), 0, []),
  (48, false, .iload_n 2, 1, 0, (0, 0, 0, 0), 0, []),
  (49, false, .iconst 1, 1, 0, (0, 0, 0, 0), 0, []),
  (50, false, .if_icmp .ne 12, 3, 0, (62, 0, 0, 0), 0, []),
  (53, false, .aload_n 0, 1, 0, (0, 0, 0, 0), 0, []),
  (54, false, .getfield 162, 3, 853, (40, 59, 91, 1), 0, []),
  (57, false, .iload_n 1, 1, 0, (0, 0, 0, 0), 0, []),
  (58, false, .iaload, 1, 0, (89, 0, 0, 0), 0, []),
  (59, false, .goto 9, 3, 0, (68, 0, 0, 0), 0, []),
  (62, false, .aload_n 0, 1, 0, (0, 0, 0, 0), 0, []),
  (63, false, .getfield 165, 3, 854, (40, 60, 92, 1), 0, []),
  (66, false, .iload_n 1, 1, 0, (0, 0, 0, 0), 0, []),
  (67, false, .iaload, 1, 0, (90, 0, 0, 0), 0, []),
  (68, false, .ireturn, 1, 0, (0, 0, 0, 0), 0, [])]
noncomputable def m_book (v1 v2 : Int) (σ : zz_S) : zz_R := ((m_in v2 0 2 σ).bind fun q1 => (if q1.1 = 0 then (some ((-2), q1.2)) else ((m_in v1 0 (zz_r ((zz_h q1.2 40 1 57) - 1)) q1.2).bind fun q2 => (if q2.1 = 0 then (some ((-1), q2.2)) else (if v1 < 300 then (if v2 = 0 then (if zz_b q2.2 88 1 v1 then (some ((zz_h q2.2 88 1 v1), q2.2)) else none) else (if v2 = 1 then (if zz_b q2.2 89 1 v1 then (some ((zz_h q2.2 89 1 v1), q2.2)) else none) else (if zz_b q2.2 90 1 v1 then (some ((zz_h q2.2 90 1 v1), q2.2)) else none))) else (some ((-1), q2.2)))))))
set_option maxRecDepth 100000 in
set_option maxHeartbeats 4000000 in
theorem ze_m_book (v1 v2 : Int) (σ : zz_S) : m_book v1 v2 σ = zz_ev (zz_CE [(108, zw_m_in)]) (zz_KE []) zk_m_book 0 false 0 1 400 true (zz_sk zk_m_book 0) [(0, 42, 1), (1, 0, v1), (2, 0, v2)] [] σ := rfl
noncomputable def zw_m_book : List Int → zz_S → zz_R := fun vs σ => match vs with
  | [a0, a1, a2] => if a0 = 1 then m_book a1 a2 σ else none
  | _ => none
def zk_m_count : List zz_E := [(0, false, .iload_n 1, 1, 0, (0, 0, 0, 0), 0, []),
  (1, false, .tableswitch 122 0 10 #[59, 64, 69, 74, 79, 84, 89, 94, 99, 104, 109], 59, 0, (123, 0, 0, 0), 0, [60, 65, 70, 75, 80, 85, 90, 95, 100, 105, 110]),
  (60, false, .aload_n 0, 1, 0, (0, 0, 0, 0), 0, []),
  (61, false, .getfield 171, 3, 803, (40, 9, 0, 0), 0, []),
  (64, false, .ireturn, 1, 0, (0, 0, 0, 0), 0, []),
  (65, false, .aload_n 0, 1, 0, (0, 0, 0, 0), 0, []),
  (66, false, .getfield 247, 3, 836, (40, 42, 0, 0), 0, []),
  (69, false, .ireturn, 1, 0, (0, 0, 0, 0), 0, []),
  (70, false, .aload_n 0, 1, 0, (0, 0, 0, 0), 0, []),
  (71, false, .getfield 178, 3, 847, (40, 53, 0, 0), 0, []),
  (74, false, .ireturn, 1, 0, (0, 0, 0, 0), 0, []),
  (75, false, .aload_n 0, 1, 0, (0, 0, 0, 0), 0, []),
  (76, false, .invokevirtual 302, 3, 1099, (111, 1, 0, 0), 0, [42]),
  (79, false, .ireturn, 1, 0, (0, 0, 0, 0), 0, []),
  (80, false, .aload_n 0, 1, 0, (0, 0, 0, 0), 0, []),
  (81, false, .getfield 250, 3, 794, (40, 0, 0, 0), 0, []),
  (84, false, .ireturn, 1, 0, (0, 0, 0, 0), 0, []),
  (85, false, .aload_n 0, 1, 0, (0, 0, 0, 0), 0, []),
  (86, false, .getfield 214, 3, 795, (40, 1, 0, 0), 0, []),
  (89, false, .ireturn, 1, 0, (0, 0, 0, 0), 0, []),
  (90, false, .aload_n 0, 1, 0, (0, 0, 0, 0), 0, []),
  (91, false, .getfield 220, 3, 851, (40, 57, 0, 0), 0, []),
  (94, false, .ireturn, 1, 0, (0, 0, 0, 0), 0, []),
  (95, false, .aload_n 0, 1, 0, (0, 0, 0, 0), 0, []),
  (96, false, .getfield 315, 3, 801, (40, 7, 0, 0), 0, []),
  (99, false, .ireturn, 1, 0, (0, 0, 0, 0), 0, []),
  (100, false, .aload_n 0, 1, 0, (0, 0, 0, 0), 0, []),
  (101, false, .getfield 13, 3, 798, (40, 4, 0, 0), 0, []),
  (104, false, .ireturn, 1, 0, (0, 0, 0, 0), 0, []),
  (105, false, .aload_n 0, 1, 0, (0, 0, 0, 0), 0, []),
  (106, false, .getfield 7, 3, 796, (40, 2, 0, 0), 0, []),
  (109, false, .ireturn, 1, 0, (0, 0, 0, 0), 0, []),
  (110, false, .aload_n 0, 1, 0, (0, 0, 0, 0), 0, []),
  (111, false, .getfield 223, 3, 797, (40, 3, 0, 0), 1, []),
  (114, false, .ifCond .eq 7, 3, 0, (121, 0, 0, 0), 0, []),
  (117, false, .iconst 1, 1, 0, (0, 0, 0, 0), 0, []),
  (118, false, .goto 4, 3, 0, (122, 0, 0, 0), 0, []),
  (121, false, .iconst 0, 1, 0, (0, 0, 0, 0), 0, []),
  (122, false, .ireturn, 1, 0, (0, 0, 0, 0), 0, []),
  (123, false, .bipush (-2), 2, 0, (0, 0, 0, 0), 0, []),
  (125, false, .ireturn, 1, 0, (0, 0, 0, 0), 0, [])]
noncomputable def m_count (v1 : Int) (σ : zz_S) : zz_R := (if v1 = 0 then (some ((zz_h σ 40 1 9), σ)) else (if v1 = 1 then (some ((zz_h σ 40 1 42), σ)) else (if v1 = 2 then (some ((zz_h σ 40 1 53), σ)) else (if v1 = 3 then ((m_atWork σ).bind fun q1 => (some (q1.1, q1.2))) else (if v1 = 4 then (some ((zz_h σ 40 1 0), σ)) else (if v1 = 5 then (some ((zz_h σ 40 1 1), σ)) else (if v1 = 6 then (some ((zz_h σ 40 1 57), σ)) else (if v1 = 7 then (some ((zz_h σ 40 1 7), σ)) else (if v1 = 8 then (some ((zz_h σ 40 1 4), σ)) else (if v1 = 9 then (some ((zz_h σ 40 1 2), σ)) else (if v1 = 10 then (if (zz_h σ 40 1 3) = 0 then (some (0, σ)) else (some (1, σ))) else (some ((-2), σ)))))))))))))
set_option maxRecDepth 100000 in
set_option maxHeartbeats 4000000 in
theorem ze_m_count (v1 : Int) (σ : zz_S) : m_count v1 σ = zz_ev (zz_CE [(111, zw_m_atWork)]) (zz_KE []) zk_m_count 0 false 0 1 400 true (zz_sk zk_m_count 0) [(0, 42, 1), (1, 0, v1)] [] σ := rfl
noncomputable def zw_m_count : List Int → zz_S → zz_R := fun vs σ => match vs with
  | [a0, a1] => if a0 = 1 then m_count a1 σ else none
  | _ => none
def zk_m_cell : List zz_E := [(0, false, .iload_n 1, 1, 0, (0, 0, 0, 0), 0, []),
  (1, false, .iconst 0, 1, 0, (0, 0, 0, 0), 0, []),
  (2, false, .bipush 7, 2, 0, (0, 0, 0, 0), 0, []),
  (4, false, .invokestatic 174, 3, 1021, (108, 3, 0, 0), 0, [0, 0, 0]),
  (7, false, .ifCond .eq 12, 3, 0, (19, 0, 0, 0), 0, []),
  (10, false, .aload_n 0, 1, 0, (0, 0, 0, 0), 0, []),
  (11, false, .getfield 117, 3, 835, (40, 41, 76, 1), 0, []),
  (14, false, .iload_n 1, 1, 0, (0, 0, 0, 0), 0, []),
  (15, false, .iaload, 1, 0, (74, 0, 0, 0), 0, []),
  (16, false, .goto 4, 3, 0, (20, 0, 0, 0), 0, []),
  (19, false, .iconst 0, 1, 0, (0, 0, 0, 0), 0, []),
  (20, false, .ireturn, 1, 0, (0, 0, 0, 0), 0, [])]
noncomputable def m_cell (v1 : Int) (σ : zz_S) : zz_R := ((m_in v1 0 7 σ).bind fun q1 => (if q1.1 = 0 then (some (0, q1.2)) else (if zz_b q1.2 74 1 v1 then (some ((zz_h q1.2 74 1 v1), q1.2)) else none)))
set_option maxRecDepth 100000 in
set_option maxHeartbeats 4000000 in
theorem ze_m_cell (v1 : Int) (σ : zz_S) : m_cell v1 σ = zz_ev (zz_CE [(108, zw_m_in)]) (zz_KE []) zk_m_cell 0 false 0 1 400 true (zz_sk zk_m_cell 0) [(0, 42, 1), (1, 0, v1)] [] σ := rfl
noncomputable def zw_m_cell : List Int → zz_S → zz_R := fun vs σ => match vs with
  | [a0, a1] => if a0 = 1 then m_cell a1 σ else none
  | _ => none
def zk_m_day : List zz_E := [(0, false, .iload_n 1, 1, 0, (0, 0, 0, 0), 0, []),
  (1, false, .iconst 0, 1, 0, (0, 0, 0, 0), 0, []),
  (2, false, .ldc_w 332, 3, 1223, (0, 0, 0, 0), 525599, []),
  (5, false, .invokestatic 174, 3, 1021, (108, 3, 0, 0), 0, [0, 0, 0]),
  (8, false, .ifCond .eq 12, 3, 0, (20, 0, 0, 0), 0, []),
  (11, false, .iload_n 2, 1, 0, (0, 0, 0, 0), 0, []),
  (12, false, .iconst 0, 1, 0, (0, 0, 0, 0), 0, []),
  (13, false, .iconst 4, 1, 0, (0, 0, 0, 0), 0, []),
  (14, false, .invokestatic 174, 3, 1021, (108, 3, 0, 0), 0, [0, 0, 0]),
  (17, false, .ifCond .ne 6, 3, 0, (23, 0, 0, 0), 0, []),
  (20, false, .bipush (-2), 2, 0, (0, 0, 0, 0), 0, []),
  (22, false, .ireturn, 1, 0, (0, 0, 0, 0), 0, []),
  (23, false, .aload_n 0, 1, 0, (0, 0, 0, 0), 0, []),
  (24, false, .iload_n 1, 1, 0, (0, 0, 0, 0), 0, []),
  (25, false, .sipush 1440, 3, 0, (0, 0, 0, 0), 0, []),
  (28, false, .idiv, 1, 0, (0, 0, 0, 0), 0, []),
  (29, false, .invokevirtual 201, 3, 1076, (116, 2, 999, 0), 0, [0, 42]),
  (32, false, .iload_n 2, 1, 0, (0, 0, 0, 0), 0, []),
  (33, false, .ifCond .ne 10, 3, 0, (43, 0, 0, 0), 0, []),
  (36, false, .aload_n 0, 1, 0, (0, 0, 0, 0), 0, []),
  (37, false, .getfield 181, 3, 856, (40, 62, 0, 0), 0, []),
  (40, false, .goto 47, 3, 0, (87, 0, 0, 0), 0, []),
  (43, false, .iload_n 2, 1, 0, (0, 0, 0, 0), 0, []),
  (44, false, .iconst 1, 1, 0, (0, 0, 0, 0), 0, []),
  (45, false, .if_icmp .ne 10, 3, 0, (55, 0, 0, 0), 0, []),
  (48, false, .aload_n 0, 1, 0, (0, 0, 0, 0), 0, []),
  (49, false, .getfield 188, 3, 857, (40, 63, 0, 0), 0, []),
  (52, false, .goto 35, 3, 0, (87, 0, 0, 0), 0, []),
  (55, false, .iload_n 2, 1, 0, (0, 0, 0, 0), 0, []),
  (56, false, .iconst 2, 1, 0, (0, 0, 0, 0), 0, []),
  (57, false, .if_icmp .ne 14, 3, 0, (71, 0, 0, 0), 0, []),
  (60, false, .iload_n 1, 1, 0, (0, 0, 0, 0), 0, []),
  (61, false, .sipush 1440, 3, 0, (0, 0, 0, 0), 0, []),
  (64, false, .irem, 1, 0, (0, 0, 0, 0), 0, []),
  (65, false, .bipush 60, 2, 0, (0, 0, 0, 0), 0, []),
  (67, false, .idiv, 1, 0, (0, 0, 0, 0), 0, []),
  (68, false, .goto 19, 3, 0, (87, 0, 0, 0), 0, []),
  (71, false, .iload_n 2, 1, 0, (0, 0, 0, 0), 0, []),
  (72, false, .iconst 3, 1, 0, (0, 0, 0, 0), 0, []),
  (73, false, .if_icmp .ne 10, 3, 0, (83, 0, 0, 0), 0, []),
  (76, false, .iload_n 1, 1, 0, (0, 0, 0, 0), 0, []),
  (77, false, .bipush 60, 2, 0, (0, 0, 0, 0), 0, []),
  (79, false, .irem, 1, 0, (0, 0, 0, 0), 0, []),
  (80, false, .goto 7, 3, 0, (87, 0, 0, 0), 0, []),
  (83, false, .aload_n 0, 1, 0, (0, 0, 0, 0), 0, []),
  (84, false, .getfield 194, 3, 858, (40, 64, 0, 0), 0, []),
  (87, false, .ireturn, 1, 0, (0, 0, 0, 0), 0, [])]
noncomputable def m_day (v1 v2 : Int) (σ : zz_S) : zz_R := ((m_in v1 0 525599 σ).bind fun q1 => (if q1.1 = 0 then (some ((-2), q1.2)) else ((m_in v2 0 4 q1.2).bind fun q2 => (if q2.1 = 0 then (some ((-2), q2.2)) else ((m_look (zz_div v1 1440) q2.2).bind fun q3 => (if v2 = 0 then (some ((zz_h q3.2 40 1 62), q3.2)) else (if v2 = 1 then (some ((zz_h q3.2 40 1 63), q3.2)) else (if v2 = 2 then (some ((zz_div (zz_rem v1 1440) 60), q3.2)) else (if v2 = 3 then (some ((zz_rem v1 60), q3.2)) else (some ((zz_h q3.2 40 1 64), q3.2)))))))))))
set_option maxRecDepth 100000 in
set_option maxHeartbeats 4000000 in
theorem ze_m_day (v1 v2 : Int) (σ : zz_S) : m_day v1 v2 σ = zz_ev (zz_CE [(108, zw_m_in), (116, zw_m_look)]) (zz_KE []) zk_m_day 0 false 0 1 400 true (zz_sk zk_m_day 0) [(0, 42, 1), (1, 0, v1), (2, 0, v2)] [] σ := rfl
noncomputable def zw_m_day : List Int → zz_S → zz_R := fun vs σ => match vs with
  | [a0, a1, a2] => if a0 = 1 then m_day a1 a2 σ else none
  | _ => none
def zk_m_idle : List zz_E := [(0, false, .iload_n 1, 1, 0, (0, 0, 0, 0), 0, []),
  (1, false, .iconst 0, 1, 0, (0, 0, 0, 0), 0, []),
  (2, false, .aload_n 0, 1, 0, (0, 0, 0, 0), 0, []),
  (3, false, .getfield 13, 3, 798, (40, 4, 0, 0), 0, []),
  (6, false, .iconst 1, 1, 0, (0, 0, 0, 0), 0, []),
  (7, false, .isub, 1, 0, (0, 0, 0, 0), 0, []),
  (8, false, .invokestatic 174, 3, 1021, (108, 3, 0, 0), 0, [0, 0, 0]),
  (11, false, .ifCond .eq 12, 3, 0, (23, 0, 0, 0), 0, []),
  (14, false, .aload_n 0, 1, 0, (0, 0, 0, 0), 0, []),
  (15, false, .getfield 20, 3, 800, (40, 6, 44, 1), 0, []),
  (18, false, .iload_n 1, 1, 0, (0, 0, 0, 0), 0, []),
  (19, false, .iaload, 1, 0, (42, 0, 0, 0), 0, []),
  (20, false, .goto 5, 3, 0, (25, 0, 0, 0), 0, []),
  (23, false, .bipush (-2), 2, 0, (0, 0, 0, 0), 0, []),
  (25, false, .ireturn, 1, 0, (0, 0, 0, 0), 0, [])]
noncomputable def m_idle (v1 : Int) (σ : zz_S) : zz_R := ((m_in v1 0 (zz_r ((zz_h σ 40 1 4) - 1)) σ).bind fun q1 => (if q1.1 = 0 then (some ((-2), q1.2)) else (if zz_b q1.2 42 1 v1 then (some ((zz_h q1.2 42 1 v1), q1.2)) else none)))
set_option maxRecDepth 100000 in
set_option maxHeartbeats 4000000 in
theorem ze_m_idle (v1 : Int) (σ : zz_S) : m_idle v1 σ = zz_ev (zz_CE [(108, zw_m_in)]) (zz_KE []) zk_m_idle 0 false 0 1 400 true (zz_sk zk_m_idle 0) [(0, 42, 1), (1, 0, v1)] [] σ := rfl
noncomputable def zw_m_idle : List Int → zz_S → zz_R := fun vs σ => match vs with
  | [a0, a1] => if a0 = 1 then m_idle a1 σ else none
  | _ => none
def zk_m_load : List zz_E := [(0, false, .iload_n 1, 1, 0, (0, 0, 0, 0), 0, []),
  (1, false, .iconst 0, 1, 0, (0, 0, 0, 0), 0, []),
  (2, false, .aload_n 0, 1, 0, (0, 0, 0, 0), 0, []),
  (3, false, .getfield 315, 3, 801, (40, 7, 0, 0), 0, []),
  (6, false, .iconst 1, 1, 0, (0, 0, 0, 0), 0, []),
  (7, false, .isub, 1, 0, (0, 0, 0, 0), 0, []),
  (8, false, .invokestatic 174, 3, 1021, (108, 3, 0, 0), 0, [0, 0, 0]),
  (11, false, .ifCond .eq 11, 3, 0, (22, 0, 0, 0), 0, []),
  (14, false, .aload_n 0, 1, 0, (0, 0, 0, 0), 0, []),
  (15, false, .iload_n 1, 1, 0, (0, 0, 0, 0), 0, []),
  (16, false, .invokevirtual 299, 3, 1107, (113, 2, 0, 0), 0, [0, 42]),
  (19, false, .goto 5, 3, 0, (24, 0, 0, 0), 0, []),
  (22, false, .bipush (-2), 2, 0, (0, 0, 0, 0), 0, []),
  (24, false, .ireturn, 1, 0, (0, 0, 0, 0), 0, [])]
noncomputable def m_load (v1 : Int) (σ : zz_S) : zz_R := ((m_in v1 0 (zz_r ((zz_h σ 40 1 7) - 1)) σ).bind fun q1 => (if q1.1 = 0 then (some ((-2), q1.2)) else ((m_loadOf v1 q1.2).bind fun q2 => (some (q2.1, q2.2)))))
set_option maxRecDepth 100000 in
set_option maxHeartbeats 4000000 in
theorem ze_m_load (v1 : Int) (σ : zz_S) : m_load v1 σ = zz_ev (zz_CE [(108, zw_m_in), (113, zw_m_loadOf)]) (zz_KE []) zk_m_load 0 false 0 1 400 true (zz_sk zk_m_load 0) [(0, 42, 1), (1, 0, v1)] [] σ := rfl
noncomputable def zw_m_load : List Int → zz_S → zz_R := fun vs σ => match vs with
  | [a0, a1] => if a0 = 1 then m_load a1 σ else none
  | _ => none
def zk_m_quiet : List zz_E := [(0, false, .aload_n 0, 1, 0, (0, 0, 0, 0), 0, []),
  (1, false, .invokevirtual 302, 3, 1099, (111, 1, 0, 0), 0, [42]),
  (4, false, .ifCond .gt 10, 3, 0, (14, 0, 0, 0), 0, []),
  (7, false, .aload_n 0, 1, 0, (0, 0, 0, 0), 0, []),
  (8, false, .getfield 178, 3, 847, (40, 53, 0, 0), 0, []),
  (11, false, .ifCond .le 5, 3, 0, (16, 0, 0, 0), 0, []),
  (14, false, .iconst 0, 1, 0, (0, 0, 0, 0), 0, []),
  (15, false, .ireturn, 1, 0, (0, 0, 0, 0), 0, []),
  (16, false, .iconst 0, 1, 0, (0, 0, 0, 0), 0, []),
  (17, false, .istore_n 1, 1, 0, (0, 0, 0, 0), 0, []),
  (18, true, .iload_n 1, 1, 0, (0, 0, 0, 0), 0, []),
  (19, false, .aload_n 0, 1, 0, (0, 0, 0, 0), 0, []),
  (20, false, .getfield 171, 3, 803, (40, 9, 0, 0), 0, []),
  (23, false, .if_icmp .ge 41, 3, 0, (64, 0, 0, 0), 0, []),
  (26, false, .aload_n 0, 1, 0, (0, 0, 0, 0), 0, []),
  (27, false, .iload_n 1, 1, 0, (0, 0, 0, 0), 0, []),
  (28, false, .invokevirtual 241, 3, 1024, (110, 2, 0, 0), 0, [0, 42]),
  (31, false, .ifCond .eq 27, 3, 0, (58, 0, 0, 0), 0, []),
  (34, false, .aload_n 0, 1, 0, (0, 0, 0, 0), 0, []),
  (35, false, .getfield 84, 3, 823, (40, 29, 65, 1), 0, []),
  (38, false, .iload_n 1, 1, 0, (0, 0, 0, 0), 0, []),
  (39, false, .baload, 1, 0, (63, 0, 0, 0), 0, []),
  (40, false, .ifCond .ne 16, 3, 0, (56, 0, 0, 0), 0, []),
  (43, false, .aload_n 0, 1, 0, (0, 0, 0, 0), 0, []),
  (44, false, .iload_n 1, 1, 0, (0, 0, 0, 0), 0, []),
  (45, false, .aload_n 0, 1, 0, (0, 0, 0, 0), 0, []),
  (46, false, .getfield 250, 3, 794, (40, 0, 0, 0), 0, []),
  (49, false, .invokevirtual 329, 3, 1191, (121, 3, 0, 0), 0, [0, 0, 42]),
  (52, false, .iconst (-1), 1, 0, (0, 0, 0, 0), 0, []),
  (53, false, .if_icmp .eq 5, 3, 0, (58, 0, 0, 0), 0, []),
  (56, false, .iconst 0, 1, 0, (0, 0, 0, 0), 0, []),
  (57, false, .ireturn, 1, 0, (0, 0, 0, 0), 0, []),
  (58, false, .iinc 1 1, 3, 0, (0, 0, 0, 0), 0, []),
  (61, false, .goto (-43), 3, 0, (18, 0, 0, 0), 0, []),
  (64, false, .iconst 1, 1, 0, (0, 0, 0, 0), 0, []),
  (65, false, .ireturn, 1, 0, (0, 0, 0, 0), 0, [])]
noncomputable def m_quiet_18 : Nat → Int → zz_S → zz_R
  | 0, _, _ => none
  | n + 1, v1, σ => (if v1 < (zz_h σ 40 1 9) then ((m_isActive v1 σ).bind fun q1 => (if q1.1 = 0 then (m_quiet_18 n (zz_r (v1 + 1)) q1.2) else (if zz_b q1.2 63 1 v1 then (if (zz_h q1.2 63 1 v1) = 0 then ((m_dueFrom v1 (zz_h q1.2 40 1 0) q1.2).bind fun q2 => (if q2.1 = (-1) then (m_quiet_18 n (zz_r (v1 + 1)) q2.2) else (some (0, q2.2)))) else (some (0, q1.2))) else none))) else (some (1, σ)))
set_option maxRecDepth 100000 in
set_option maxHeartbeats 4000000 in
theorem ze_m_quiet_18 (n : Nat) (v1 : Int) (σ : zz_S) : m_quiet_18 (n + 1) v1 σ = zz_ev (zz_CE [(110, zw_m_isActive), (121, zw_m_dueFrom)]) (zz_KE [(18, [(0, 42, true), (1, 0, false)], fun vs σ => match vs with | [b0] => m_quiet_18 n b0 σ | _ => none)]) zk_m_quiet 0 false 0 1 400 true (zz_sk zk_m_quiet 18) [(0, 42, 1), (1, 0, v1)] [] σ := rfl
noncomputable def m_quiet (σ : zz_S) : zz_R := ((m_atWork σ).bind fun q1 => (if q1.1 ≤ 0 then (if (zz_h q1.2 40 1 53) ≤ 0 then (m_quiet_18 zz_fu 0 q1.2) else (some (0, q1.2))) else (some (0, q1.2))))
set_option maxRecDepth 100000 in
set_option maxHeartbeats 4000000 in
theorem ze_m_quiet (σ : zz_S) : m_quiet σ = zz_ev (zz_CE [(111, zw_m_atWork)]) (zz_KE [(18, [(0, 42, true), (1, 0, false)], fun vs σ => match vs with | [b0] => m_quiet_18 zz_fu b0 σ | _ => none)]) zk_m_quiet 0 false 0 1 400 true (zz_sk zk_m_quiet 0) [(0, 42, 1)] [] σ := rfl
noncomputable def zw_m_quiet : List Int → zz_S → zz_R := fun vs σ => match vs with
  | [a0] => if a0 = 1 then m_quiet σ else none
  | _ => none
def zk_l_law : List zz_E := [(0, false, .new 7, 3, 82, (3, 0, 0, 0), 0, []),
  (3, false, .dup, 1, 0, (0, 0, 0, 0), 0, []),
  (4, false, .invokespecial 9, 3, 84, (10, 3, 999, 0), 0, [1003]),
  (7, false, .astore_n 1, 1, 0, (0, 0, 0, 0), 0, []),
  (8, false, .new 10, 3, 788, (40, 0, 0, 0), 0, []),
  (11, false, .dup, 1, 0, (0, 0, 0, 0), 0, []),
  (12, false, .invokespecial 12, 3, 790, (107, 40, 999, 0), 0, [1040]),
  (15, false, .astore_n 2, 1, 0, (0, 0, 0, 0), 0, []),
  (16, false, .iconst 0, 1, 0, (0, 0, 0, 0), 0, []),
  (17, false, .istore_n 3, 1, 0, (0, 0, 0, 0), 0, []),
  (18, true, .iload_n 3, 1, 0, (0, 0, 0, 0), 0, []),
  (19, false, .aload_n 0, 1, 0, (0, 0, 0, 0), 0, []),
  (20, false, .arraylength, 1, 0, (0, 0, 0, 0), 0, []),
  (21, false, .iconst 5, 1, 0, (0, 0, 0, 0), 0, []),
  (22, false, .isub, 1, 0, (0, 0, 0, 0), 0, []),
  (23, false, .if_icmp .gt 886, 3, 0, (909, 0, 0, 0), 0, []),
  (26, false, .aload_n 0, 1, 0, (0, 0, 0, 0), 0, []),
  (27, false, .iload_n 3, 1, 0, (0, 0, 0, 0), 0, []),
  (28, false, .iaload, 1, 0, (0, 0, 0, 0), 0, []),
  (29, false, .bipush 31, 2, 0, (0, 0, 0, 0), 0, []),
  (31, false, .iand, 1, 0, (0, 0, 0, 0), 0, []),
  (32, false, .tableswitch 871 0 24 #[116, 139, 162, 205, 248, 301, 354, 397, 440, 453, 476, 499, 532, 555, 568, 601, 634, 667, 700, 733, 756, 779, 812, 835, 858], 116, 0, (903, 0, 0, 0), 0, [148, 171, 194, 237, 280, 333, 386, 429, 472, 485, 508, 531, 564, 587, 600, 633, 666, 699, 732, 765, 788, 811, 844, 867, 890]),
  (148, true, .aload_n 1, 1, 0, (0, 0, 0, 0), 0, []),
  (149, false, .aload_n 0, 1, 0, (0, 0, 0, 0), 0, []),
  (150, false, .iload_n 3, 1, 0, (0, 0, 0, 0), 0, []),
  (151, false, .iconst 1, 1, 0, (0, 0, 0, 0), 0, []),
  (152, false, .iadd, 1, 0, (0, 0, 0, 0), 0, []),
  (153, false, .iaload, 1, 0, (0, 0, 0, 0), 0, []),
  (154, false, .invokevirtual 13, 3, 224, (11, 2, 0, 0), 0, [0, 5]),
  (157, false, .aload_n 2, 1, 0, (0, 0, 0, 0), 0, []),
  (158, false, .aload_n 0, 1, 0, (0, 0, 0, 0), 0, []),
  (159, false, .iload_n 3, 1, 0, (0, 0, 0, 0), 0, []),
  (160, false, .iconst 1, 1, 0, (0, 0, 0, 0), 0, []),
  (161, false, .iadd, 1, 0, (0, 0, 0, 0), 0, []),
  (162, false, .iaload, 1, 0, (0, 0, 0, 0), 0, []),
  (163, false, .invokevirtual 17, 3, 1115, (142, 2, 0, 0), 0, [0, 42]),
  (166, false, .if_icmp .eq 737, 3, 0, (903, 0, 0, 0), 0, []),
  (169, false, .iconst 0, 1, 0, (0, 0, 0, 0), 0, []),
  (170, false, .ireturn, 1, 0, (0, 0, 0, 0), 0, []),
  (171, true, .aload_n 1, 1, 0, (0, 0, 0, 0), 0, []),
  (172, false, .aload_n 0, 1, 0, (0, 0, 0, 0), 0, []),
  (173, false, .iload_n 3, 1, 0, (0, 0, 0, 0), 0, []),
  (174, false, .iconst 1, 1, 0, (0, 0, 0, 0), 0, []),
  (175, false, .iadd, 1, 0, (0, 0, 0, 0), 0, []),
  (176, false, .iaload, 1, 0, (0, 0, 0, 0), 0, []),
  (177, false, .invokevirtual 18, 3, 231, (12, 2, 0, 0), 0, [0, 5]),
  (180, false, .aload_n 2, 1, 0, (0, 0, 0, 0), 0, []),
  (181, false, .aload_n 0, 1, 0, (0, 0, 0, 0), 0, []),
  (182, false, .iload_n 3, 1, 0, (0, 0, 0, 0), 0, []),
  (183, false, .iconst 1, 1, 0, (0, 0, 0, 0), 0, []),
  (184, false, .iadd, 1, 0, (0, 0, 0, 0), 0, []),
  (185, false, .iaload, 1, 0, (0, 0, 0, 0), 0, []),
  (186, false, .invokevirtual 21, 3, 1119, (143, 2, 0, 0), 0, [0, 42]),
  (189, false, .if_icmp .eq 714, 3, 0, (903, 0, 0, 0), 0, []),
  (192, false, .iconst 0, 1, 0, (0, 0, 0, 0), 0, []),
  (193, false, .ireturn, 1, 0, (0, 0, 0, 0), 0, []),
  (194, true, .aload_n 1, 1, 0, (0, 0, 0, 0), 0, []),
  (195, false, .aload_n 0, 1, 0, (0, 0, 0, 0), 0, []),
  (196, false, .iload_n 3, 1, 0, (0, 0, 0, 0), 0, []),
  (197, false, .iconst 1, 1, 0, (0, 0, 0, 0), 0, []),
  (198, false, .iadd, 1, 0, (0, 0, 0, 0), 0, []),
  (199, false, .iaload, 1, 0, (0, 0, 0, 0), 0, []),
  (200, false, .aload_n 0, 1, 0, (0, 0, 0, 0), 0, []),
  (201, false, .iload_n 3, 1, 0, (0, 0, 0, 0), 0, []),
  (202, false, .iconst 2, 1, 0, (0, 0, 0, 0), 0, []),
  (203, false, .iadd, 1, 0, (0, 0, 0, 0), 0, []),
  (204, false, .iaload, 1, 0, (0, 0, 0, 0), 0, []),
  (205, false, .aload_n 0, 1, 0, (0, 0, 0, 0), 0, []),
  (206, false, .iload_n 3, 1, 0, (0, 0, 0, 0), 0, []),
  (207, false, .iconst 3, 1, 0, (0, 0, 0, 0), 0, []),
  (208, false, .iadd, 1, 0, (0, 0, 0, 0), 0, []),
  (209, false, .iaload, 1, 0, (0, 0, 0, 0), 0, []),
  (210, false, .invokevirtual 22, 3, 235, (13, 4, 0, 0), 0, [0, 0, 0, 5]),
  (213, false, .aload_n 2, 1, 0, (0, 0, 0, 0), 0, []),
  (214, false, .aload_n 0, 1, 0, (0, 0, 0, 0), 0, []),
  (215, false, .iload_n 3, 1, 0, (0, 0, 0, 0), 0, []),
  (216, false, .iconst 1, 1, 0, (0, 0, 0, 0), 0, []),
  (217, false, .iadd, 1, 0, (0, 0, 0, 0), 0, []),
  (218, false, .iaload, 1, 0, (0, 0, 0, 0), 0, []),
  (219, false, .aload_n 0, 1, 0, (0, 0, 0, 0), 0, []),
  (220, false, .iload_n 3, 1, 0, (0, 0, 0, 0), 0, []),
  (221, false, .iconst 2, 1, 0, (0, 0, 0, 0), 0, []),
  (222, false, .iadd, 1, 0, (0, 0, 0, 0), 0, []),
  (223, false, .iaload, 1, 0, (0, 0, 0, 0), 0, []),
  (224, false, .aload_n 0, 1, 0, (0, 0, 0, 0), 0, []),
  (225, false, .iload_n 3, 1, 0, (0, 0, 0, 0), 0, []),
  (226, false, .iconst 3, 1, 0, (0, 0, 0, 0), 0, []),
  (227, false, .iadd, 1, 0, (0, 0, 0, 0), 0, []),
  (228, false, .iaload, 1, 0, (0, 0, 0, 0), 0, []),
  (229, false, .invokevirtual 26, 3, 1123, (144, 4, 0, 0), 0, [0, 0, 0, 42]),
  (232, false, .if_icmp .eq 671, 3, 0, (903, 0, 0, 0), 0, []),
  (235, false, .iconst 0, 1, 0, (0, 0, 0, 0), 0, []),
  (236, false, .ireturn, 1, 0, (0, 0, 0, 0), 0, []),
  (237, true, .aload_n 1, 1, 0, (0, 0, 0, 0), 0, []),
  (238, false, .aload_n 0, 1, 0, (0, 0, 0, 0), 0, []),
  (239, false, .iload_n 3, 1, 0, (0, 0, 0, 0), 0, []),
  (240, false, .iconst 1, 1, 0, (0, 0, 0, 0), 0, []),
  (241, false, .iadd, 1, 0, (0, 0, 0, 0), 0, []),
  (242, false, .iaload, 1, 0, (0, 0, 0, 0), 0, []),
  (243, false, .aload_n 0, 1, 0, (0, 0, 0, 0), 0, []),
  (244, false, .iload_n 3, 1, 0, (0, 0, 0, 0), 0, []),
  (245, false, .iconst 2, 1, 0, (0, 0, 0, 0), 0, []),
  (246, false, .iadd, 1, 0, (0, 0, 0, 0), 0, []),
  (247, false, .iaload, 1, 0, (0, 0, 0, 0), 0, []),
  (248, false, .aload_n 0, 1, 0, (0, 0, 0, 0), 0, []),
  (249, false, .iload_n 3, 1, 0, (0, 0, 0, 0), 0, []),
  (250, false, .iconst 3, 1, 0, (0, 0, 0, 0), 0, []),
  (251, false, .iadd, 1, 0, (0, 0, 0, 0), 0, []),
  (252, false, .iaload, 1, 0, (0, 0, 0, 0), 0, []),
  (253, false, .invokevirtual 27, 3, 381, (14, 4, 0, 0), 0, [0, 0, 0, 5]),
  (256, false, .aload_n 2, 1, 0, (0, 0, 0, 0), 0, []),
  (257, false, .aload_n 0, 1, 0, (0, 0, 0, 0), 0, []),
  (258, false, .iload_n 3, 1, 0, (0, 0, 0, 0), 0, []),
  (259, false, .iconst 1, 1, 0, (0, 0, 0, 0), 0, []),
  (260, false, .iadd, 1, 0, (0, 0, 0, 0), 0, []),
  (261, false, .iaload, 1, 0, (0, 0, 0, 0), 0, []),
  (262, false, .aload_n 0, 1, 0, (0, 0, 0, 0), 0, []),
  (263, false, .iload_n 3, 1, 0, (0, 0, 0, 0), 0, []),
  (264, false, .iconst 2, 1, 0, (0, 0, 0, 0), 0, []),
  (265, false, .iadd, 1, 0, (0, 0, 0, 0), 0, []),
  (266, false, .iaload, 1, 0, (0, 0, 0, 0), 0, []),
  (267, false, .aload_n 0, 1, 0, (0, 0, 0, 0), 0, []),
  (268, false, .iload_n 3, 1, 0, (0, 0, 0, 0), 0, []),
  (269, false, .iconst 3, 1, 0, (0, 0, 0, 0), 0, []),
  (270, false, .iadd, 1, 0, (0, 0, 0, 0), 0, []),
  (271, false, .iaload, 1, 0, (0, 0, 0, 0), 0, []),
  (272, false, .invokevirtual 30, 3, 1128, (145, 4, 0, 0), 0, [0, 0, 0, 42]),
  (275, false, .if_icmp .eq 628, 3, 0, (903, 0, 0, 0), 0, []),
  (278, false, .iconst 0, 1, 0, (0, 0, 0, 0), 0, []),
  (279, false, .ireturn, 1, 0, (0, 0, 0, 0), 0, []),
  (280, true, .aload_n 1, 1, 0, (0, 0, 0, 0), 0, []),
  (281, false, .aload_n 0, 1, 0, (0, 0, 0, 0), 0, []),
  (282, false, .iload_n 3, 1, 0, (0, 0, 0, 0), 0, []),
  (283, false, .iconst 1, 1, 0, (0, 0, 0, 0), 0, []),
  (284, false, .iadd, 1, 0, (0, 0, 0, 0), 0, []),
  (285, false, .iaload, 1, 0, (0, 0, 0, 0), 0, []),
  (286, false, .aload_n 0, 1, 0, (0, 0, 0, 0), 0, []),
  (287, false, .iload_n 3, 1, 0, (0, 0, 0, 0), 0, []),
  (288, false, .iconst 2, 1, 0, (0, 0, 0, 0), 0, []),
  (289, false, .iadd, 1, 0, (0, 0, 0, 0), 0, []),
  (290, false, .iaload, 1, 0, (0, 0, 0, 0), 0, []),
  (291, false, .aload_n 0, 1, 0, (0, 0, 0, 0), 0, []),
  (292, false, .iload_n 3, 1, 0, (0, 0, 0, 0), 0, []),
  (293, false, .iconst 3, 1, 0, (0, 0, 0, 0), 0, []),
  (294, false, .iadd, 1, 0, (0, 0, 0, 0), 0, []),
  (295, false, .iaload, 1, 0, (0, 0, 0, 0), 0, []),
  (296, false, .aload_n 0, 1, 0, (0, 0, 0, 0), 0, []),
  (297, false, .iload_n 3, 1, 0, (0, 0, 0, 0), 0, []),
  (298, false, .iconst 4, 1, 0, (0, 0, 0, 0), 0, []),
  (299, false, .iadd, 1, 0, (0, 0, 0, 0), 0, []),
  (300, false, .iaload, 1, 0, (0, 0, 0, 0), 0, []),
  (301, false, .invokevirtual 31, 3, 396, (17, 5, 0, 0), 0, [0, 0, 0, 0, 5]),
  (304, false, .aload_n 2, 1, 0, (0, 0, 0, 0), 0, []),
  (305, false, .aload_n 0, 1, 0, (0, 0, 0, 0), 0, []),
  (306, false, .iload_n 3, 1, 0, (0, 0, 0, 0), 0, []),
  (307, false, .iconst 1, 1, 0, (0, 0, 0, 0), 0, []),
  (308, false, .iadd, 1, 0, (0, 0, 0, 0), 0, []),
  (309, false, .iaload, 1, 0, (0, 0, 0, 0), 0, []),
  (310, false, .aload_n 0, 1, 0, (0, 0, 0, 0), 0, []),
  (311, false, .iload_n 3, 1, 0, (0, 0, 0, 0), 0, []),
  (312, false, .iconst 2, 1, 0, (0, 0, 0, 0), 0, []),
  (313, false, .iadd, 1, 0, (0, 0, 0, 0), 0, []),
  (314, false, .iaload, 1, 0, (0, 0, 0, 0), 0, []),
  (315, false, .aload_n 0, 1, 0, (0, 0, 0, 0), 0, []),
  (316, false, .iload_n 3, 1, 0, (0, 0, 0, 0), 0, []),
  (317, false, .iconst 3, 1, 0, (0, 0, 0, 0), 0, []),
  (318, false, .iadd, 1, 0, (0, 0, 0, 0), 0, []),
  (319, false, .iaload, 1, 0, (0, 0, 0, 0), 0, []),
  (320, false, .aload_n 0, 1, 0, (0, 0, 0, 0), 0, []),
  (321, false, .iload_n 3, 1, 0, (0, 0, 0, 0), 0, []),
  (322, false, .iconst 4, 1, 0, (0, 0, 0, 0), 0, []),
  (323, false, .iadd, 1, 0, (0, 0, 0, 0), 0, []),
  (324, false, .iaload, 1, 0, (0, 0, 0, 0), 0, []),
  (325, false, .invokevirtual 35, 3, 1132, (147, 5, 0, 0), 0, [0, 0, 0, 0, 42]),
  (328, false, .if_icmp .eq 575, 3, 0, (903, 0, 0, 0), 0, []),
  (331, false, .iconst 0, 1, 0, (0, 0, 0, 0), 0, []),
  (332, false, .ireturn, 1, 0, (0, 0, 0, 0), 0, []),
  (333, true, .aload_n 1, 1, 0, (0, 0, 0, 0), 0, []),
  (334, false, .aload_n 0, 1, 0, (0, 0, 0, 0), 0, []),
  (335, false, .iload_n 3, 1, 0, (0, 0, 0, 0), 0, []),
  (336, false, .iconst 1, 1, 0, (0, 0, 0, 0), 0, []),
  (337, false, .iadd, 1, 0, (0, 0, 0, 0), 0, []),
  (338, false, .iaload, 1, 0, (0, 0, 0, 0), 0, []),
  (339, false, .aload_n 0, 1, 0, (0, 0, 0, 0), 0, []),
  (340, false, .iload_n 3, 1, 0, (0, 0, 0, 0), 0, []),
  (341, false, .iconst 2, 1, 0, (0, 0, 0, 0), 0, []),
  (342, false, .iadd, 1, 0, (0, 0, 0, 0), 0, []),
  (343, false, .iaload, 1, 0, (0, 0, 0, 0), 0, []),
  (344, false, .aload_n 0, 1, 0, (0, 0, 0, 0), 0, []),
  (345, false, .iload_n 3, 1, 0, (0, 0, 0, 0), 0, []),
  (346, false, .iconst 3, 1, 0, (0, 0, 0, 0), 0, []),
  (347, false, .iadd, 1, 0, (0, 0, 0, 0), 0, []),
  (348, false, .iaload, 1, 0, (0, 0, 0, 0), 0, []),
  (349, false, .aload_n 0, 1, 0, (0, 0, 0, 0), 0, []),
  (350, false, .iload_n 3, 1, 0, (0, 0, 0, 0), 0, []),
  (351, false, .iconst 4, 1, 0, (0, 0, 0, 0), 0, []),
  (352, false, .iadd, 1, 0, (0, 0, 0, 0), 0, []),
  (353, false, .iaload, 1, 0, (0, 0, 0, 0), 0, []),
  (354, false, .invokevirtual 36, 3, 413, (18, 5, 0, 0), 0, [0, 0, 0, 0, 5]),
  (357, false, .aload_n 2, 1, 0, (0, 0, 0, 0), 0, []),
  (358, false, .aload_n 0, 1, 0, (0, 0, 0, 0), 0, []),
  (359, false, .iload_n 3, 1, 0, (0, 0, 0, 0), 0, []),
  (360, false, .iconst 1, 1, 0, (0, 0, 0, 0), 0, []),
  (361, false, .iadd, 1, 0, (0, 0, 0, 0), 0, []),
  (362, false, .iaload, 1, 0, (0, 0, 0, 0), 0, []),
  (363, false, .aload_n 0, 1, 0, (0, 0, 0, 0), 0, []),
  (364, false, .iload_n 3, 1, 0, (0, 0, 0, 0), 0, []),
  (365, false, .iconst 2, 1, 0, (0, 0, 0, 0), 0, []),
  (366, false, .iadd, 1, 0, (0, 0, 0, 0), 0, []),
  (367, false, .iaload, 1, 0, (0, 0, 0, 0), 0, []),
  (368, false, .aload_n 0, 1, 0, (0, 0, 0, 0), 0, []),
  (369, false, .iload_n 3, 1, 0, (0, 0, 0, 0), 0, []),
  (370, false, .iconst 3, 1, 0, (0, 0, 0, 0), 0, []),
  (371, false, .iadd, 1, 0, (0, 0, 0, 0), 0, []),
  (372, false, .iaload, 1, 0, (0, 0, 0, 0), 0, []),
  (373, false, .aload_n 0, 1, 0, (0, 0, 0, 0), 0, []),
  (374, false, .iload_n 3, 1, 0, (0, 0, 0, 0), 0, []),
  (375, false, .iconst 4, 1, 0, (0, 0, 0, 0), 0, []),
  (376, false, .iadd, 1, 0, (0, 0, 0, 0), 0, []),
  (377, false, .iaload, 1, 0, (0, 0, 0, 0), 0, []),
  (378, false, .invokevirtual 39, 3, 1139, (148, 5, 0, 0), 0, [0, 0, 0, 0, 42]),
  (381, false, .if_icmp .eq 522, 3, 0, (903, 0, 0, 0), 0, []),
  (384, false, .iconst 0, 1, 0, (0, 0, 0, 0), 0, []),
  (385, false, .ireturn, 1, 0, (0, 0, 0, 0), 0, []),
  (386, true, .aload_n 1, 1, 0, (0, 0, 0, 0), 0, []),
  (387, false, .aload_n 0, 1, 0, (0, 0, 0, 0), 0, []),
  (388, false, .iload_n 3, 1, 0, (0, 0, 0, 0), 0, []),
  (389, false, .iconst 1, 1, 0, (0, 0, 0, 0), 0, []),
  (390, false, .iadd, 1, 0, (0, 0, 0, 0), 0, []),
  (391, false, .iaload, 1, 0, (0, 0, 0, 0), 0, []),
  (392, false, .aload_n 0, 1, 0, (0, 0, 0, 0), 0, []),
  (393, false, .iload_n 3, 1, 0, (0, 0, 0, 0), 0, []),
  (394, false, .iconst 2, 1, 0, (0, 0, 0, 0), 0, []),
  (395, false, .iadd, 1, 0, (0, 0, 0, 0), 0, []),
  (396, false, .iaload, 1, 0, (0, 0, 0, 0), 0, []),
  (397, false, .aload_n 0, 1, 0, (0, 0, 0, 0), 0, []),
  (398, false, .iload_n 3, 1, 0, (0, 0, 0, 0), 0, []),
  (399, false, .iconst 3, 1, 0, (0, 0, 0, 0), 0, []),
  (400, false, .iadd, 1, 0, (0, 0, 0, 0), 0, []),
  (401, false, .iaload, 1, 0, (0, 0, 0, 0), 0, []),
  (402, false, .invokevirtual 40, 3, 417, (19, 4, 0, 0), 0, [0, 0, 0, 5]),
  (405, false, .aload_n 2, 1, 0, (0, 0, 0, 0), 0, []),
  (406, false, .aload_n 0, 1, 0, (0, 0, 0, 0), 0, []),
  (407, false, .iload_n 3, 1, 0, (0, 0, 0, 0), 0, []),
  (408, false, .iconst 1, 1, 0, (0, 0, 0, 0), 0, []),
  (409, false, .iadd, 1, 0, (0, 0, 0, 0), 0, []),
  (410, false, .iaload, 1, 0, (0, 0, 0, 0), 0, []),
  (411, false, .aload_n 0, 1, 0, (0, 0, 0, 0), 0, []),
  (412, false, .iload_n 3, 1, 0, (0, 0, 0, 0), 0, []),
  (413, false, .iconst 2, 1, 0, (0, 0, 0, 0), 0, []),
  (414, false, .iadd, 1, 0, (0, 0, 0, 0), 0, []),
  (415, false, .iaload, 1, 0, (0, 0, 0, 0), 0, []),
  (416, false, .aload_n 0, 1, 0, (0, 0, 0, 0), 0, []),
  (417, false, .iload_n 3, 1, 0, (0, 0, 0, 0), 0, []),
  (418, false, .iconst 3, 1, 0, (0, 0, 0, 0), 0, []),
  (419, false, .iadd, 1, 0, (0, 0, 0, 0), 0, []),
  (420, false, .iaload, 1, 0, (0, 0, 0, 0), 0, []),
  (421, false, .invokevirtual 43, 3, 1143, (150, 4, 0, 0), 0, [0, 0, 0, 42]),
  (424, false, .if_icmp .eq 479, 3, 0, (903, 0, 0, 0), 0, []),
  (427, false, .iconst 0, 1, 0, (0, 0, 0, 0), 0, []),
  (428, false, .ireturn, 1, 0, (0, 0, 0, 0), 0, []),
  (429, true, .aload_n 1, 1, 0, (0, 0, 0, 0), 0, []),
  (430, false, .aload_n 0, 1, 0, (0, 0, 0, 0), 0, []),
  (431, false, .iload_n 3, 1, 0, (0, 0, 0, 0), 0, []),
  (432, false, .iconst 1, 1, 0, (0, 0, 0, 0), 0, []),
  (433, false, .iadd, 1, 0, (0, 0, 0, 0), 0, []),
  (434, false, .iaload, 1, 0, (0, 0, 0, 0), 0, []),
  (435, false, .aload_n 0, 1, 0, (0, 0, 0, 0), 0, []),
  (436, false, .iload_n 3, 1, 0, (0, 0, 0, 0), 0, []),
  (437, false, .iconst 2, 1, 0, (0, 0, 0, 0), 0, []),
  (438, false, .iadd, 1, 0, (0, 0, 0, 0), 0, []),
  (439, false, .iaload, 1, 0, (0, 0, 0, 0), 0, []),
  (440, false, .aload_n 0, 1, 0, (0, 0, 0, 0), 0, []),
  (441, false, .iload_n 3, 1, 0, (0, 0, 0, 0), 0, []),
  (442, false, .iconst 3, 1, 0, (0, 0, 0, 0), 0, []),
  (443, false, .iadd, 1, 0, (0, 0, 0, 0), 0, []),
  (444, false, .iaload, 1, 0, (0, 0, 0, 0), 0, []),
  (445, false, .invokevirtual 44, 3, 433, (22, 4, 0, 0), 0, [0, 0, 0, 5]),
  (448, false, .aload_n 2, 1, 0, (0, 0, 0, 0), 0, []),
  (449, false, .aload_n 0, 1, 0, (0, 0, 0, 0), 0, []),
  (450, false, .iload_n 3, 1, 0, (0, 0, 0, 0), 0, []),
  (451, false, .iconst 1, 1, 0, (0, 0, 0, 0), 0, []),
  (452, false, .iadd, 1, 0, (0, 0, 0, 0), 0, []),
  (453, false, .iaload, 1, 0, (0, 0, 0, 0), 0, []),
  (454, false, .aload_n 0, 1, 0, (0, 0, 0, 0), 0, []),
  (455, false, .iload_n 3, 1, 0, (0, 0, 0, 0), 0, []),
  (456, false, .iconst 2, 1, 0, (0, 0, 0, 0), 0, []),
  (457, false, .iadd, 1, 0, (0, 0, 0, 0), 0, []),
  (458, false, .iaload, 1, 0, (0, 0, 0, 0), 0, []),
  (459, false, .aload_n 0, 1, 0, (0, 0, 0, 0), 0, []),
  (460, false, .iload_n 3, 1, 0, (0, 0, 0, 0), 0, []),
  (461, false, .iconst 3, 1, 0, (0, 0, 0, 0), 0, []),
  (462, false, .iadd, 1, 0, (0, 0, 0, 0), 0, []),
  (463, false, .iaload, 1, 0, (0, 0, 0, 0), 0, []),
  (464, false, .invokevirtual 47, 3, 1151, (151, 4, 0, 0), 0, [0, 0, 0, 42]),
  (467, false, .if_icmp .eq 436, 3, 0, (903, 0, 0, 0), 0, []),
  (470, false, .iconst 0, 1, 0, (0, 0, 0, 0), 0, []),
  (471, false, .ireturn, 1, 0, (0, 0, 0, 0), 0, []),
  (472, false, .aload_n 1, 1, 0, (0, 0, 0, 0), 0, []),
  (473, false, .invokevirtual 48, 3, 448, (23, 1, 0, 0), 0, [5]),
  (476, false, .aload_n 2, 1, 0, (0, 0, 0, 0), 0, []),
  (477, false, .invokevirtual 52, 3, 1155, (152, 1, 0, 0), 0, [42]),
  (480, false, .if_icmp .eq 423, 3, 0, (903, 0, 0, 0), 0, []),
  (483, false, .iconst 0, 1, 0, (0, 0, 0, 0), 0, []),
  (484, false, .ireturn, 1, 0, (0, 0, 0, 0), 0, []),
  (485, true, .aload_n 1, 1, 0, (0, 0, 0, 0), 0, []),
  (486, false, .aload_n 0, 1, 0, (0, 0, 0, 0), 0, []),
  (487, false, .iload_n 3, 1, 0, (0, 0, 0, 0), 0, []),
  (488, false, .iconst 1, 1, 0, (0, 0, 0, 0), 0, []),
  (489, false, .iadd, 1, 0, (0, 0, 0, 0), 0, []),
  (490, false, .iaload, 1, 0, (0, 0, 0, 0), 0, []),
  (491, false, .invokevirtual 53, 3, 452, (24, 2, 0, 0), 0, [0, 5]),
  (494, false, .aload_n 2, 1, 0, (0, 0, 0, 0), 0, []),
  (495, false, .aload_n 0, 1, 0, (0, 0, 0, 0), 0, []),
  (496, false, .iload_n 3, 1, 0, (0, 0, 0, 0), 0, []),
  (497, false, .iconst 1, 1, 0, (0, 0, 0, 0), 0, []),
  (498, false, .iadd, 1, 0, (0, 0, 0, 0), 0, []),
  (499, false, .iaload, 1, 0, (0, 0, 0, 0), 0, []),
  (500, false, .invokevirtual 56, 3, 996, (141, 2, 0, 0), 0, [0, 42]),
  (503, false, .if_icmp .eq 400, 3, 0, (903, 0, 0, 0), 0, []),
  (506, false, .iconst 0, 1, 0, (0, 0, 0, 0), 0, []),
  (507, false, .ireturn, 1, 0, (0, 0, 0, 0), 0, []),
  (508, true, .aload_n 1, 1, 0, (0, 0, 0, 0), 0, []),
  (509, false, .aload_n 0, 1, 0, (0, 0, 0, 0), 0, []),
  (510, false, .iload_n 3, 1, 0, (0, 0, 0, 0), 0, []),
  (511, false, .iconst 1, 1, 0, (0, 0, 0, 0), 0, []),
  (512, false, .iadd, 1, 0, (0, 0, 0, 0), 0, []),
  (513, false, .iaload, 1, 0, (0, 0, 0, 0), 0, []),
  (514, false, .invokevirtual 57, 3, 678, (48, 2, 0, 0), 0, [0, 5]),
  (517, false, .aload_n 2, 1, 0, (0, 0, 0, 0), 0, []),
  (518, false, .aload_n 0, 1, 0, (0, 0, 0, 0), 0, []),
  (519, false, .iload_n 3, 1, 0, (0, 0, 0, 0), 0, []),
  (520, false, .iconst 1, 1, 0, (0, 0, 0, 0), 0, []),
  (521, false, .iadd, 1, 0, (0, 0, 0, 0), 0, []),
  (522, false, .iaload, 1, 0, (0, 0, 0, 0), 0, []),
  (523, false, .invokevirtual 60, 3, 1159, (153, 2, 0, 0), 0, [0, 42]),
  (526, false, .if_icmp .eq 377, 3, 0, (903, 0, 0, 0), 0, []),
  (529, false, .iconst 0, 1, 0, (0, 0, 0, 0), 0, []),
  (530, false, .ireturn, 1, 0, (0, 0, 0, 0), 0, []),
  (531, true, .aload_n 1, 1, 0, (0, 0, 0, 0), 0, []),
  (532, false, .aload_n 0, 1, 0, (0, 0, 0, 0), 0, []),
  (533, false, .iload_n 3, 1, 0, (0, 0, 0, 0), 0, []),
  (534, false, .iconst 1, 1, 0, (0, 0, 0, 0), 0, []),
  (535, false, .iadd, 1, 0, (0, 0, 0, 0), 0, []),
  (536, false, .iaload, 1, 0, (0, 0, 0, 0), 0, []),
  (537, false, .aload_n 0, 1, 0, (0, 0, 0, 0), 0, []),
  (538, false, .iload_n 3, 1, 0, (0, 0, 0, 0), 0, []),
  (539, false, .iconst 2, 1, 0, (0, 0, 0, 0), 0, []),
  (540, false, .iadd, 1, 0, (0, 0, 0, 0), 0, []),
  (541, false, .iaload, 1, 0, (0, 0, 0, 0), 0, []),
  (542, false, .invokevirtual 61, 3, 696, (51, 3, 0, 0), 0, [0, 0, 5]),
  (545, false, .aload_n 2, 1, 0, (0, 0, 0, 0), 0, []),
  (546, false, .aload_n 0, 1, 0, (0, 0, 0, 0), 0, []),
  (547, false, .iload_n 3, 1, 0, (0, 0, 0, 0), 0, []),
  (548, false, .iconst 1, 1, 0, (0, 0, 0, 0), 0, []),
  (549, false, .iadd, 1, 0, (0, 0, 0, 0), 0, []),
  (550, false, .iaload, 1, 0, (0, 0, 0, 0), 0, []),
  (551, false, .aload_n 0, 1, 0, (0, 0, 0, 0), 0, []),
  (552, false, .iload_n 3, 1, 0, (0, 0, 0, 0), 0, []),
  (553, false, .iconst 2, 1, 0, (0, 0, 0, 0), 0, []),
  (554, false, .iadd, 1, 0, (0, 0, 0, 0), 0, []),
  (555, false, .iaload, 1, 0, (0, 0, 0, 0), 0, []),
  (556, false, .invokevirtual 65, 3, 1163, (154, 3, 0, 0), 0, [0, 0, 42]),
  (559, false, .if_icmp .eq 344, 3, 0, (903, 0, 0, 0), 0, []),
  (562, false, .iconst 0, 1, 0, (0, 0, 0, 0), 0, []),
  (563, false, .ireturn, 1, 0, (0, 0, 0, 0), 0, []),
  (564, true, .aload_n 1, 1, 0, (0, 0, 0, 0), 0, []),
  (565, false, .aload_n 0, 1, 0, (0, 0, 0, 0), 0, []),
  (566, false, .iload_n 3, 1, 0, (0, 0, 0, 0), 0, []),
  (567, false, .iconst 1, 1, 0, (0, 0, 0, 0), 0, []),
  (568, false, .iadd, 1, 0, (0, 0, 0, 0), 0, []),
  (569, false, .iaload, 1, 0, (0, 0, 0, 0), 0, []),
  (570, false, .invokevirtual 66, 3, 708, (55, 2, 0, 0), 0, [0, 5]),
  (573, false, .aload_n 2, 1, 0, (0, 0, 0, 0), 0, []),
  (574, false, .aload_n 0, 1, 0, (0, 0, 0, 0), 0, []),
  (575, false, .iload_n 3, 1, 0, (0, 0, 0, 0), 0, []),
  (576, false, .iconst 1, 1, 0, (0, 0, 0, 0), 0, []),
  (577, false, .iadd, 1, 0, (0, 0, 0, 0), 0, []),
  (578, false, .iaload, 1, 0, (0, 0, 0, 0), 0, []),
  (579, false, .invokevirtual 69, 3, 1171, (155, 2, 0, 0), 0, [0, 42]),
  (582, false, .if_icmp .eq 321, 3, 0, (903, 0, 0, 0), 0, []),
  (585, false, .iconst 0, 1, 0, (0, 0, 0, 0), 0, []),
  (586, false, .ireturn, 1, 0, (0, 0, 0, 0), 0, []),
  (587, false, .aload_n 1, 1, 0, (0, 0, 0, 0), 0, []),
  (588, false, .invokevirtual 70, 3, 720, (57, 1, 0, 0), 0, [5]),
  (591, false, .aload_n 2, 1, 0, (0, 0, 0, 0), 0, []),
  (592, false, .invokevirtual 73, 3, 1175, (156, 1, 0, 0), 0, [42]),
  (595, false, .if_icmp .eq 308, 3, 0, (903, 0, 0, 0), 0, []),
  (598, false, .iconst 0, 1, 0, (0, 0, 0, 0), 0, []),
  (599, false, .ireturn, 1, 0, (0, 0, 0, 0), 0, []),
  (600, true, .aload_n 1, 1, 0, (0, 0, 0, 0), 0, []),
  (601, false, .aload_n 0, 1, 0, (0, 0, 0, 0), 0, []),
  (602, false, .iload_n 3, 1, 0, (0, 0, 0, 0), 0, []),
  (603, false, .iconst 1, 1, 0, (0, 0, 0, 0), 0, []),
  (604, false, .iadd, 1, 0, (0, 0, 0, 0), 0, []),
  (605, false, .iaload, 1, 0, (0, 0, 0, 0), 0, []),
  (606, false, .aload_n 0, 1, 0, (0, 0, 0, 0), 0, []),
  (607, false, .iload_n 3, 1, 0, (0, 0, 0, 0), 0, []),
  (608, false, .iconst 2, 1, 0, (0, 0, 0, 0), 0, []),
  (609, false, .iadd, 1, 0, (0, 0, 0, 0), 0, []),
  (610, false, .iaload, 1, 0, (0, 0, 0, 0), 0, []),
  (611, false, .invokevirtual 74, 3, 724, (58, 3, 0, 0), 0, [0, 0, 5]),
  (614, false, .aload_n 2, 1, 0, (0, 0, 0, 0), 0, []),
  (615, false, .aload_n 0, 1, 0, (0, 0, 0, 0), 0, []),
  (616, false, .iload_n 3, 1, 0, (0, 0, 0, 0), 0, []),
  (617, false, .iconst 1, 1, 0, (0, 0, 0, 0), 0, []),
  (618, false, .iadd, 1, 0, (0, 0, 0, 0), 0, []),
  (619, false, .iaload, 1, 0, (0, 0, 0, 0), 0, []),
  (620, false, .aload_n 0, 1, 0, (0, 0, 0, 0), 0, []),
  (621, false, .iload_n 3, 1, 0, (0, 0, 0, 0), 0, []),
  (622, false, .iconst 2, 1, 0, (0, 0, 0, 0), 0, []),
  (623, false, .iadd, 1, 0, (0, 0, 0, 0), 0, []),
  (624, false, .iaload, 1, 0, (0, 0, 0, 0), 0, []),
  (625, false, .invokevirtual 77, 3, 1179, (157, 3, 0, 0), 0, [0, 0, 42]),
  (628, false, .if_icmp .eq 275, 3, 0, (903, 0, 0, 0), 0, []),
  (631, false, .iconst 0, 1, 0, (0, 0, 0, 0), 0, []),
  (632, false, .ireturn, 1, 0, (0, 0, 0, 0), 0, []),
  (633, true, .aload_n 1, 1, 0, (0, 0, 0, 0), 0, []),
  (634, false, .aload_n 0, 1, 0, (0, 0, 0, 0), 0, []),
  (635, false, .iload_n 3, 1, 0, (0, 0, 0, 0), 0, []),
  (636, false, .iconst 1, 1, 0, (0, 0, 0, 0), 0, []),
  (637, false, .iadd, 1, 0, (0, 0, 0, 0), 0, []),
  (638, false, .iaload, 1, 0, (0, 0, 0, 0), 0, []),
  (639, false, .aload_n 0, 1, 0, (0, 0, 0, 0), 0, []),
  (640, false, .iload_n 3, 1, 0, (0, 0, 0, 0), 0, []),
  (641, false, .iconst 2, 1, 0, (0, 0, 0, 0), 0, []),
  (642, false, .iadd, 1, 0, (0, 0, 0, 0), 0, []),
  (643, false, .iaload, 1, 0, (0, 0, 0, 0), 0, []),
  (644, false, .invokevirtual 78, 3, 728, (59, 3, 0, 0), 0, [0, 0, 5]),
  (647, false, .aload_n 2, 1, 0, (0, 0, 0, 0), 0, []),
  (648, false, .aload_n 0, 1, 0, (0, 0, 0, 0), 0, []),
  (649, false, .iload_n 3, 1, 0, (0, 0, 0, 0), 0, []),
  (650, false, .iconst 1, 1, 0, (0, 0, 0, 0), 0, []),
  (651, false, .iadd, 1, 0, (0, 0, 0, 0), 0, []),
  (652, false, .iaload, 1, 0, (0, 0, 0, 0), 0, []),
  (653, false, .aload_n 0, 1, 0, (0, 0, 0, 0), 0, []),
  (654, false, .iload_n 3, 1, 0, (0, 0, 0, 0), 0, []),
  (655, false, .iconst 2, 1, 0, (0, 0, 0, 0), 0, []),
  (656, false, .iadd, 1, 0, (0, 0, 0, 0), 0, []),
  (657, false, .iaload, 1, 0, (0, 0, 0, 0), 0, []),
  (658, false, .invokevirtual 81, 3, 1183, (158, 3, 0, 0), 0, [0, 0, 42]),
  (661, false, .if_icmp .eq 242, 3, 0, (903, 0, 0, 0), 0, []),
  (664, false, .iconst 0, 1, 0, (0, 0, 0, 0), 0, []),
  (665, false, .ireturn, 1, 0, (0, 0, 0, 0), 0, []),
  (666, true, .aload_n 1, 1, 0, (0, 0, 0, 0), 0, []),
  (667, false, .aload_n 0, 1, 0, (0, 0, 0, 0), 0, []),
  (668, false, .iload_n 3, 1, 0, (0, 0, 0, 0), 0, []),
  (669, false, .iconst 1, 1, 0, (0, 0, 0, 0), 0, []),
  (670, false, .iadd, 1, 0, (0, 0, 0, 0), 0, []),
  (671, false, .iaload, 1, 0, (0, 0, 0, 0), 0, []),
  (672, false, .aload_n 0, 1, 0, (0, 0, 0, 0), 0, []),
  (673, false, .iload_n 3, 1, 0, (0, 0, 0, 0), 0, []),
  (674, false, .iconst 2, 1, 0, (0, 0, 0, 0), 0, []),
  (675, false, .iadd, 1, 0, (0, 0, 0, 0), 0, []),
  (676, false, .iaload, 1, 0, (0, 0, 0, 0), 0, []),
  (677, false, .invokevirtual 82, 3, 736, (61, 3, 0, 0), 0, [0, 0, 5]),
  (680, false, .aload_n 2, 1, 0, (0, 0, 0, 0), 0, []),
  (681, false, .aload_n 0, 1, 0, (0, 0, 0, 0), 0, []),
  (682, false, .iload_n 3, 1, 0, (0, 0, 0, 0), 0, []),
  (683, false, .iconst 1, 1, 0, (0, 0, 0, 0), 0, []),
  (684, false, .iadd, 1, 0, (0, 0, 0, 0), 0, []),
  (685, false, .iaload, 1, 0, (0, 0, 0, 0), 0, []),
  (686, false, .aload_n 0, 1, 0, (0, 0, 0, 0), 0, []),
  (687, false, .iload_n 3, 1, 0, (0, 0, 0, 0), 0, []),
  (688, false, .iconst 2, 1, 0, (0, 0, 0, 0), 0, []),
  (689, false, .iadd, 1, 0, (0, 0, 0, 0), 0, []),
  (690, false, .iaload, 1, 0, (0, 0, 0, 0), 0, []),
  (691, false, .invokevirtual 85, 3, 1187, (159, 3, 0, 0), 0, [0, 0, 42]),
  (694, false, .if_icmp .eq 209, 3, 0, (903, 0, 0, 0), 0, []),
  (697, false, .iconst 0, 1, 0, (0, 0, 0, 0), 0, []),
  (698, false, .ireturn, 1, 0, (0, 0, 0, 0), 0, []),
  (699, true, .aload_n 1, 1, 0, (0, 0, 0, 0), 0, []),
  (700, false, .aload_n 0, 1, 0, (0, 0, 0, 0), 0, []),
  (701, false, .iload_n 3, 1, 0, (0, 0, 0, 0), 0, []),
  (702, false, .iconst 1, 1, 0, (0, 0, 0, 0), 0, []),
  (703, false, .iadd, 1, 0, (0, 0, 0, 0), 0, []),
  (704, false, .iaload, 1, 0, (0, 0, 0, 0), 0, []),
  (705, false, .aload_n 0, 1, 0, (0, 0, 0, 0), 0, []),
  (706, false, .iload_n 3, 1, 0, (0, 0, 0, 0), 0, []),
  (707, false, .iconst 2, 1, 0, (0, 0, 0, 0), 0, []),
  (708, false, .iadd, 1, 0, (0, 0, 0, 0), 0, []),
  (709, false, .iaload, 1, 0, (0, 0, 0, 0), 0, []),
  (710, false, .invokevirtual 86, 3, 753, (64, 3, 0, 0), 0, [0, 0, 5]),
  (713, false, .aload_n 2, 1, 0, (0, 0, 0, 0), 0, []),
  (714, false, .aload_n 0, 1, 0, (0, 0, 0, 0), 0, []),
  (715, false, .iload_n 3, 1, 0, (0, 0, 0, 0), 0, []),
  (716, false, .iconst 1, 1, 0, (0, 0, 0, 0), 0, []),
  (717, false, .iadd, 1, 0, (0, 0, 0, 0), 0, []),
  (718, false, .iaload, 1, 0, (0, 0, 0, 0), 0, []),
  (719, false, .aload_n 0, 1, 0, (0, 0, 0, 0), 0, []),
  (720, false, .iload_n 3, 1, 0, (0, 0, 0, 0), 0, []),
  (721, false, .iconst 2, 1, 0, (0, 0, 0, 0), 0, []),
  (722, false, .iadd, 1, 0, (0, 0, 0, 0), 0, []),
  (723, false, .iaload, 1, 0, (0, 0, 0, 0), 0, []),
  (724, false, .invokevirtual 89, 3, 1203, (160, 3, 0, 0), 0, [0, 0, 42]),
  (727, false, .if_icmp .eq 176, 3, 0, (903, 0, 0, 0), 0, []),
  (730, false, .iconst 0, 1, 0, (0, 0, 0, 0), 0, []),
  (731, false, .ireturn, 1, 0, (0, 0, 0, 0), 0, []),
  (732, true, .aload_n 1, 1, 0, (0, 0, 0, 0), 0, []),
  (733, false, .aload_n 0, 1, 0, (0, 0, 0, 0), 0, []),
  (734, false, .iload_n 3, 1, 0, (0, 0, 0, 0), 0, []),
  (735, false, .iconst 1, 1, 0, (0, 0, 0, 0), 0, []),
  (736, false, .iadd, 1, 0, (0, 0, 0, 0), 0, []),
  (737, false, .iaload, 1, 0, (0, 0, 0, 0), 0, []),
  (738, false, .aload_n 0, 1, 0, (0, 0, 0, 0), 0, []),
  (739, false, .iload_n 3, 1, 0, (0, 0, 0, 0), 0, []),
  (740, false, .iconst 2, 1, 0, (0, 0, 0, 0), 0, []),
  (741, false, .iadd, 1, 0, (0, 0, 0, 0), 0, []),
  (742, false, .iaload, 1, 0, (0, 0, 0, 0), 0, []),
  (743, false, .invokevirtual 90, 3, 757, (65, 3, 0, 0), 0, [0, 0, 5]),
  (746, false, .aload_n 2, 1, 0, (0, 0, 0, 0), 0, []),
  (747, false, .aload_n 0, 1, 0, (0, 0, 0, 0), 0, []),
  (748, false, .iload_n 3, 1, 0, (0, 0, 0, 0), 0, []),
  (749, false, .iconst 1, 1, 0, (0, 0, 0, 0), 0, []),
  (750, false, .iadd, 1, 0, (0, 0, 0, 0), 0, []),
  (751, false, .iaload, 1, 0, (0, 0, 0, 0), 0, []),
  (752, false, .aload_n 0, 1, 0, (0, 0, 0, 0), 0, []),
  (753, false, .iload_n 3, 1, 0, (0, 0, 0, 0), 0, []),
  (754, false, .iconst 2, 1, 0, (0, 0, 0, 0), 0, []),
  (755, false, .iadd, 1, 0, (0, 0, 0, 0), 0, []),
  (756, false, .iaload, 1, 0, (0, 0, 0, 0), 0, []),
  (757, false, .invokevirtual 93, 3, 1207, (161, 3, 0, 0), 0, [0, 0, 42]),
  (760, false, .if_icmp .eq 143, 3, 0, (903, 0, 0, 0), 0, []),
  (763, false, .iconst 0, 1, 0, (0, 0, 0, 0), 0, []),
  (764, false, .ireturn, 1, 0, (0, 0, 0, 0), 0, []),
  (765, true, .aload_n 1, 1, 0, (0, 0, 0, 0), 0, []),
  (766, false, .aload_n 0, 1, 0, (0, 0, 0, 0), 0, []),
  (767, false, .iload_n 3, 1, 0, (0, 0, 0, 0), 0, []),
  (768, false, .iconst 1, 1, 0, (0, 0, 0, 0), 0, []),
  (769, false, .iadd, 1, 0, (0, 0, 0, 0), 0, []),
  (770, false, .iaload, 1, 0, (0, 0, 0, 0), 0, []),
  (771, false, .invokevirtual 94, 3, 761, (66, 2, 0, 0), 0, [0, 5]),
  (774, false, .aload_n 2, 1, 0, (0, 0, 0, 0), 0, []),
  (775, false, .aload_n 0, 1, 0, (0, 0, 0, 0), 0, []),
  (776, false, .iload_n 3, 1, 0, (0, 0, 0, 0), 0, []),
  (777, false, .iconst 1, 1, 0, (0, 0, 0, 0), 0, []),
  (778, false, .iadd, 1, 0, (0, 0, 0, 0), 0, []),
  (779, false, .iaload, 1, 0, (0, 0, 0, 0), 0, []),
  (780, false, .invokevirtual 97, 3, 1211, (162, 2, 0, 0), 0, [0, 42]),
  (783, false, .if_icmp .eq 120, 3, 0, (903, 0, 0, 0), 0, []),
  (786, false, .iconst 0, 1, 0, (0, 0, 0, 0), 0, []),
  (787, false, .ireturn, 1, 0, (0, 0, 0, 0), 0, []),
  (788, true, .aload_n 1, 1, 0, (0, 0, 0, 0), 0, []),
  (789, false, .aload_n 0, 1, 0, (0, 0, 0, 0), 0, []),
  (790, false, .iload_n 3, 1, 0, (0, 0, 0, 0), 0, []),
  (791, false, .iconst 1, 1, 0, (0, 0, 0, 0), 0, []),
  (792, false, .iadd, 1, 0, (0, 0, 0, 0), 0, []),
  (793, false, .iaload, 1, 0, (0, 0, 0, 0), 0, []),
  (794, false, .invokevirtual 98, 3, 765, (67, 2, 0, 0), 0, [0, 5]),
  (797, false, .aload_n 2, 1, 0, (0, 0, 0, 0), 0, []),
  (798, false, .aload_n 0, 1, 0, (0, 0, 0, 0), 0, []),
  (799, false, .iload_n 3, 1, 0, (0, 0, 0, 0), 0, []),
  (800, false, .iconst 1, 1, 0, (0, 0, 0, 0), 0, []),
  (801, false, .iadd, 1, 0, (0, 0, 0, 0), 0, []),
  (802, false, .iaload, 1, 0, (0, 0, 0, 0), 0, []),
  (803, false, .invokevirtual 101, 3, 1215, (163, 2, 0, 0), 0, [0, 42]),
  (806, false, .if_icmp .eq 97, 3, 0, (903, 0, 0, 0), 0, []),
  (809, false, .iconst 0, 1, 0, (0, 0, 0, 0), 0, []),
  (810, false, .ireturn, 1, 0, (0, 0, 0, 0), 0, []),
  (811, true, .aload_n 1, 1, 0, (0, 0, 0, 0), 0, []),
  (812, false, .aload_n 0, 1, 0, (0, 0, 0, 0), 0, []),
  (813, false, .iload_n 3, 1, 0, (0, 0, 0, 0), 0, []),
  (814, false, .iconst 1, 1, 0, (0, 0, 0, 0), 0, []),
  (815, false, .iadd, 1, 0, (0, 0, 0, 0), 0, []),
  (816, false, .iaload, 1, 0, (0, 0, 0, 0), 0, []),
  (817, false, .aload_n 0, 1, 0, (0, 0, 0, 0), 0, []),
  (818, false, .iload_n 3, 1, 0, (0, 0, 0, 0), 0, []),
  (819, false, .iconst 2, 1, 0, (0, 0, 0, 0), 0, []),
  (820, false, .iadd, 1, 0, (0, 0, 0, 0), 0, []),
  (821, false, .iaload, 1, 0, (0, 0, 0, 0), 0, []),
  (822, false, .invokevirtual 102, 3, 769, (68, 3, 0, 0), 0, [0, 0, 5]),
  (825, false, .aload_n 2, 1, 0, (0, 0, 0, 0), 0, []),
  (826, false, .aload_n 0, 1, 0, (0, 0, 0, 0), 0, []),
  (827, false, .iload_n 3, 1, 0, (0, 0, 0, 0), 0, []),
  (828, false, .iconst 1, 1, 0, (0, 0, 0, 0), 0, []),
  (829, false, .iadd, 1, 0, (0, 0, 0, 0), 0, []),
  (830, false, .iaload, 1, 0, (0, 0, 0, 0), 0, []),
  (831, false, .aload_n 0, 1, 0, (0, 0, 0, 0), 0, []),
  (832, false, .iload_n 3, 1, 0, (0, 0, 0, 0), 0, []),
  (833, false, .iconst 2, 1, 0, (0, 0, 0, 0), 0, []),
  (834, false, .iadd, 1, 0, (0, 0, 0, 0), 0, []),
  (835, false, .iaload, 1, 0, (0, 0, 0, 0), 0, []),
  (836, false, .invokevirtual 105, 3, 1219, (164, 3, 0, 0), 0, [0, 0, 42]),
  (839, false, .if_icmp .eq 64, 3, 0, (903, 0, 0, 0), 0, []),
  (842, false, .iconst 0, 1, 0, (0, 0, 0, 0), 0, []),
  (843, false, .ireturn, 1, 0, (0, 0, 0, 0), 0, []),
  (844, true, .aload_n 1, 1, 0, (0, 0, 0, 0), 0, []),
  (845, false, .aload_n 0, 1, 0, (0, 0, 0, 0), 0, []),
  (846, false, .iload_n 3, 1, 0, (0, 0, 0, 0), 0, []),
  (847, false, .iconst 1, 1, 0, (0, 0, 0, 0), 0, []),
  (848, false, .iadd, 1, 0, (0, 0, 0, 0), 0, []),
  (849, false, .iaload, 1, 0, (0, 0, 0, 0), 0, []),
  (850, false, .invokevirtual 106, 3, 776, (69, 2, 0, 0), 0, [0, 5]),
  (853, false, .aload_n 2, 1, 0, (0, 0, 0, 0), 0, []),
  (854, false, .aload_n 0, 1, 0, (0, 0, 0, 0), 0, []),
  (855, false, .iload_n 3, 1, 0, (0, 0, 0, 0), 0, []),
  (856, false, .iconst 1, 1, 0, (0, 0, 0, 0), 0, []),
  (857, false, .iadd, 1, 0, (0, 0, 0, 0), 0, []),
  (858, false, .iaload, 1, 0, (0, 0, 0, 0), 0, []),
  (859, false, .invokevirtual 109, 3, 1224, (165, 2, 0, 0), 0, [0, 42]),
  (862, false, .if_icmp .eq 41, 3, 0, (903, 0, 0, 0), 0, []),
  (865, false, .iconst 0, 1, 0, (0, 0, 0, 0), 0, []),
  (866, false, .ireturn, 1, 0, (0, 0, 0, 0), 0, []),
  (867, true, .aload_n 1, 1, 0, (0, 0, 0, 0), 0, []),
  (868, false, .aload_n 0, 1, 0, (0, 0, 0, 0), 0, []),
  (869, false, .iload_n 3, 1, 0, (0, 0, 0, 0), 0, []),
  (870, false, .iconst 1, 1, 0, (0, 0, 0, 0), 0, []),
  (871, false, .iadd, 1, 0, (0, 0, 0, 0), 0, []),
  (872, false, .iaload, 1, 0, (0, 0, 0, 0), 0, []),
  (873, false, .invokevirtual 110, 3, 780, (70, 2, 0, 0), 0, [0, 5]),
  (876, false, .aload_n 2, 1, 0, (0, 0, 0, 0), 0, []),
  (877, false, .aload_n 0, 1, 0, (0, 0, 0, 0), 0, []),
  (878, false, .iload_n 3, 1, 0, (0, 0, 0, 0), 0, []),
  (879, false, .iconst 1, 1, 0, (0, 0, 0, 0), 0, []),
  (880, false, .iadd, 1, 0, (0, 0, 0, 0), 0, []),
  (881, false, .iaload, 1, 0, (0, 0, 0, 0), 0, []),
  (882, false, .invokevirtual 113, 3, 1228, (166, 2, 0, 0), 0, [0, 42]),
  (885, false, .if_icmp .eq 18, 3, 0, (903, 0, 0, 0), 0, []),
  (888, false, .iconst 0, 1, 0, (0, 0, 0, 0), 0, []),
  (889, false, .ireturn, 1, 0, (0, 0, 0, 0), 0, []),
  (890, false, .aload_n 1, 1, 0, (0, 0, 0, 0), 0, []),
  (891, false, .invokevirtual 114, 3, 784, (71, 1, 0, 0), 0, [5]),
  (894, false, .aload_n 2, 1, 0, (0, 0, 0, 0), 0, []),
  (895, false, .invokevirtual 117, 3, 1232, (167, 1, 0, 0), 0, [42]),
  (898, false, .if_icmp .eq 5, 3, 0, (903, 0, 0, 0), 0, []),
  (901, false, .iconst 0, 1, 0, (0, 0, 0, 0), 0, []),
  (902, false, .ireturn, 1, 0, (0, 0, 0, 0), 0, []),
  (903, false, .iinc 3 5, 3, 0, (0, 0, 0, 0), 0, []),
  (906, false, .goto (-888), 3, 0, (18, 0, 0, 0), 0, []),
  (909, false, .iconst 1, 1, 0, (0, 0, 0, 0), 0, []),
  (910, false, .ireturn, 1, 0, (0, 0, 0, 0), 0, [])]
noncomputable def l_law_867 (k18 : Int → zz_S → zz_R) (v3 : Int) (σ : zz_S) : zz_R := (if zz_b σ 0 1 (zz_r (v3 + 1)) then ((x_load (zz_h σ 0 1 (zz_r (v3 + 1))) σ).bind fun q1 => (if zz_b q1.2 0 1 (zz_r (v3 + 1)) then ((m_load (zz_h q1.2 0 1 (zz_r (v3 + 1))) q1.2).bind fun q2 => (if q1.1 = q2.1 then (k18 (zz_r (v3 + 5)) q2.2) else (some (0, q2.2)))) else none)) else none)
set_option maxRecDepth 100000 in
set_option maxHeartbeats 4000000 in
theorem ze_l_law_867 (k18 : Int → zz_S → zz_R) (v3 : Int) (σ : zz_S) : l_law_867 k18 v3 σ = zz_ev (zz_CE [(70, zw_x_load), (166, zw_m_load)]) (zz_KE [(18, [(0, 2, true), (1, 5, true), (2, 42, true), (3, 0, false)], fun vs σ => match vs with | [b0] => k18 b0 σ | _ => none)]) zk_l_law 0 true 0 2 400 true (zz_sk zk_l_law 867) [(0, 2, 1), (1, 5, 1), (2, 42, 1), (3, 0, v3)] [] σ := rfl
noncomputable def l_law_844 (k18 : Int → zz_S → zz_R) (v3 : Int) (σ : zz_S) : zz_R := (if zz_b σ 0 1 (zz_r (v3 + 1)) then ((x_idle (zz_h σ 0 1 (zz_r (v3 + 1))) σ).bind fun q1 => (if zz_b q1.2 0 1 (zz_r (v3 + 1)) then ((m_idle (zz_h q1.2 0 1 (zz_r (v3 + 1))) q1.2).bind fun q2 => (if q1.1 = q2.1 then (k18 (zz_r (v3 + 5)) q2.2) else (some (0, q2.2)))) else none)) else none)
set_option maxRecDepth 100000 in
set_option maxHeartbeats 4000000 in
theorem ze_l_law_844 (k18 : Int → zz_S → zz_R) (v3 : Int) (σ : zz_S) : l_law_844 k18 v3 σ = zz_ev (zz_CE [(69, zw_x_idle), (165, zw_m_idle)]) (zz_KE [(18, [(0, 2, true), (1, 5, true), (2, 42, true), (3, 0, false)], fun vs σ => match vs with | [b0] => k18 b0 σ | _ => none)]) zk_l_law 0 true 0 2 400 true (zz_sk zk_l_law 844) [(0, 2, 1), (1, 5, 1), (2, 42, 1), (3, 0, v3)] [] σ := rfl
noncomputable def l_law_811 (k18 : Int → zz_S → zz_R) (v3 : Int) (σ : zz_S) : zz_R := (if zz_b σ 0 1 (zz_r (v3 + 1)) then (if zz_b σ 0 1 (zz_r (v3 + 2)) then ((x_day (zz_h σ 0 1 (zz_r (v3 + 1))) (zz_h σ 0 1 (zz_r (v3 + 2))) σ).bind fun q1 => (if zz_b q1.2 0 1 (zz_r (v3 + 1)) then (if zz_b q1.2 0 1 (zz_r (v3 + 2)) then ((m_day (zz_h q1.2 0 1 (zz_r (v3 + 1))) (zz_h q1.2 0 1 (zz_r (v3 + 2))) q1.2).bind fun q2 => (if q1.1 = q2.1 then (k18 (zz_r (v3 + 5)) q2.2) else (some (0, q2.2)))) else none) else none)) else none) else none)
set_option maxRecDepth 100000 in
set_option maxHeartbeats 4000000 in
theorem ze_l_law_811 (k18 : Int → zz_S → zz_R) (v3 : Int) (σ : zz_S) : l_law_811 k18 v3 σ = zz_ev (zz_CE [(68, zw_x_day), (164, zw_m_day)]) (zz_KE [(18, [(0, 2, true), (1, 5, true), (2, 42, true), (3, 0, false)], fun vs σ => match vs with | [b0] => k18 b0 σ | _ => none)]) zk_l_law 0 true 0 2 400 true (zz_sk zk_l_law 811) [(0, 2, 1), (1, 5, 1), (2, 42, 1), (3, 0, v3)] [] σ := rfl
noncomputable def l_law_788 (k18 : Int → zz_S → zz_R) (v3 : Int) (σ : zz_S) : zz_R := (if zz_b σ 0 1 (zz_r (v3 + 1)) then ((x_cell (zz_h σ 0 1 (zz_r (v3 + 1))) σ).bind fun q1 => (if zz_b q1.2 0 1 (zz_r (v3 + 1)) then ((m_cell (zz_h q1.2 0 1 (zz_r (v3 + 1))) q1.2).bind fun q2 => (if q1.1 = q2.1 then (k18 (zz_r (v3 + 5)) q2.2) else (some (0, q2.2)))) else none)) else none)
set_option maxRecDepth 100000 in
set_option maxHeartbeats 4000000 in
theorem ze_l_law_788 (k18 : Int → zz_S → zz_R) (v3 : Int) (σ : zz_S) : l_law_788 k18 v3 σ = zz_ev (zz_CE [(67, zw_x_cell), (163, zw_m_cell)]) (zz_KE [(18, [(0, 2, true), (1, 5, true), (2, 42, true), (3, 0, false)], fun vs σ => match vs with | [b0] => k18 b0 σ | _ => none)]) zk_l_law 0 true 0 2 400 true (zz_sk zk_l_law 788) [(0, 2, 1), (1, 5, 1), (2, 42, 1), (3, 0, v3)] [] σ := rfl
noncomputable def l_law_765 (k18 : Int → zz_S → zz_R) (v3 : Int) (σ : zz_S) : zz_R := (if zz_b σ 0 1 (zz_r (v3 + 1)) then ((x_count (zz_h σ 0 1 (zz_r (v3 + 1))) σ).bind fun q1 => (if zz_b q1.2 0 1 (zz_r (v3 + 1)) then ((m_count (zz_h q1.2 0 1 (zz_r (v3 + 1))) q1.2).bind fun q2 => (if q1.1 = q2.1 then (k18 (zz_r (v3 + 5)) q2.2) else (some (0, q2.2)))) else none)) else none)
set_option maxRecDepth 100000 in
set_option maxHeartbeats 4000000 in
theorem ze_l_law_765 (k18 : Int → zz_S → zz_R) (v3 : Int) (σ : zz_S) : l_law_765 k18 v3 σ = zz_ev (zz_CE [(66, zw_x_count), (162, zw_m_count)]) (zz_KE [(18, [(0, 2, true), (1, 5, true), (2, 42, true), (3, 0, false)], fun vs σ => match vs with | [b0] => k18 b0 σ | _ => none)]) zk_l_law 0 true 0 2 400 true (zz_sk zk_l_law 765) [(0, 2, 1), (1, 5, 1), (2, 42, 1), (3, 0, v3)] [] σ := rfl
noncomputable def l_law_732 (k18 : Int → zz_S → zz_R) (v3 : Int) (σ : zz_S) : zz_R := (if zz_b σ 0 1 (zz_r (v3 + 1)) then (if zz_b σ 0 1 (zz_r (v3 + 2)) then ((x_book (zz_h σ 0 1 (zz_r (v3 + 1))) (zz_h σ 0 1 (zz_r (v3 + 2))) σ).bind fun q1 => (if zz_b q1.2 0 1 (zz_r (v3 + 1)) then (if zz_b q1.2 0 1 (zz_r (v3 + 2)) then ((m_book (zz_h q1.2 0 1 (zz_r (v3 + 1))) (zz_h q1.2 0 1 (zz_r (v3 + 2))) q1.2).bind fun q2 => (if q1.1 = q2.1 then (k18 (zz_r (v3 + 5)) q2.2) else (some (0, q2.2)))) else none) else none)) else none) else none)
set_option maxRecDepth 100000 in
set_option maxHeartbeats 4000000 in
theorem ze_l_law_732 (k18 : Int → zz_S → zz_R) (v3 : Int) (σ : zz_S) : l_law_732 k18 v3 σ = zz_ev (zz_CE [(65, zw_x_book), (161, zw_m_book)]) (zz_KE [(18, [(0, 2, true), (1, 5, true), (2, 42, true), (3, 0, false)], fun vs σ => match vs with | [b0] => k18 b0 σ | _ => none)]) zk_l_law 0 true 0 2 400 true (zz_sk zk_l_law 732) [(0, 2, 1), (1, 5, 1), (2, 42, 1), (3, 0, v3)] [] σ := rfl
noncomputable def l_law_699 (k18 : Int → zz_S → zz_R) (v3 : Int) (σ : zz_S) : zz_R := (if zz_b σ 0 1 (zz_r (v3 + 1)) then (if zz_b σ 0 1 (zz_r (v3 + 2)) then ((x_waiting (zz_h σ 0 1 (zz_r (v3 + 1))) (zz_h σ 0 1 (zz_r (v3 + 2))) σ).bind fun q1 => (if zz_b q1.2 0 1 (zz_r (v3 + 1)) then (if zz_b q1.2 0 1 (zz_r (v3 + 2)) then ((m_waiting (zz_h q1.2 0 1 (zz_r (v3 + 1))) (zz_h q1.2 0 1 (zz_r (v3 + 2))) q1.2).bind fun q2 => (if q1.1 = q2.1 then (k18 (zz_r (v3 + 5)) q2.2) else (some (0, q2.2)))) else none) else none)) else none) else none)
set_option maxRecDepth 100000 in
set_option maxHeartbeats 4000000 in
theorem ze_l_law_699 (k18 : Int → zz_S → zz_R) (v3 : Int) (σ : zz_S) : l_law_699 k18 v3 σ = zz_ev (zz_CE [(64, zw_x_waiting), (160, zw_m_waiting)]) (zz_KE [(18, [(0, 2, true), (1, 5, true), (2, 42, true), (3, 0, false)], fun vs σ => match vs with | [b0] => k18 b0 σ | _ => none)]) zk_l_law 0 true 0 2 400 true (zz_sk zk_l_law 699) [(0, 2, 1), (1, 5, 1), (2, 42, 1), (3, 0, v3)] [] σ := rfl
noncomputable def l_law_666 (k18 : Int → zz_S → zz_R) (v3 : Int) (σ : zz_S) : zz_R := (if zz_b σ 0 1 (zz_r (v3 + 1)) then (if zz_b σ 0 1 (zz_r (v3 + 2)) then ((x_next (zz_h σ 0 1 (zz_r (v3 + 1))) (zz_h σ 0 1 (zz_r (v3 + 2))) σ).bind fun q1 => (if zz_b q1.2 0 1 (zz_r (v3 + 1)) then (if zz_b q1.2 0 1 (zz_r (v3 + 2)) then ((m_next (zz_h q1.2 0 1 (zz_r (v3 + 1))) (zz_h q1.2 0 1 (zz_r (v3 + 2))) q1.2).bind fun q2 => (if q1.1 = q2.1 then (k18 (zz_r (v3 + 5)) q2.2) else (some (0, q2.2)))) else none) else none)) else none) else none)
set_option maxRecDepth 100000 in
set_option maxHeartbeats 4000000 in
theorem ze_l_law_666 (k18 : Int → zz_S → zz_R) (v3 : Int) (σ : zz_S) : l_law_666 k18 v3 σ = zz_ev (zz_CE [(61, zw_x_next), (159, zw_m_next)]) (zz_KE [(18, [(0, 2, true), (1, 5, true), (2, 42, true), (3, 0, false)], fun vs σ => match vs with | [b0] => k18 b0 σ | _ => none)]) zk_l_law 0 true 0 2 400 true (zz_sk zk_l_law 666) [(0, 2, 1), (1, 5, 1), (2, 42, 1), (3, 0, v3)] [] σ := rfl
noncomputable def l_law_633 (k18 : Int → zz_S → zz_R) (v3 : Int) (σ : zz_S) : zz_R := (if zz_b σ 0 1 (zz_r (v3 + 1)) then (if zz_b σ 0 1 (zz_r (v3 + 2)) then ((x_of (zz_h σ 0 1 (zz_r (v3 + 1))) (zz_h σ 0 1 (zz_r (v3 + 2))) σ).bind fun q1 => (if zz_b q1.2 0 1 (zz_r (v3 + 1)) then (if zz_b q1.2 0 1 (zz_r (v3 + 2)) then ((m_of (zz_h q1.2 0 1 (zz_r (v3 + 1))) (zz_h q1.2 0 1 (zz_r (v3 + 2))) q1.2).bind fun q2 => (if q1.1 = q2.1 then (k18 (zz_r (v3 + 5)) q2.2) else (some (0, q2.2)))) else none) else none)) else none) else none)
set_option maxRecDepth 100000 in
set_option maxHeartbeats 4000000 in
theorem ze_l_law_633 (k18 : Int → zz_S → zz_R) (v3 : Int) (σ : zz_S) : l_law_633 k18 v3 σ = zz_ev (zz_CE [(59, zw_x_of), (158, zw_m_of)]) (zz_KE [(18, [(0, 2, true), (1, 5, true), (2, 42, true), (3, 0, false)], fun vs σ => match vs with | [b0] => k18 b0 σ | _ => none)]) zk_l_law 0 true 0 2 400 true (zz_sk zk_l_law 633) [(0, 2, 1), (1, 5, 1), (2, 42, 1), (3, 0, v3)] [] σ := rfl
noncomputable def l_law_600 (k18 : Int → zz_S → zz_R) (v3 : Int) (σ : zz_S) : zz_R := (if zz_b σ 0 1 (zz_r (v3 + 1)) then (if zz_b σ 0 1 (zz_r (v3 + 2)) then ((x_run (zz_h σ 0 1 (zz_r (v3 + 1))) (zz_h σ 0 1 (zz_r (v3 + 2))) σ).bind fun q1 => (if zz_b q1.2 0 1 (zz_r (v3 + 1)) then (if zz_b q1.2 0 1 (zz_r (v3 + 2)) then ((m_run (zz_h q1.2 0 1 (zz_r (v3 + 1))) (zz_h q1.2 0 1 (zz_r (v3 + 2))) q1.2).bind fun q2 => (if q1.1 = q2.1 then (k18 (zz_r (v3 + 5)) q2.2) else (some (0, q2.2)))) else none) else none)) else none) else none)
set_option maxRecDepth 100000 in
set_option maxHeartbeats 4000000 in
theorem ze_l_law_600 (k18 : Int → zz_S → zz_R) (v3 : Int) (σ : zz_S) : l_law_600 k18 v3 σ = zz_ev (zz_CE [(58, zw_x_run), (157, zw_m_run)]) (zz_KE [(18, [(0, 2, true), (1, 5, true), (2, 42, true), (3, 0, false)], fun vs σ => match vs with | [b0] => k18 b0 σ | _ => none)]) zk_l_law 0 true 0 2 400 true (zz_sk zk_l_law 600) [(0, 2, 1), (1, 5, 1), (2, 42, 1), (3, 0, v3)] [] σ := rfl
noncomputable def l_law_564 (k18 : Int → zz_S → zz_R) (v3 : Int) (σ : zz_S) : zz_R := (if zz_b σ 0 1 (zz_r (v3 + 1)) then ((x_stop (zz_h σ 0 1 (zz_r (v3 + 1))) σ).bind fun q1 => (if zz_b q1.2 0 1 (zz_r (v3 + 1)) then ((m_stop (zz_h q1.2 0 1 (zz_r (v3 + 1))) q1.2).bind fun q2 => (if q1.1 = q2.1 then (k18 (zz_r (v3 + 5)) q2.2) else (some (0, q2.2)))) else none)) else none)
set_option maxRecDepth 100000 in
set_option maxHeartbeats 4000000 in
theorem ze_l_law_564 (k18 : Int → zz_S → zz_R) (v3 : Int) (σ : zz_S) : l_law_564 k18 v3 σ = zz_ev (zz_CE [(55, zw_x_stop), (155, zw_m_stop)]) (zz_KE [(18, [(0, 2, true), (1, 5, true), (2, 42, true), (3, 0, false)], fun vs σ => match vs with | [b0] => k18 b0 σ | _ => none)]) zk_l_law 0 true 0 2 400 true (zz_sk zk_l_law 564) [(0, 2, 1), (1, 5, 1), (2, 42, 1), (3, 0, v3)] [] σ := rfl
noncomputable def l_law_531 (k18 : Int → zz_S → zz_R) (v3 : Int) (σ : zz_S) : zz_R := (if zz_b σ 0 1 (zz_r (v3 + 1)) then (if zz_b σ 0 1 (zz_r (v3 + 2)) then ((x_cancel (zz_h σ 0 1 (zz_r (v3 + 1))) (zz_h σ 0 1 (zz_r (v3 + 2))) σ).bind fun q1 => (if zz_b q1.2 0 1 (zz_r (v3 + 1)) then (if zz_b q1.2 0 1 (zz_r (v3 + 2)) then ((m_cancel (zz_h q1.2 0 1 (zz_r (v3 + 1))) (zz_h q1.2 0 1 (zz_r (v3 + 2))) q1.2).bind fun q2 => (if q1.1 = q2.1 then (k18 (zz_r (v3 + 5)) q2.2) else (some (0, q2.2)))) else none) else none)) else none) else none)
set_option maxRecDepth 100000 in
set_option maxHeartbeats 4000000 in
theorem ze_l_law_531 (k18 : Int → zz_S → zz_R) (v3 : Int) (σ : zz_S) : l_law_531 k18 v3 σ = zz_ev (zz_CE [(51, zw_x_cancel), (154, zw_m_cancel)]) (zz_KE [(18, [(0, 2, true), (1, 5, true), (2, 42, true), (3, 0, false)], fun vs σ => match vs with | [b0] => k18 b0 σ | _ => none)]) zk_l_law 0 true 0 2 400 true (zz_sk zk_l_law 531) [(0, 2, 1), (1, 5, 1), (2, 42, 1), (3, 0, v3)] [] σ := rfl
noncomputable def l_law_508 (k18 : Int → zz_S → zz_R) (v3 : Int) (σ : zz_S) : zz_R := (if zz_b σ 0 1 (zz_r (v3 + 1)) then ((x_jump (zz_h σ 0 1 (zz_r (v3 + 1))) σ).bind fun q1 => (if zz_b q1.2 0 1 (zz_r (v3 + 1)) then ((m_jump (zz_h q1.2 0 1 (zz_r (v3 + 1))) q1.2).bind fun q2 => (if q1.1 = q2.1 then (k18 (zz_r (v3 + 5)) q2.2) else (some (0, q2.2)))) else none)) else none)
set_option maxRecDepth 100000 in
set_option maxHeartbeats 4000000 in
theorem ze_l_law_508 (k18 : Int → zz_S → zz_R) (v3 : Int) (σ : zz_S) : l_law_508 k18 v3 σ = zz_ev (zz_CE [(48, zw_x_jump), (153, zw_m_jump)]) (zz_KE [(18, [(0, 2, true), (1, 5, true), (2, 42, true), (3, 0, false)], fun vs σ => match vs with | [b0] => k18 b0 σ | _ => none)]) zk_l_law 0 true 0 2 400 true (zz_sk zk_l_law 508) [(0, 2, 1), (1, 5, 1), (2, 42, 1), (3, 0, v3)] [] σ := rfl
noncomputable def l_law_485 (k18 : Int → zz_S → zz_R) (v3 : Int) (σ : zz_S) : zz_R := (if zz_b σ 0 1 (zz_r (v3 + 1)) then ((x_clock (zz_h σ 0 1 (zz_r (v3 + 1))) σ).bind fun q1 => (if zz_b q1.2 0 1 (zz_r (v3 + 1)) then ((m_clock (zz_h q1.2 0 1 (zz_r (v3 + 1))) q1.2).bind fun q2 => (if q1.1 = q2.1 then (k18 (zz_r (v3 + 5)) q2.2) else (some (0, q2.2)))) else none)) else none)
set_option maxRecDepth 100000 in
set_option maxHeartbeats 4000000 in
theorem ze_l_law_485 (k18 : Int → zz_S → zz_R) (v3 : Int) (σ : zz_S) : l_law_485 k18 v3 σ = zz_ev (zz_CE [(24, zw_x_clock), (141, zw_m_clock)]) (zz_KE [(18, [(0, 2, true), (1, 5, true), (2, 42, true), (3, 0, false)], fun vs σ => match vs with | [b0] => k18 b0 σ | _ => none)]) zk_l_law 0 true 0 2 400 true (zz_sk zk_l_law 485) [(0, 2, 1), (1, 5, 1), (2, 42, 1), (3, 0, v3)] [] σ := rfl
noncomputable def l_law_429 (k18 : Int → zz_S → zz_R) (v3 : Int) (σ : zz_S) : zz_R := (if zz_b σ 0 1 (zz_r (v3 + 1)) then (if zz_b σ 0 1 (zz_r (v3 + 2)) then (if zz_b σ 0 1 (zz_r (v3 + 3)) then ((x_plan (zz_h σ 0 1 (zz_r (v3 + 1))) (zz_h σ 0 1 (zz_r (v3 + 2))) (zz_h σ 0 1 (zz_r (v3 + 3))) σ).bind fun q1 => (if zz_b q1.2 0 1 (zz_r (v3 + 1)) then (if zz_b q1.2 0 1 (zz_r (v3 + 2)) then (if zz_b q1.2 0 1 (zz_r (v3 + 3)) then ((m_plan (zz_h q1.2 0 1 (zz_r (v3 + 1))) (zz_h q1.2 0 1 (zz_r (v3 + 2))) (zz_h q1.2 0 1 (zz_r (v3 + 3))) q1.2).bind fun q2 => (if q1.1 = q2.1 then (k18 (zz_r (v3 + 5)) q2.2) else (some (0, q2.2)))) else none) else none) else none)) else none) else none) else none)
set_option maxRecDepth 100000 in
set_option maxHeartbeats 4000000 in
theorem ze_l_law_429 (k18 : Int → zz_S → zz_R) (v3 : Int) (σ : zz_S) : l_law_429 k18 v3 σ = zz_ev (zz_CE [(22, zw_x_plan), (151, zw_m_plan)]) (zz_KE [(18, [(0, 2, true), (1, 5, true), (2, 42, true), (3, 0, false)], fun vs σ => match vs with | [b0] => k18 b0 σ | _ => none)]) zk_l_law 0 true 0 2 400 true (zz_sk zk_l_law 429) [(0, 2, 1), (1, 5, 1), (2, 42, 1), (3, 0, v3)] [] σ := rfl
noncomputable def l_law_386 (k18 : Int → zz_S → zz_R) (v3 : Int) (σ : zz_S) : zz_R := (if zz_b σ 0 1 (zz_r (v3 + 1)) then (if zz_b σ 0 1 (zz_r (v3 + 2)) then (if zz_b σ 0 1 (zz_r (v3 + 3)) then ((x_after (zz_h σ 0 1 (zz_r (v3 + 1))) (zz_h σ 0 1 (zz_r (v3 + 2))) (zz_h σ 0 1 (zz_r (v3 + 3))) σ).bind fun q1 => (if zz_b q1.2 0 1 (zz_r (v3 + 1)) then (if zz_b q1.2 0 1 (zz_r (v3 + 2)) then (if zz_b q1.2 0 1 (zz_r (v3 + 3)) then ((m_after (zz_h q1.2 0 1 (zz_r (v3 + 1))) (zz_h q1.2 0 1 (zz_r (v3 + 2))) (zz_h q1.2 0 1 (zz_r (v3 + 3))) q1.2).bind fun q2 => (if q1.1 = q2.1 then (k18 (zz_r (v3 + 5)) q2.2) else (some (0, q2.2)))) else none) else none) else none)) else none) else none) else none)
set_option maxRecDepth 100000 in
set_option maxHeartbeats 4000000 in
theorem ze_l_law_386 (k18 : Int → zz_S → zz_R) (v3 : Int) (σ : zz_S) : l_law_386 k18 v3 σ = zz_ev (zz_CE [(19, zw_x_after), (150, zw_m_after)]) (zz_KE [(18, [(0, 2, true), (1, 5, true), (2, 42, true), (3, 0, false)], fun vs σ => match vs with | [b0] => k18 b0 σ | _ => none)]) zk_l_law 0 true 0 2 400 true (zz_sk zk_l_law 386) [(0, 2, 1), (1, 5, 1), (2, 42, 1), (3, 0, v3)] [] σ := rfl
noncomputable def l_law_333 (k18 : Int → zz_S → zz_R) (v3 : Int) (σ : zz_S) : zz_R := (if zz_b σ 0 1 (zz_r (v3 + 1)) then (if zz_b σ 0 1 (zz_r (v3 + 2)) then (if zz_b σ 0 1 (zz_r (v3 + 3)) then (if zz_b σ 0 1 (zz_r (v3 + 4)) then ((x_body (zz_h σ 0 1 (zz_r (v3 + 1))) (zz_h σ 0 1 (zz_r (v3 + 2))) (zz_h σ 0 1 (zz_r (v3 + 3))) (zz_h σ 0 1 (zz_r (v3 + 4))) σ).bind fun q1 => (if zz_b q1.2 0 1 (zz_r (v3 + 1)) then (if zz_b q1.2 0 1 (zz_r (v3 + 2)) then (if zz_b q1.2 0 1 (zz_r (v3 + 3)) then (if zz_b q1.2 0 1 (zz_r (v3 + 4)) then ((m_body (zz_h q1.2 0 1 (zz_r (v3 + 1))) (zz_h q1.2 0 1 (zz_r (v3 + 2))) (zz_h q1.2 0 1 (zz_r (v3 + 3))) (zz_h q1.2 0 1 (zz_r (v3 + 4))) q1.2).bind fun q2 => (if q1.1 = q2.1 then (k18 (zz_r (v3 + 5)) q2.2) else (some (0, q2.2)))) else none) else none) else none) else none)) else none) else none) else none) else none)
set_option maxRecDepth 100000 in
set_option maxHeartbeats 4000000 in
theorem ze_l_law_333 (k18 : Int → zz_S → zz_R) (v3 : Int) (σ : zz_S) : l_law_333 k18 v3 σ = zz_ev (zz_CE [(18, zw_x_body), (148, zw_m_body)]) (zz_KE [(18, [(0, 2, true), (1, 5, true), (2, 42, true), (3, 0, false)], fun vs σ => match vs with | [b0] => k18 b0 σ | _ => none)]) zk_l_law 0 true 0 2 400 true (zz_sk zk_l_law 333) [(0, 2, 1), (1, 5, 1), (2, 42, 1), (3, 0, v3)] [] σ := rfl
noncomputable def l_law_280 (k18 : Int → zz_S → zz_R) (v3 : Int) (σ : zz_S) : zz_R := (if zz_b σ 0 1 (zz_r (v3 + 1)) then (if zz_b σ 0 1 (zz_r (v3 + 2)) then (if zz_b σ 0 1 (zz_r (v3 + 3)) then (if zz_b σ 0 1 (zz_r (v3 + 4)) then ((x_calendar (zz_h σ 0 1 (zz_r (v3 + 1))) (zz_h σ 0 1 (zz_r (v3 + 2))) (zz_h σ 0 1 (zz_r (v3 + 3))) (zz_h σ 0 1 (zz_r (v3 + 4))) σ).bind fun q1 => (if zz_b q1.2 0 1 (zz_r (v3 + 1)) then (if zz_b q1.2 0 1 (zz_r (v3 + 2)) then (if zz_b q1.2 0 1 (zz_r (v3 + 3)) then (if zz_b q1.2 0 1 (zz_r (v3 + 4)) then ((m_calendar (zz_h q1.2 0 1 (zz_r (v3 + 1))) (zz_h q1.2 0 1 (zz_r (v3 + 2))) (zz_h q1.2 0 1 (zz_r (v3 + 3))) (zz_h q1.2 0 1 (zz_r (v3 + 4))) q1.2).bind fun q2 => (if q1.1 = q2.1 then (k18 (zz_r (v3 + 5)) q2.2) else (some (0, q2.2)))) else none) else none) else none) else none)) else none) else none) else none) else none)
set_option maxRecDepth 100000 in
set_option maxHeartbeats 4000000 in
theorem ze_l_law_280 (k18 : Int → zz_S → zz_R) (v3 : Int) (σ : zz_S) : l_law_280 k18 v3 σ = zz_ev (zz_CE [(17, zw_x_calendar), (147, zw_m_calendar)]) (zz_KE [(18, [(0, 2, true), (1, 5, true), (2, 42, true), (3, 0, false)], fun vs σ => match vs with | [b0] => k18 b0 σ | _ => none)]) zk_l_law 0 true 0 2 400 true (zz_sk zk_l_law 280) [(0, 2, 1), (1, 5, 1), (2, 42, 1), (3, 0, v3)] [] σ := rfl
noncomputable def l_law_237 (k18 : Int → zz_S → zz_R) (v3 : Int) (σ : zz_S) : zz_R := (if zz_b σ 0 1 (zz_r (v3 + 1)) then (if zz_b σ 0 1 (zz_r (v3 + 2)) then (if zz_b σ 0 1 (zz_r (v3 + 3)) then ((x_set (zz_h σ 0 1 (zz_r (v3 + 1))) (zz_h σ 0 1 (zz_r (v3 + 2))) (zz_h σ 0 1 (zz_r (v3 + 3))) σ).bind fun q1 => (if zz_b q1.2 0 1 (zz_r (v3 + 1)) then (if zz_b q1.2 0 1 (zz_r (v3 + 2)) then (if zz_b q1.2 0 1 (zz_r (v3 + 3)) then ((m_set (zz_h q1.2 0 1 (zz_r (v3 + 1))) (zz_h q1.2 0 1 (zz_r (v3 + 2))) (zz_h q1.2 0 1 (zz_r (v3 + 3))) q1.2).bind fun q2 => (if q1.1 = q2.1 then (k18 (zz_r (v3 + 5)) q2.2) else (some (0, q2.2)))) else none) else none) else none)) else none) else none) else none)
set_option maxRecDepth 100000 in
set_option maxHeartbeats 4000000 in
theorem ze_l_law_237 (k18 : Int → zz_S → zz_R) (v3 : Int) (σ : zz_S) : l_law_237 k18 v3 σ = zz_ev (zz_CE [(14, zw_x_set), (145, zw_m_set)]) (zz_KE [(18, [(0, 2, true), (1, 5, true), (2, 42, true), (3, 0, false)], fun vs σ => match vs with | [b0] => k18 b0 σ | _ => none)]) zk_l_law 0 true 0 2 400 true (zz_sk zk_l_law 237) [(0, 2, 1), (1, 5, 1), (2, 42, 1), (3, 0, v3)] [] σ := rfl
noncomputable def l_law_194 (k18 : Int → zz_S → zz_R) (v3 : Int) (σ : zz_S) : zz_R := (if zz_b σ 0 1 (zz_r (v3 + 1)) then (if zz_b σ 0 1 (zz_r (v3 + 2)) then (if zz_b σ 0 1 (zz_r (v3 + 3)) then ((x_task (zz_h σ 0 1 (zz_r (v3 + 1))) (zz_h σ 0 1 (zz_r (v3 + 2))) (zz_h σ 0 1 (zz_r (v3 + 3))) σ).bind fun q1 => (if zz_b q1.2 0 1 (zz_r (v3 + 1)) then (if zz_b q1.2 0 1 (zz_r (v3 + 2)) then (if zz_b q1.2 0 1 (zz_r (v3 + 3)) then ((m_task (zz_h q1.2 0 1 (zz_r (v3 + 1))) (zz_h q1.2 0 1 (zz_r (v3 + 2))) (zz_h q1.2 0 1 (zz_r (v3 + 3))) q1.2).bind fun q2 => (if q1.1 = q2.1 then (k18 (zz_r (v3 + 5)) q2.2) else (some (0, q2.2)))) else none) else none) else none)) else none) else none) else none)
set_option maxRecDepth 100000 in
set_option maxHeartbeats 4000000 in
theorem ze_l_law_194 (k18 : Int → zz_S → zz_R) (v3 : Int) (σ : zz_S) : l_law_194 k18 v3 σ = zz_ev (zz_CE [(13, zw_x_task), (144, zw_m_task)]) (zz_KE [(18, [(0, 2, true), (1, 5, true), (2, 42, true), (3, 0, false)], fun vs σ => match vs with | [b0] => k18 b0 σ | _ => none)]) zk_l_law 0 true 0 2 400 true (zz_sk zk_l_law 194) [(0, 2, 1), (1, 5, 1), (2, 42, 1), (3, 0, v3)] [] σ := rfl
noncomputable def l_law_171 (k18 : Int → zz_S → zz_R) (v3 : Int) (σ : zz_S) : zz_R := (if zz_b σ 0 1 (zz_r (v3 + 1)) then ((x_group (zz_h σ 0 1 (zz_r (v3 + 1))) σ).bind fun q1 => (if zz_b q1.2 0 1 (zz_r (v3 + 1)) then ((m_group (zz_h q1.2 0 1 (zz_r (v3 + 1))) q1.2).bind fun q2 => (if q1.1 = q2.1 then (k18 (zz_r (v3 + 5)) q2.2) else (some (0, q2.2)))) else none)) else none)
set_option maxRecDepth 100000 in
set_option maxHeartbeats 4000000 in
theorem ze_l_law_171 (k18 : Int → zz_S → zz_R) (v3 : Int) (σ : zz_S) : l_law_171 k18 v3 σ = zz_ev (zz_CE [(12, zw_x_group), (143, zw_m_group)]) (zz_KE [(18, [(0, 2, true), (1, 5, true), (2, 42, true), (3, 0, false)], fun vs σ => match vs with | [b0] => k18 b0 σ | _ => none)]) zk_l_law 0 true 0 2 400 true (zz_sk zk_l_law 171) [(0, 2, 1), (1, 5, 1), (2, 42, 1), (3, 0, v3)] [] σ := rfl
noncomputable def l_law_148 (k18 : Int → zz_S → zz_R) (v3 : Int) (σ : zz_S) : zz_R := (if zz_b σ 0 1 (zz_r (v3 + 1)) then ((x_workers (zz_h σ 0 1 (zz_r (v3 + 1))) σ).bind fun q1 => (if zz_b q1.2 0 1 (zz_r (v3 + 1)) then ((m_workers (zz_h q1.2 0 1 (zz_r (v3 + 1))) q1.2).bind fun q2 => (if q1.1 = q2.1 then (k18 (zz_r (v3 + 5)) q2.2) else (some (0, q2.2)))) else none)) else none)
set_option maxRecDepth 100000 in
set_option maxHeartbeats 4000000 in
theorem ze_l_law_148 (k18 : Int → zz_S → zz_R) (v3 : Int) (σ : zz_S) : l_law_148 k18 v3 σ = zz_ev (zz_CE [(11, zw_x_workers), (142, zw_m_workers)]) (zz_KE [(18, [(0, 2, true), (1, 5, true), (2, 42, true), (3, 0, false)], fun vs σ => match vs with | [b0] => k18 b0 σ | _ => none)]) zk_l_law 0 true 0 2 400 true (zz_sk zk_l_law 148) [(0, 2, 1), (1, 5, 1), (2, 42, 1), (3, 0, v3)] [] σ := rfl
noncomputable def l_law_18 : Nat → Int → zz_S → zz_R
  | 0, _, _ => none
  | n + 1, v3, σ => (if v3 ≤ (zz_r ((zz_al σ 0 1) - 5)) then (if zz_b σ 0 1 v3 then (if (zz_and (zz_h σ 0 1 v3) 31) = 0 then (l_law_148 (l_law_18 n) v3 σ) else (if (zz_and (zz_h σ 0 1 v3) 31) = 1 then (l_law_171 (l_law_18 n) v3 σ) else (if (zz_and (zz_h σ 0 1 v3) 31) = 2 then (l_law_194 (l_law_18 n) v3 σ) else (if (zz_and (zz_h σ 0 1 v3) 31) = 3 then (l_law_237 (l_law_18 n) v3 σ) else (if (zz_and (zz_h σ 0 1 v3) 31) = 4 then (l_law_280 (l_law_18 n) v3 σ) else (if (zz_and (zz_h σ 0 1 v3) 31) = 5 then (l_law_333 (l_law_18 n) v3 σ) else (if (zz_and (zz_h σ 0 1 v3) 31) = 6 then (l_law_386 (l_law_18 n) v3 σ) else (if (zz_and (zz_h σ 0 1 v3) 31) = 7 then (l_law_429 (l_law_18 n) v3 σ) else (if (zz_and (zz_h σ 0 1 v3) 31) = 8 then ((x_clearPlan σ).bind fun q5 => ((m_clearPlan q5.2).bind fun q6 => (if q5.1 = q6.1 then (l_law_18 n (zz_r (v3 + 5)) q6.2) else (some (0, q6.2))))) else (if (zz_and (zz_h σ 0 1 v3) 31) = 9 then (l_law_485 (l_law_18 n) v3 σ) else (if (zz_and (zz_h σ 0 1 v3) 31) = 10 then (l_law_508 (l_law_18 n) v3 σ) else (if (zz_and (zz_h σ 0 1 v3) 31) = 11 then (l_law_531 (l_law_18 n) v3 σ) else (if (zz_and (zz_h σ 0 1 v3) 31) = 12 then (l_law_564 (l_law_18 n) v3 σ) else (if (zz_and (zz_h σ 0 1 v3) 31) = 13 then ((x_go σ).bind fun q3 => ((m_go q3.2).bind fun q4 => (if q3.1 = q4.1 then (l_law_18 n (zz_r (v3 + 5)) q4.2) else (some (0, q4.2))))) else (if (zz_and (zz_h σ 0 1 v3) 31) = 14 then (l_law_600 (l_law_18 n) v3 σ) else (if (zz_and (zz_h σ 0 1 v3) 31) = 15 then (l_law_633 (l_law_18 n) v3 σ) else (if (zz_and (zz_h σ 0 1 v3) 31) = 16 then (l_law_666 (l_law_18 n) v3 σ) else (if (zz_and (zz_h σ 0 1 v3) 31) = 17 then (l_law_699 (l_law_18 n) v3 σ) else (if (zz_and (zz_h σ 0 1 v3) 31) = 18 then (l_law_732 (l_law_18 n) v3 σ) else (if (zz_and (zz_h σ 0 1 v3) 31) = 19 then (l_law_765 (l_law_18 n) v3 σ) else (if (zz_and (zz_h σ 0 1 v3) 31) = 20 then (l_law_788 (l_law_18 n) v3 σ) else (if (zz_and (zz_h σ 0 1 v3) 31) = 21 then (l_law_811 (l_law_18 n) v3 σ) else (if (zz_and (zz_h σ 0 1 v3) 31) = 22 then (l_law_844 (l_law_18 n) v3 σ) else (if (zz_and (zz_h σ 0 1 v3) 31) = 23 then (l_law_867 (l_law_18 n) v3 σ) else (if (zz_and (zz_h σ 0 1 v3) 31) = 24 then ((x_quiet σ).bind fun q1 => ((m_quiet q1.2).bind fun q2 => (if q1.1 = q2.1 then (l_law_18 n (zz_r (v3 + 5)) q2.2) else (some (0, q2.2))))) else (l_law_18 n (zz_r (v3 + 5)) σ)))))))))))))))))))))))))) else none) else (some (1, σ)))
set_option maxRecDepth 100000 in
set_option maxHeartbeats 4000000 in
theorem ze_l_law_18 (n : Nat) (v3 : Int) (σ : zz_S) : l_law_18 (n + 1) v3 σ = zz_ev (zz_CE [(23, zw_x_clearPlan), (57, zw_x_go), (71, zw_x_quiet), (152, zw_m_clearPlan), (156, zw_m_go), (167, zw_m_quiet)]) (zz_KE [(18, [(0, 2, true), (1, 5, true), (2, 42, true), (3, 0, false)], fun vs σ => match vs with | [b0] => l_law_18 n b0 σ | _ => none), (148, [(0, 2, true), (1, 5, true), (2, 42, true), (3, 0, false)], fun vs σ => match vs with | [b0] => l_law_148 (l_law_18 n) b0 σ | _ => none), (171, [(0, 2, true), (1, 5, true), (2, 42, true), (3, 0, false)], fun vs σ => match vs with | [b0] => l_law_171 (l_law_18 n) b0 σ | _ => none), (194, [(0, 2, true), (1, 5, true), (2, 42, true), (3, 0, false)], fun vs σ => match vs with | [b0] => l_law_194 (l_law_18 n) b0 σ | _ => none), (237, [(0, 2, true), (1, 5, true), (2, 42, true), (3, 0, false)], fun vs σ => match vs with | [b0] => l_law_237 (l_law_18 n) b0 σ | _ => none), (280, [(0, 2, true), (1, 5, true), (2, 42, true), (3, 0, false)], fun vs σ => match vs with | [b0] => l_law_280 (l_law_18 n) b0 σ | _ => none), (333, [(0, 2, true), (1, 5, true), (2, 42, true), (3, 0, false)], fun vs σ => match vs with | [b0] => l_law_333 (l_law_18 n) b0 σ | _ => none), (386, [(0, 2, true), (1, 5, true), (2, 42, true), (3, 0, false)], fun vs σ => match vs with | [b0] => l_law_386 (l_law_18 n) b0 σ | _ => none), (429, [(0, 2, true), (1, 5, true), (2, 42, true), (3, 0, false)], fun vs σ => match vs with | [b0] => l_law_429 (l_law_18 n) b0 σ | _ => none), (485, [(0, 2, true), (1, 5, true), (2, 42, true), (3, 0, false)], fun vs σ => match vs with | [b0] => l_law_485 (l_law_18 n) b0 σ | _ => none), (508, [(0, 2, true), (1, 5, true), (2, 42, true), (3, 0, false)], fun vs σ => match vs with | [b0] => l_law_508 (l_law_18 n) b0 σ | _ => none), (531, [(0, 2, true), (1, 5, true), (2, 42, true), (3, 0, false)], fun vs σ => match vs with | [b0] => l_law_531 (l_law_18 n) b0 σ | _ => none), (564, [(0, 2, true), (1, 5, true), (2, 42, true), (3, 0, false)], fun vs σ => match vs with | [b0] => l_law_564 (l_law_18 n) b0 σ | _ => none), (600, [(0, 2, true), (1, 5, true), (2, 42, true), (3, 0, false)], fun vs σ => match vs with | [b0] => l_law_600 (l_law_18 n) b0 σ | _ => none), (633, [(0, 2, true), (1, 5, true), (2, 42, true), (3, 0, false)], fun vs σ => match vs with | [b0] => l_law_633 (l_law_18 n) b0 σ | _ => none), (666, [(0, 2, true), (1, 5, true), (2, 42, true), (3, 0, false)], fun vs σ => match vs with | [b0] => l_law_666 (l_law_18 n) b0 σ | _ => none), (699, [(0, 2, true), (1, 5, true), (2, 42, true), (3, 0, false)], fun vs σ => match vs with | [b0] => l_law_699 (l_law_18 n) b0 σ | _ => none), (732, [(0, 2, true), (1, 5, true), (2, 42, true), (3, 0, false)], fun vs σ => match vs with | [b0] => l_law_732 (l_law_18 n) b0 σ | _ => none), (765, [(0, 2, true), (1, 5, true), (2, 42, true), (3, 0, false)], fun vs σ => match vs with | [b0] => l_law_765 (l_law_18 n) b0 σ | _ => none), (788, [(0, 2, true), (1, 5, true), (2, 42, true), (3, 0, false)], fun vs σ => match vs with | [b0] => l_law_788 (l_law_18 n) b0 σ | _ => none), (811, [(0, 2, true), (1, 5, true), (2, 42, true), (3, 0, false)], fun vs σ => match vs with | [b0] => l_law_811 (l_law_18 n) b0 σ | _ => none), (844, [(0, 2, true), (1, 5, true), (2, 42, true), (3, 0, false)], fun vs σ => match vs with | [b0] => l_law_844 (l_law_18 n) b0 σ | _ => none), (867, [(0, 2, true), (1, 5, true), (2, 42, true), (3, 0, false)], fun vs σ => match vs with | [b0] => l_law_867 (l_law_18 n) b0 σ | _ => none)]) zk_l_law 0 true 0 2 400 true (zz_sk zk_l_law 18) [(0, 2, 1), (1, 5, 1), (2, 42, 1), (3, 0, v3)] [] σ := rfl
noncomputable def l_law (σ : zz_S) : zz_R := (let s1 := zz_n σ 3 0 20; ((x_new (zz_c σ 3 + 1) s1).bind fun q2 => (let s3 := zz_n q2.2 40 0 67; ((m_new (zz_c q2.2 40 + 1) s3).bind fun q4 => (if (zz_c σ 3 + 1) = 1 then (if (zz_c q2.2 40 + 1) = 1 then (l_law_18 zz_fu 0 q4.2) else none) else none)))))
set_option maxRecDepth 100000 in
set_option maxHeartbeats 4000000 in
theorem ze_l_law (σ : zz_S) : l_law σ = zz_ev (zz_CE [(10, zw_x_new), (107, zw_m_new)]) (zz_KE [(18, [(0, 2, true), (1, 5, true), (2, 42, true), (3, 0, false)], fun vs σ => match vs with | [b0] => l_law_18 zz_fu b0 σ | _ => none)]) zk_l_law 0 true 0 2 400 true (zz_sk zk_l_law 0) [(0, 2, 1)] [] σ := rfl
noncomputable def zw_l_law : List Int → zz_S → zz_R := fun vs σ => match vs with
  | [a0] => if a0 = 1 then l_law σ else none
  | _ => none
end
