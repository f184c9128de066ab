def zz_len : Nat → Nat := fun k => [0, 13, 9, 20, 4, 4, 4, 20, 8, 3, 11, 60, 2000, 8, 8, 8, 8, 8, 60, 100, 100, 100, 300, 300, 300, 40, 40, 40, 6, 4, 4, 0, 0, 0, 0, 0, 0, 0, 0, 0, 67, 8, 8, 8, 60, 60, 60, 60, 60, 60, 60, 60, 60, 60, 60, 60, 60, 60, 60, 60, 60, 60, 60, 60, 60, 240, 240, 240, 60, 240, 240, 40, 40, 40, 8, 2000, 2000, 2000, 2000, 2000, 2000, 2000, 2000, 2000, 2000, 100, 100, 100, 300, 300, 300, 60].getD k 0
/-- 0 an object, 1 ints, 2 booleans, 3 references -/
def zz_ar : Nat → Nat := fun k => [1, 1, 1, 0, 0, 0, 0, 0, 0, 0, 0, 3, 3, 3, 1, 1, 2, 1, 1, 3, 1, 2, 1, 1, 1, 1, 1, 1, 1, 1, 1, 9, 9, 9, 9, 9, 9, 9, 9, 9, 0, 1, 1, 1, 1, 1, 1, 1, 1, 1, 1, 1, 1, 1, 1, 1, 1, 1, 1, 1, 1, 1, 2, 2, 1, 1, 1, 1, 1, 1, 1, 1, 1, 1, 1, 1, 1, 1, 1, 1, 1, 1, 1, 1, 1, 1, 1, 2, 1, 1, 1, 2].getD k 0
def zz_et : Nat → Nat := fun k => [0, 0, 0, 0, 0, 0, 0, 0, 0, 0, 0, 9, 12, 12, 0, 0, 0, 0, 0, 9, 0, 0, 0, 0, 0, 0, 0, 0, 0, 0, 0, 0, 0, 0, 0, 0, 0, 0, 0, 0, 0, 0, 0, 0, 0, 0, 0, 0, 0, 0, 0, 0, 0, 0, 0, 0, 0, 0, 0, 0, 0, 0, 0, 0, 0, 0, 0, 0, 0, 0, 0, 0, 0, 0, 0, 0, 0, 0, 0, 0, 0, 0, 0, 0, 0, 0, 0, 0, 0, 0, 0, 0].getD k 0
def zz_ty : Nat → List Nat := fun k => match k with
  | 3 => [13, 14, 15, 6, 7, 8, 16, 17, 18, 19, 20, 0, 0, 0, 0, 0, 0, 0, 0, 0]
  | 4 => [21, 22, 23, 0]
  | 5 => [24, 25, 26, 0]
  | 6 => [27, 28, 29, 0]
  | 7 => [0, 0, 0, 0, 30, 10, 11, 0, 0, 0, 0, 0, 0, 0, 0, 0, 0, 0, 0, 0]
  | 8 => [0, 1, 0, 0, 0, 0, 0, 0]
  | 9 => [31, 32, 0]
  | 10 => [0, 9, 0, 0, 0, 0, 0, 0, 0, 0, 0]
  | 40 => [0, 0, 0, 0, 0, 43, 44, 0, 45, 0, 46, 47, 48, 49, 50, 51, 52, 53, 54, 55, 56, 57, 58, 59, 60, 61, 62, 63, 64, 65, 66, 67, 68, 69, 70, 71, 72, 0, 73, 74, 75, 76, 0, 77, 78, 79, 80, 81, 82, 83, 84, 85, 86, 0, 87, 88, 89, 0, 90, 91, 92, 93, 0, 0, 0, 0, 0]
  | _ => []
def zz_own : Nat → List (Nat × Nat) := fun k => match k with
  | 3 => [(0, 11), (1, 12), (2, 13), (3, 4), (4, 5), (5, 6), (6, 14), (7, 15), (8, 16), (9, 17), (10, 18)]
  | 4 => [(0, 19), (1, 20), (2, 21)]
  | 5 => [(0, 22), (1, 23), (2, 24)]
  | 6 => [(0, 25), (1, 26), (2, 27)]
  | 7 => [(4, 28), (5, 8), (6, 9)]
  | 9 => [(0, 29), (1, 30)]
  | 40 => [(5, 41), (6, 42), (8, 43), (10, 44), (11, 45), (12, 46), (13, 47), (14, 48), (15, 49), (16, 50), (17, 51), (18, 52), (19, 53), (20, 54), (21, 55), (22, 56), (23, 57), (24, 58), (25, 59), (26, 60), (27, 61), (28, 62), (29, 63), (30, 64), (31, 65), (32, 66), (33, 67), (34, 68), (35, 69), (36, 70), (38, 71), (39, 72), (40, 73), (41, 74), (43, 75), (44, 76), (45, 77), (46, 78), (47, 79), (48, 80), (49, 81), (50, 82), (51, 83), (52, 84), (54, 85), (55, 86), (56, 87), (58, 88), (59, 89), (60, 90), (61, 91)]
  | _ => []
/-- which half of the heap a kind belongs to: 0 the class, 1 the reference, 3 neither (only read) -/
def zz_sd (k : Nat) : Nat := cond (Nat.ble k 2) 3 (cond (Nat.ble k 30) 0 1)
/-! THE ABSTRACT MACHINE: a typed heap (kind, number, slot) of whole numbers, and an evaluator of the instructions over it.
    A state: how many cells and slots were made; how many objects of a kind there are, and how many of them are complete; what the slots hold. -/
abbrev zz_S : Type := (Nat × Nat) × ((Nat → Int) × (Nat → Int)) × (Nat → Int → Int → Int)
abbrev zz_V : Type := Nat × Int
abbrev zz_R : Type := Option (Int × zz_S)
abbrev zz_E : Type := Nat × Bool × Instr × Nat × Nat × (Nat × Nat × Nat × Nat) × Int × List Nat
def zz_nc (σ : zz_S) : Nat := σ.1.1
def zz_ns (σ : zz_S) : Nat := σ.1.2
def zz_c (σ : zz_S) (k : Nat) : Int := σ.2.1.1 k
def zz_m (σ : zz_S) (k : Nat) : Int := σ.2.1.2 k
def zz_h (σ : zz_S) (k : Nat) (i j : Int) : Int := σ.2.2 k i j
def zz_w (σ : zz_S) (k : Nat) (i j v : Int) : zz_S := (σ.1, σ.2.1, fun k' i' j' => if k' = k ∧ i' = i ∧ j' = j then v else σ.2.2 k' i' j')
/-- a new array (b = 1: complete at once) or object (b = 0) of the kind k with n slots -/
def zz_n (σ : zz_S) (k : Nat) (b : Int) (n : Nat) : zz_S := ((σ.1.1 + 1, σ.1.2 + n), (fun k' => if k' = k then σ.2.1.1 k + 1 else σ.2.1.1 k', fun k' => if k' = k then σ.2.1.2 k + b else σ.2.1.2 k'), fun k' i' j' => if k' = k ∧ i' = σ.2.1.1 k + 1 then 0 else σ.2.2 k' i' j')
/-- the youngest object of a kind is complete -/
def zz_f (σ : zz_S) (k : Nat) : zz_S := (σ.1, (σ.2.1.1, fun k' => if k' = k then σ.2.1.2 k + 1 else σ.2.1.2 k'), σ.2.2)
-- numbers
def zz_r (z : Int) : Int := (Int32.ofInt z).toInt
def zz_and (x y : Int) : Int := (Int32.ofInt x &&& Int32.ofInt y).toInt
def zz_or (x y : Int) : Int := (Int32.ofInt x ||| Int32.ofInt y).toInt
def zz_xor (x y : Int) : Int := (Int32.ofInt x ^^^ Int32.ofInt y).toInt
def zz_shl (x y : Int) : Int := (Int32.ofInt x <<< (Int32.ofInt y &&& 31)).toInt
def zz_shr (x y : Int) : Int := (Int32.ofInt x >>> (Int32.ofInt y &&& 31)).toInt
def zz_div (x y : Int) : Int := (Int32.ofInt x / Int32.ofInt y).toInt
def zz_rem (x y : Int) : Int := (Int32.ofInt x - Int32.ofInt x / Int32.ofInt y * Int32.ofInt y).toInt
def zz_land (x y : Int) : Int := (Int64.ofInt x &&& Int64.ofInt y).toInt
def zz_lshl (x y : Int) : Int := (Int64.ofInt x <<< ((Int32.ofInt y).toInt64 &&& 63)).toInt
def zz_lshr (x y : Int) : Int := (Int64.ofInt x >>> ((Int32.ofInt y).toInt64 &&& 63)).toInt
def zz_lc (x y : Int) : Int := if x < y then -1 else if x = y then 0 else 1
/-- length of an array: of the script (kind 0) it stands in its place -1 -/
def zz_al (σ : zz_S) (k : Nat) (x : Int) : Int := if k = 0 then zz_h σ 0 1 (-1) else (zz_len k : Int)
abbrev zz_b (σ : zz_S) (k : Nat) (x j : Int) : Prop := 0 ≤ j ∧ j < zz_al σ k x
abbrev zz_o (v : Int) : Prop := v = 0 ∨ v = 1
-- stack and locals
def zz_i1 (sk : List zz_V) (f : Int → List zz_V → zz_R) : zz_R := match sk with
  | [] => none
  | (t, x) :: r => cond (Nat.beq t 0) (f x r) none
def zz_i2 (sk : List zz_V) (f : Int → Int → List zz_V → zz_R) : zz_R := zz_i1 sk fun y r => zz_i1 r fun x r => f x y r
def zz_a1 (u : Nat) (sk : List zz_V) (f : Int → List zz_V → zz_R) : zz_R := match sk with
  | [] => none
  | (t, x) :: r => cond (Nat.beq t u) (f x r) none
def zz_lk : List (Nat × zz_V) → Nat → zz_V
  | [], _ => (1, 0)
  | (j, v) :: r, i => cond (Nat.beq j i) v (zz_lk r i)
def zz_sw (J : Nat → zz_R) (x : Int) (d : Nat) : Int → List Nat → zz_R
  | _, [] => J d
  | k, o :: os => if x = k then J o else zz_sw J x d (k + 1) os
def zz_sk : List zz_E → Nat → List zz_E
  | [], _ => []
  | e :: es, q => cond (Nat.beq e.1 q) (e :: es) (zz_sk es q)
/-- the arguments that lie on the stack, the last one on top, by their tags (from the last to the first) -/
def zz_ta : List Nat → List zz_V → List Int → Option (List Int × List zz_V)
  | [], sk, vs => some (vs, sk)
  | _ :: _, [], _ => none
  | u :: us, (t, x) :: sk, vs => cond (Nat.beq t u || (Nat.beq t 3000 && (Nat.ble 2 u && Nat.ble u 999))) (zz_ta us sk (x :: vs)) none
/-- an object is complete: its raw references become plain ones -/
def zz_un (t : Nat) : List zz_V → List zz_V
  | [] => []
  | (u, x) :: r => (cond (Nat.beq u t) (t - 998) u, x) :: zz_un t r
def zz_ow (σ : zz_S) (k : Nat) (x : Int) : List (Nat × Nat) → Bool
  | [] => true
  | q :: r => decide (zz_h σ k x q.1 = x) && zz_ow σ k x r
/-- what is stored in a slot with the tag t (z: a boolean one) -/
def zz_st (t : Nat) (z : Int) (u : Nat) (w : Int) (K : zz_R) : zz_R := cond (Nat.beq u t) (if z = 1 then (if zz_o w then K else none) else K) none
/-- THE EVALUATOR. CE: the methods; KE: the places at which it stops; cs: the whole code; rt, rb: the tag of the answer, and whether it is a boolean; th: in a constructor the kind of what is made, else 0; sd: which half of the heap may be written. -/
def zz_ev (CE : Nat → List Int → zz_S → zz_R) (KE : Nat → List (Nat × zz_V) → List zz_V → zz_S → zz_R) (cs : List zz_E) (rt : Nat) (rb : Bool) (th sd : Nat) : Nat → Bool → List zz_E → List (Nat × zz_V) → List zz_V → zz_S → zz_R
  | 0, _, _, _, _, _ => none
  | _ + 1, _, [], _, _, _ => none
  | n + 1, fst, (pc, ct, ins, _, _, (a, b, t, o), v, tg) :: es, ls, sk, σ =>
    cond (ct && !fst) (KE pc ls sk σ) (match ins with
    | .aconst_null => zz_ev CE KE cs rt rb th sd n false es ls ((3000, 0) :: sk) σ
    | .iconst i => zz_ev CE KE cs rt rb th sd n false es ls ((0, i) :: sk) σ
    | .bipush i => zz_ev CE KE cs rt rb th sd n false es ls ((0, i) :: sk) σ
    | .sipush i => zz_ev CE KE cs rt rb th sd n false es ls ((0, i) :: sk) σ
    | .lconst _ => zz_ev CE KE cs rt rb th sd n false es ls ((1, v) :: sk) σ
    | .ldc _ => zz_ev CE KE cs rt rb th sd n false es ls ((0, v) :: sk) σ
    | .ldc_w _ => zz_ev CE KE cs rt rb th sd n false es ls ((0, v) :: sk) σ
    | .ldc2_w _ => zz_ev CE KE cs rt rb th sd n false es ls ((1, v) :: sk) σ
    | .iload i => (match zz_lk ls i with | (u, x) => cond (Nat.beq u 0) (zz_ev CE KE cs rt rb th sd n false es ls ((0, x) :: sk) σ) none)
    | .iload_n i => (match zz_lk ls i.val with | (u, x) => cond (Nat.beq u 0) (zz_ev CE KE cs rt rb th sd n false es ls ((0, x) :: sk) σ) none)
    | .aload i => (match zz_lk ls i with | (u, x) => cond (Nat.ble 2 u) (zz_ev CE KE cs rt rb th sd n false es ls ((u, x) :: sk) σ) none)
    | .aload_n i => (match zz_lk ls i.val with | (u, x) => cond (Nat.ble 2 u) (zz_ev CE KE cs rt rb th sd n false es ls ((u, x) :: sk) σ) none)
    | .istore i => zz_i1 sk fun x r => zz_ev CE KE cs rt rb th sd n false es ((i, 0, x) :: ls) r σ
    | .istore_n i => zz_i1 sk fun x r => zz_ev CE KE cs rt rb th sd n false es ((i.val, 0, x) :: ls) r σ
    | .astore i => (match sk with | [] => none | (u, x) :: r => cond (Nat.ble 2 u) (zz_ev CE KE cs rt rb th sd n false es ((i, u, x) :: ls) r σ) none)
    | .astore_n i => (match sk with | [] => none | (u, x) :: r => cond (Nat.ble 2 u) (zz_ev CE KE cs rt rb th sd n false es ((i.val, u, x) :: ls) r σ) none)
    | .iinc i c => (match zz_lk ls i with | (u, x) => cond (Nat.beq u 0) (zz_ev CE KE cs rt rb th sd n false es ((i, 0, zz_r (x + c)) :: ls) sk σ) none)
    | .iadd => zz_i2 sk fun x y r => zz_ev CE KE cs rt rb th sd n false es ls ((0, zz_r (x + y)) :: r) σ
    | .isub => zz_i2 sk fun x y r => zz_ev CE KE cs rt rb th sd n false es ls ((0, zz_r (x - y)) :: r) σ
    | .imul => zz_i2 sk fun x y r => zz_ev CE KE cs rt rb th sd n false es ls ((0, zz_r (x * y)) :: r) σ
    | .idiv => zz_i2 sk fun x y r => if y = 0 then none else zz_ev CE KE cs rt rb th sd n false es ls ((0, zz_div x y) :: r) σ
    | .irem => zz_i2 sk fun x y r => if y = 0 then none else zz_ev CE KE cs rt rb th sd n false es ls ((0, zz_rem x y) :: r) σ
    | .iand => zz_i2 sk fun x y r => zz_ev CE KE cs rt rb th sd n false es ls ((0, zz_and x y) :: r) σ
    | .ior => zz_i2 sk fun x y r => zz_ev CE KE cs rt rb th sd n false es ls ((0, zz_or x y) :: r) σ
    | .ixor => zz_i2 sk fun x y r => zz_ev CE KE cs rt rb th sd n false es ls ((0, zz_xor x y) :: r) σ
    | .ishl => zz_i2 sk fun x y r => zz_ev CE KE cs rt rb th sd n false es ls ((0, zz_shl x y) :: r) σ
    | .ishr => zz_i2 sk fun x y r => zz_ev CE KE cs rt rb th sd n false es ls ((0, zz_shr x y) :: r) σ
    | .land => zz_a1 1 sk fun y r => zz_a1 1 r fun x r => zz_ev CE KE cs rt rb th sd n false es ls ((1, zz_land x y) :: r) σ
    | .lshl => zz_i1 sk fun y r => zz_a1 1 r fun x r => zz_ev CE KE cs rt rb th sd n false es ls ((1, zz_lshl x y) :: r) σ
    | .lshr => zz_i1 sk fun y r => zz_a1 1 r fun x r => zz_ev CE KE cs rt rb th sd n false es ls ((1, zz_lshr x y) :: r) σ
    | .lcmp => zz_a1 1 sk fun y r => zz_a1 1 r fun x r => zz_ev CE KE cs rt rb th sd n false es ls ((0, zz_lc x y) :: r) σ
    | .dup => (match sk with | (t1, x1) :: r => cond (Nat.beq t1 1) none (zz_ev CE KE cs rt rb th sd n false es ls ((t1, x1) :: (t1, x1) :: r) σ) | _ => none)
    | .dup_x1 => (match sk with | (t1, x1) :: (t2, x2) :: r => cond (Nat.beq t1 1 || Nat.beq t2 1) none (zz_ev CE KE cs rt rb th sd n false es ls ((t1, x1) :: (t2, x2) :: (t1, x1) :: r) σ) | _ => none)
    | .dup_x2 => (match sk with | (t1, x1) :: (t2, x2) :: (t3, x3) :: r => cond (Nat.beq t1 1 || (Nat.beq t2 1 || Nat.beq t3 1)) none (zz_ev CE KE cs rt rb th sd n false es ls ((t1, x1) :: (t2, x2) :: (t3, x3) :: (t1, x1) :: r) σ) | _ => none)
    | .dup2 => (match sk with | (t1, x1) :: (t2, x2) :: r => cond (Nat.beq t1 1 || Nat.beq t2 1) none (zz_ev CE KE cs rt rb th sd n false es ls ((t1, x1) :: (t2, x2) :: (t1, x1) :: (t2, x2) :: r) σ) | _ => none)
    | .goto _ => zz_ev CE KE cs rt rb th sd n false (zz_sk cs a) ls sk σ
    | .ifCond .eq _ => zz_i1 sk fun x r => if x = 0 then zz_ev CE KE cs rt rb th sd n false (zz_sk cs a) ls r σ else zz_ev CE KE cs rt rb th sd n false es ls r σ
    | .ifCond .ne _ => zz_i1 sk fun x r => if x = 0 then zz_ev CE KE cs rt rb th sd n false es ls r σ else zz_ev CE KE cs rt rb th sd n false (zz_sk cs a) ls r σ
    | .ifCond .lt _ => zz_i1 sk fun x r => if x < 0 then zz_ev CE KE cs rt rb th sd n false (zz_sk cs a) ls r σ else zz_ev CE KE cs rt rb th sd n false es ls r σ
    | .ifCond .ge _ => zz_i1 sk fun x r => if x < 0 then zz_ev CE KE cs rt rb th sd n false es ls r σ else zz_ev CE KE cs rt rb th sd n false (zz_sk cs a) ls r σ
    | .ifCond .le _ => zz_i1 sk fun x r => if x ≤ 0 then zz_ev CE KE cs rt rb th sd n false (zz_sk cs a) ls r σ else zz_ev CE KE cs rt rb th sd n false es ls r σ
    | .ifCond .gt _ => zz_i1 sk fun x r => if x ≤ 0 then zz_ev CE KE cs rt rb th sd n false es ls r σ else zz_ev CE KE cs rt rb th sd n false (zz_sk cs a) ls r σ
    | .if_icmp .eq _ => zz_i2 sk fun x y r => if x = y then zz_ev CE KE cs rt rb th sd n false (zz_sk cs a) ls r σ else zz_ev CE KE cs rt rb th sd n false es ls r σ
    | .if_icmp .ne _ => zz_i2 sk fun x y r => if x = y then zz_ev CE KE cs rt rb th sd n false es ls r σ else zz_ev CE KE cs rt rb th sd n false (zz_sk cs a) ls r σ
    | .if_icmp .lt _ => zz_i2 sk fun x y r => if x < y then zz_ev CE KE cs rt rb th sd n false (zz_sk cs a) ls r σ else zz_ev CE KE cs rt rb th sd n false es ls r σ
    | .if_icmp .ge _ => zz_i2 sk fun x y r => if x < y then zz_ev CE KE cs rt rb th sd n false es ls r σ else zz_ev CE KE cs rt rb th sd n false (zz_sk cs a) ls r σ
    | .if_icmp .le _ => zz_i2 sk fun x y r => if x ≤ y then zz_ev CE KE cs rt rb th sd n false (zz_sk cs a) ls r σ else zz_ev CE KE cs rt rb th sd n false es ls r σ
    | .if_icmp .gt _ => zz_i2 sk fun x y r => if x ≤ y then zz_ev CE KE cs rt rb th sd n false es ls r σ else zz_ev CE KE cs rt rb th sd n false (zz_sk cs a) ls r σ
    | .if_acmp .eq _ => (match sk with | (u, y) :: (w, x) :: r => cond (Nat.beq u w && (Nat.ble 5 u && Nat.ble u 900)) (if x = y then zz_ev CE KE cs rt rb th sd n false (zz_sk cs a) ls r σ else zz_ev CE KE cs rt rb th sd n false es ls r σ) none | _ => none)
    | .if_acmp .ne _ => (match sk with | (u, y) :: (w, x) :: r => cond (Nat.beq u w && (Nat.ble 5 u && Nat.ble u 900)) (if x = y then zz_ev CE KE cs rt rb th sd n false es ls r σ else zz_ev CE KE cs rt rb th sd n false (zz_sk cs a) ls r σ) none | _ => none)
    | .ifnull _ => (match sk with | (u, x) :: r => cond ((Nat.ble 2 u && Nat.ble u 999) || Nat.beq u 3000) (if x = 0 then zz_ev CE KE cs rt rb th sd n false (zz_sk cs a) ls r σ else zz_ev CE KE cs rt rb th sd n false es ls r σ) none | _ => none)
    | .ifnonnull _ => (match sk with | (u, x) :: r => cond ((Nat.ble 2 u && Nat.ble u 999) || Nat.beq u 3000) (if x = 0 then zz_ev CE KE cs rt rb th sd n false es ls r σ else zz_ev CE KE cs rt rb th sd n false (zz_sk cs a) ls r σ) none | _ => none)
    | .tableswitch _ _ _ _ => zz_i1 sk fun x r => zz_sw (fun q => zz_ev CE KE cs rt rb th sd n false (zz_sk cs q) ls r σ) x a v tg
    | .getfield _ => (match sk with
      | (u, x) :: r => cond (Nat.beq u (2 + a)) (if x = 0 then none else cond (Nat.beq o 1) (zz_ev CE KE cs rt rb th sd n false es ls ((t, x) :: r) σ) (zz_ev CE KE cs rt rb th sd n false es ls ((t, zz_h σ a x b) :: r) σ))
          (cond (Nat.beq u (1000 + a)) (cond (Nat.beq o 1) (if zz_h σ a x b = x then zz_ev CE KE cs rt rb th sd n false es ls ((t, x) :: r) σ else none) (zz_ev CE KE cs rt rb th sd n false es ls ((t, zz_h σ a x b) :: r) σ)) none)
      | _ => none)
    | .putfield _ => (match sk with
      | (u', w) :: (u, x) :: r => zz_st t v u' w (cond (Nat.beq (zz_sd a) sd) (cond (Nat.beq u (2 + a) && !Nat.beq o 1) (if x = 0 then none else zz_ev CE KE cs rt rb th sd n false es ls r (zz_w σ a x b w))
          (cond (Nat.beq u (1000 + a)) (if Nat.beq o 1 = true ∧ w ≠ x then none else zz_ev CE KE cs rt rb th sd n false es ls r (zz_w σ a x b w)) none)) none)
      | _ => none)
    | .getstatic _ => zz_ev CE KE cs rt rb th sd n false es ls ((2 + a, 1) :: sk) σ
    | .iaload => zz_i1 sk fun j r => zz_a1 (2 + a) r fun x r => if x = 0 then none else if zz_b σ a x j then zz_ev CE KE cs rt rb th sd n false es ls ((0, zz_h σ a x j) :: r) σ else none
    | .baload => zz_i1 sk fun j r => zz_a1 (2 + a) r fun x r => if x = 0 then none else if zz_b σ a x j then zz_ev CE KE cs rt rb th sd n false es ls ((0, zz_h σ a x j) :: r) σ else none
    | .aaload => zz_i1 sk fun j r => zz_a1 (2 + a) r fun x r => if x = 0 then none else if zz_b σ a x j then zz_ev CE KE cs rt rb th sd n false es ls ((t, zz_h σ a x j) :: r) σ else none
    | .iastore => zz_i1 sk fun w r => zz_i1 r fun j r => zz_a1 (2 + a) r fun x r => cond (Nat.beq (zz_sd a) sd) (if x = 0 then none else if zz_b σ a x j then zz_ev CE KE cs rt rb th sd n false es ls r (zz_w σ a x j w) else none) none
    | .bastore => zz_i1 sk fun w r => zz_i1 r fun j r => zz_a1 (2 + a) r fun x r => cond (Nat.beq (zz_sd a) sd) (if x = 0 then none else if zz_b σ a x j then if zz_o w then zz_ev CE KE cs rt rb th sd n false es ls r (zz_w σ a x j w) else none else none) none
    | .aastore => zz_a1 t sk fun w r => zz_i1 r fun j r => zz_a1 (2 + a) r fun x r => cond (Nat.beq (zz_sd a) sd) (if x = 0 then none else if zz_b σ a x j then if w = 0 then none else zz_ev CE KE cs rt rb th sd n false es ls r (zz_w σ a x j w) else none) none
    | .arraylength => zz_a1 (2 + a) sk fun x r => if x = 0 then none else zz_ev CE KE cs rt rb th sd n false es ls ((0, zz_al σ a x) :: r) σ
    | .new _ => cond (Nat.beq (zz_sd a) sd || Nat.beq sd 2) (zz_ev CE KE cs rt rb th sd n false es ls ((1000 + a, zz_c σ a + 1) :: sk) (zz_n σ a 0 (zz_len a))) none
    | .newarray _ => zz_i1 sk fun x r => cond (Nat.beq (zz_sd a) sd) (if x = (zz_len a : Int) then zz_ev CE KE cs rt rb th sd n false es ls ((2 + a, zz_c σ a + 1) :: r) (zz_n σ a 1 (zz_len a)) else none) none
    | .anewarray _ => zz_i1 sk fun x r => cond (Nat.beq (zz_sd a) sd) (if x = (zz_len a : Int) then zz_ev CE KE cs rt rb th sd n false es ls ((2 + a, zz_c σ a + 1) :: r) (zz_n σ a 1 (zz_len a)) else none) none
    | .invokestatic _ => (match zz_ta tg sk [] with
      | some (vs, r) => cond (Nat.ble r.length 4) ((CE a vs σ).bind fun q => cond (Nat.beq t 999) (zz_ev CE KE cs rt rb th sd n false es ls r q.2) (zz_ev CE KE cs rt rb th sd n false es ls ((t, q.1) :: r) q.2)) none
      | none => none)
    | .invokevirtual _ => (match zz_ta tg sk [] with
      | some (x :: vs, r) => cond (Nat.ble r.length 4) (if x = 0 then none else (CE a (x :: vs) σ).bind fun q => cond (Nat.beq t 999) (zz_ev CE KE cs rt rb th sd n false es ls r q.2) (zz_ev CE KE cs rt rb th sd n false es ls ((t, q.1) :: r) q.2)) none
      | _ => none)
    | .invokespecial _ => cond (Nat.beq a 0)
        (match sk with | (u, _) :: r => cond (Nat.ble 1000 u && (Nat.ble u 1900 && Nat.ble r.length 4)) (zz_ev CE KE cs rt rb th sd n false es ls r σ) none | [] => none)
        (match zz_ta tg sk [] with
        | some (x :: vs, r) => cond (Nat.ble r.length 4) ((CE a (x :: vs) σ).bind fun q => if zz_c q.2 b = zz_m q.2 b then zz_ev CE KE cs rt rb th sd n false es ls (zz_un (1000 + b) r) q.2 else none) none
        | _ => none)
    | .ireturn => (match sk with | [(u, x)] => cond (Nat.beq u 0 && Nat.beq rt 0) (cond rb (if zz_o x then some (x, σ) else none) (some (x, σ))) none | _ => none)
    | .areturn => (match sk with | [(u, x)] => cond ((Nat.beq u rt || Nat.beq u 3000) && (Nat.ble 2 rt && Nat.ble rt 900)) (some (x, σ)) none | _ => none)
    | .return_ => (match sk with | [] => cond (Nat.beq rt 999) (cond (Nat.beq th 0) (some (0, σ)) (match zz_lk ls 0 with | (u, x) => cond (Nat.beq u (1000 + th)) (if zz_ow σ th x (zz_own th) = true ∧ zz_m σ th + 1 = x then some (0, zz_f σ th) else none) none)) none | _ => none)
    | _ => none)
def zz_CE : List (Nat × (List Int → zz_S → zz_R)) → Nat → List Int → zz_S → zz_R
  | [], _, _, _ => none
  | p :: L, i, vs, σ => cond (Nat.beq p.1 i) (p.2 vs σ) (zz_CE L i vs σ)
/-- the live locals of a place at which the evaluator stops: local, tag, whether it is the only one of its kind -/
def zz_kc : List (Nat × Nat × Bool) → List (Nat × zz_V) → (List Int → zz_R) → zz_R
  | [], _, f => f []
  | (i, t, s) :: sp, ls, f => match zz_lk ls i with
    | (u, x) => cond (Nat.beq u t || (Nat.beq u 3000 && (Nat.ble 2 t && Nat.ble t 999))) (cond s (if x = 1 then zz_kc sp ls f else none) (zz_kc sp ls (fun r => f (x :: r)))) none
def zz_KE : List (Nat × List (Nat × Nat × Bool) × (List Int → zz_S → zz_R)) → Nat → List (Nat × zz_V) → List zz_V → zz_S → zz_R
  | [], _, _, _, _ => none
  | p :: L, pc, ls, sk, σ => cond (Nat.beq p.1 pc) (match sk with | [] => zz_kc p.2.1 ls (fun vs => p.2.2 vs σ) | _ => none) (zz_KE L pc ls sk σ)
theorem zz_fu_ex : ∃ n : Nat, 1000000000 ≤ n := ⟨1000000000, Nat.le_refl _⟩
/-- the fuel of a loop: large, and nothing that can be counted down by unfolding -/
noncomputable def zz_fu : Nat := Classical.choose zz_fu_ex
