/-! THE ABSTRACT MACHINE: values are (tag, whole number): tag 0 int, 1 long, 2 reference (the number of a cell, from 1 on), 3 a table that nobody writes, 8 thrown, 9 none -/
abbrev zV : Type := Nat × Int
abbrev zM : Type := Int → Int → Int
abbrev zX : Type := List (Nat × Nat) × Nat × Nat
abbrev zR : Type := zV × zM × zX
abbrev zF : Type := Nat → Nat → List zV → List zV → zM → zX → Option zR
abbrev zOp : Type := zF → zF → Nat → Nat → List zV → List zV → zM → zX → Option zR
abbrev zI (x : Int) : Prop := -2147483648 ≤ x ∧ x ≤ 2147483647
abbrev zL (x : Int) : Prop := -9223372036854775808 ≤ x ∧ x ≤ 9223372036854775807
def zg {α : Type} (c : Prop) [Decidable c] (x : Option α) : Option α := if c then x else none
def zkd (X : zX) (r : Int) : Nat × Nat := if r ≤ 0 then (99, 0) else X.1.getD (r - 1).toNat (99, 0)
def zu (M : zM) (a b v : Int) : zM := fun x y => if x = a ∧ y = b then v else M x y
def zclr (M : zM) (a : Int) : zM := fun x y => if x = a then 0 else M x y
def zcpy (M : zM) (a sp b dp n : Int) : zM := fun x y => if x = b ∧ dp ≤ y ∧ y < dp + n then M a (sp + (y - dp)) else M x y
def zcat (st : List zV) : Nat := (st.map (fun v => if v.1 = 1 then 2 else 1)).sum
def zsc (st : List zV) (n : Nat) : Bool := Nat.ble (zcat st) n
/-- the locals at a method's start -/
def zpad : List zV → List zV
  | [] => []
  | v :: vs => if v.1 = 1 then v :: (9, 0) :: zpad vs else v :: zpad vs
def zloc (n : Nat) (vs : List zV) : List zV := zpad vs ++ List.replicate (n - (zpad vs).length) (9, 0)
/-- a store into a local -/
def zkil (lo : List zV) (i : Nat) : List zV := match i with
  | 0 => lo
  | j + 1 => match lo[j]? with
    | some (1, _) => lo.set j (9, 0)
    | _ => lo
def zst1 (lo : List zV) (i : Nat) (v : zV) : List zV := (zkil lo i).set i v
def zst2 (lo : List zV) (i : Nat) (v : zV) : List zV := ((zkil lo i).set i v).set (i + 1) (9, 0)
/-- the tables that nobody writes (the script is the cell -5) -/
def zHX : List Int := [500, 462, 354, 191, 0, -191, -354, -462, -500, -462, -354, -191, 0, 191, 354, 462]
def zHY : List Int := [0, 191, 354, 462, 500, 462, 354, 191, 0, -191, -354, -462, -500, -462, -354, -191]
def zAX : List Int := [1, 0, -1, 0]
def zAY : List Int := [0, 1, 0, -1]
def zsl (M : zM) (a : Nat) : Int := match a with
  | 0 => 16
  | 1 => 16
  | 2 => 4
  | 3 => 4
  | _ => M (-5) (-1)
def zsv (M : zM) (a : Nat) (j : Int) : Int := match a with
  | 0 => zHX.getD j.toNat 0
  | 1 => zHY.getD j.toNat 0
  | 2 => zAX.getD j.toNat 0
  | 3 => zAY.getD j.toNat 0
  | _ => M (-5) j
-- the answer of a call
def zbI (o : Option zR) (g : Int → zM → zX → Option zR) : Option zR := match o with
  | some ((0, v), M, X) => g v M X
  | _ => none
def zbL (o : Option zR) (g : Int → zM → zX → Option zR) : Option zR := match o with
  | some ((1, v), M, X) => g v M X
  | _ => none
def zbN (o : Option zR) (g : zM → zX → Option zR) : Option zR := match o with
  | some ((9, _), M, X) => g M X
  | _ => none
def zbT (o : Option zR) (g : zV → zM → zX → Option zR) (h : Int → zM → zX → Option zR) : Option zR := match o with
  | some ((8, v), M, X) => h v M X
  | some (v, M, X) => g v M X
  | none => none
-- the instructions
def zo_stuck : zOp := fun _ _ _ _ _ _ _ _ => none
def zo_push (t : Nat) (v : Int) : zOp := fun F _ k i st lo M X => F k (i + 1) ((t, v) :: st) lo M X
def zo_ld (t a : Nat) : zOp := fun F _ k i st lo M X => match lo[a]? with
  | some (t', v) => match Nat.beq t' t with
    | true => F k (i + 1) ((t, v) :: st) lo M X
    | false => none
  | none => none
def zo_st (t a : Nat) : zOp := fun F _ k i st lo M X => match st with
  | (t', v) :: st => match Nat.beq t' t && Nat.blt a lo.length with
    | true => F k (i + 1) st (zst1 lo a (t, v)) M X
    | false => none
  | _ => none
def zo_lst (a : Nat) : zOp := fun F _ k i st lo M X => match st with
  | (1, v) :: st => match Nat.blt (a + 1) lo.length with
    | true => F k (i + 1) st (zst2 lo a (1, v)) M X
    | false => none
  | _ => none
def zo_iinc (a : Nat) (n : Int) : zOp := fun F _ k i st lo M X => match lo[a]? with
  | some (0, v) => zg (zI (v + n)) (F k (i + 1) st (zst1 lo a (0, v + n)) M X)
  | _ => none
def zo_bin (f : Int → Int → Int) : zOp := fun F _ k i st lo M X => match st with
  | (0, b) :: (0, a) :: st => zg (zI (f a b)) (F k (i + 1) ((0, f a b) :: st) lo M X)
  | _ => none
def zo_iadd : zOp := zo_bin (fun a b => a + b)
def zo_isub : zOp := zo_bin (fun a b => a - b)
def zo_imul : zOp := zo_bin (fun a b => a * b)
def zo_idiv : zOp := fun F _ k i st lo M X => match st with
  | (0, b) :: (0, a) :: st => zg (0 < b) (F k (i + 1) ((0, a.tdiv b) :: st) lo M X)
  | _ => none
def zo_irem : zOp := fun F _ k i st lo M X => match st with
  | (0, b) :: (0, a) :: st => zg (0 < b) (F k (i + 1) ((0, a.tmod b) :: st) lo M X)
  | _ => none
def zo_ineg : zOp := fun F _ k i st lo M X => match st with
  | (0, a) :: st => zg (zI (-a)) (F k (i + 1) ((0, -a) :: st) lo M X)
  | _ => none
def zo_iand : zOp := fun F _ k i st lo M X => match st with
  | (0, b) :: (0, a) :: st => zg (b = 1 ∨ b = 3 ∨ b = 15 ∨ b = 63) (F k (i + 1) ((0, a % (b + 1)) :: st) lo M X)
  | _ => none
def zxor (a b : Int) : Int := (Int32.ofInt a ^^^ Int32.ofInt b).toInt
def zo_ixor : zOp := fun F _ k i st lo M X => match st with
  | (0, b) :: (0, a) :: st => F k (i + 1) ((0, zxor a b) :: st) lo M X
  | _ => none
def zland (a b : Int) : Int := (Int64.ofInt a &&& Int64.ofInt b).toInt
def zlor (a b : Int) : Int := (Int64.ofInt a ||| Int64.ofInt b).toInt
def zlshl (a b : Int) : Int := (Int64.ofInt a <<< ((Int32.ofInt b).toInt64 &&& 63)).toInt
def zo_land : zOp := fun F _ k i st lo M X => match st with
  | (1, b) :: (1, a) :: st => F k (i + 1) ((1, zland a b) :: st) lo M X
  | _ => none
def zo_lor : zOp := fun F _ k i st lo M X => match st with
  | (1, b) :: (1, a) :: st => F k (i + 1) ((1, zlor a b) :: st) lo M X
  | _ => none
def zo_lshl : zOp := fun F _ k i st lo M X => match st with
  | (0, b) :: (1, a) :: st => F k (i + 1) ((1, zlshl a b) :: st) lo M X
  | _ => none
def zo_lmul : zOp := fun F _ k i st lo M X => match st with
  | (1, b) :: (1, a) :: st => zg (zL (a * b)) (F k (i + 1) ((1, a * b) :: st) lo M X)
  | _ => none
def zcmp (a b : Int) : Int := if b < a then 1 else if a = b then 0 else -1
def zo_lcmp : zOp := fun F _ k i st lo M X => match st with
  | (1, b) :: (1, a) :: st => F k (i + 1) ((0, zcmp a b) :: st) lo M X
  | _ => none
def zo_i2l : zOp := fun F _ k i st lo M X => match st with
  | (0, a) :: st => F k (i + 1) ((1, a) :: st) lo M X
  | _ => none
def zo_l2i : zOp := fun F _ k i st lo M X => match st with
  | (1, a) :: st => F k (i + 1) ((0, a.bmod 4294967296) :: st) lo M X
  | _ => none
def zo_i2b : zOp := fun F _ k i st lo M X => match st with
  | (0, a) :: st => F k (i + 1) ((0, a.bmod 256) :: st) lo M X
  | _ => none
def zo_i2s : zOp := fun F _ k i st lo M X => match st with
  | (0, a) :: st => F k (i + 1) ((0, a.bmod 65536) :: st) lo M X
  | _ => none
def zo_dup : zOp := fun F _ k i st lo M X => match st with
  | (0, a) :: st => F k (i + 1) ((0, a) :: (0, a) :: st) lo M X
  | (2, a) :: st => F k (i + 1) ((2, a) :: (2, a) :: st) lo M X
  | _ => none
def zo_dup2 : zOp := fun F _ k i st lo M X => match st with
  | (0, b) :: (2, a) :: st => F k (i + 1) ((0, b) :: (2, a) :: (0, b) :: (2, a) :: st) lo M X
  | _ => none
def zo_goto (t : Nat) : zOp := fun F _ k _ st lo M X => F k t st lo M X
def zo_ifeq (t : Nat) : zOp := fun F _ k i st lo M X => match st with
  | (0, a) :: st => if a = 0 then F k t st lo M X else F k (i + 1) st lo M X
  | _ => none
def zo_iceq (t : Nat) : zOp := fun F _ k i st lo M X => match st with
  | (0, b) :: (0, a) :: st => if a = b then F k t st lo M X else F k (i + 1) st lo M X
  | _ => none
def zo_ifne (t : Nat) : zOp := fun F _ k i st lo M X => match st with
  | (0, a) :: st => if a = 0 then F k (i + 1) st lo M X else F k t st lo M X
  | _ => none
def zo_icne (t : Nat) : zOp := fun F _ k i st lo M X => match st with
  | (0, b) :: (0, a) :: st => if a = b then F k (i + 1) st lo M X else F k t st lo M X
  | _ => none
def zo_iflt (t : Nat) : zOp := fun F _ k i st lo M X => match st with
  | (0, a) :: st => if a < 0 then F k t st lo M X else F k (i + 1) st lo M X
  | _ => none
def zo_iclt (t : Nat) : zOp := fun F _ k i st lo M X => match st with
  | (0, b) :: (0, a) :: st => if a < b then F k t st lo M X else F k (i + 1) st lo M X
  | _ => none
def zo_ifge (t : Nat) : zOp := fun F _ k i st lo M X => match st with
  | (0, a) :: st => if 0 ≤ a then F k t st lo M X else F k (i + 1) st lo M X
  | _ => none
def zo_icge (t : Nat) : zOp := fun F _ k i st lo M X => match st with
  | (0, b) :: (0, a) :: st => if b ≤ a then F k t st lo M X else F k (i + 1) st lo M X
  | _ => none
def zo_ifgt (t : Nat) : zOp := fun F _ k i st lo M X => match st with
  | (0, a) :: st => if 0 < a then F k t st lo M X else F k (i + 1) st lo M X
  | _ => none
def zo_icgt (t : Nat) : zOp := fun F _ k i st lo M X => match st with
  | (0, b) :: (0, a) :: st => if b < a then F k t st lo M X else F k (i + 1) st lo M X
  | _ => none
def zo_ifle (t : Nat) : zOp := fun F _ k i st lo M X => match st with
  | (0, a) :: st => if a ≤ 0 then F k t st lo M X else F k (i + 1) st lo M X
  | _ => none
def zo_icle (t : Nat) : zOp := fun F _ k i st lo M X => match st with
  | (0, b) :: (0, a) :: st => if a ≤ b then F k t st lo M X else F k (i + 1) st lo M X
  | _ => none
def zo_getI (ci : Nat) (j : Int) : zOp := fun F _ k i st lo M X => match st with
  | (2, r) :: st => zg (zkd X r = (6 + ci, 0)) (F k (i + 1) ((0, M r j) :: st) lo M X)
  | _ => none
def zo_getR (ci : Nat) (j : Int) : zOp := fun F _ k i st lo M X => match st with
  | (2, r) :: st => zg (zkd X r = (6 + ci, 0) ∧ 0 < M r j) (F k (i + 1) ((2, M r j) :: st) lo M X)
  | _ => none
def zo_putI (ci : Nat) (j : Int) : zOp := fun F _ k i st lo M X => match st with
  | (0, v) :: (2, r) :: st => zg (zkd X r = (6 + ci, 0)) (F k (i + 1) st lo (zu M r j v) X)
  | _ => none
def zo_putZ (ci : Nat) (j : Int) : zOp := fun F _ k i st lo M X => match st with
  | (0, v) :: (2, r) :: st => zg (zkd X r = (6 + ci, 0) ∧ (v = 0 ∨ v = 1)) (F k (i + 1) st lo (zu M r j v) X)
  | _ => none
def zo_putR (ci : Nat) (j : Int) : zOp := fun F _ k i st lo M X => match st with
  | (2, v) :: (2, r) :: st => zg (zkd X r = (6 + ci, 0)) (F k (i + 1) st lo (zu M r j v) X)
  | _ => none
def zo_gets (a : Nat) : zOp := fun F _ k i st lo M X => F k (i + 1) ((3, a) :: st) lo M X
def zo_iald : zOp := fun F _ k i st lo M X => match st with
  | (0, j) :: (2, r) :: st => zg ((zkd X r).1 = 0 ∧ 0 ≤ j ∧ j < ((zkd X r).2 : Int)) (F k (i + 1) ((0, M r j) :: st) lo M X)
  | _ => none
def zo_sald (a : Nat) : zOp := fun F _ k i st lo M X => match st with
  | (0, j) :: (3, b) :: st => zg (b = (a : Int) ∧ 0 ≤ j ∧ j < zsl M a) (F k (i + 1) ((0, zsv M a j) :: st) lo M X)
  | _ => none
def zo_slen : zOp := fun F _ k i st lo M X => match st with
  | (3, b) :: st => zg (b = 4) (F k (i + 1) ((0, zsl M 4) :: st) lo M X)
  | _ => none
def zo_lald : zOp := fun F _ k i st lo M X => match st with
  | (0, j) :: (2, r) :: st => zg ((zkd X r).1 = 1 ∧ 0 ≤ j ∧ j < ((zkd X r).2 : Int)) (F k (i + 1) ((1, M r j) :: st) lo M X)
  | _ => none
def zo_bald : zOp := fun F _ k i st lo M X => match st with
  | (0, j) :: (2, r) :: st => zg ((zkd X r).1 = 2 ∧ 0 ≤ j ∧ j < ((zkd X r).2 : Int)) (F k (i + 1) ((0, M r j) :: st) lo M X)
  | _ => none
def zo_aald (t : Nat) : zOp := fun F _ k i st lo M X => match st with
  | (0, j) :: (2, r) :: st => zg ((zkd X r).1 = t ∧ 0 ≤ j ∧ j < ((zkd X r).2 : Int) ∧ 0 < M r j) (F k (i + 1) ((2, M r j) :: st) lo M X)
  | _ => none
def zo_iast : zOp := fun F _ k i st lo M X => match st with
  | (0, v) :: (0, j) :: (2, r) :: st => zg ((zkd X r).1 = 0 ∧ 0 ≤ j ∧ j < ((zkd X r).2 : Int)) (F k (i + 1) st lo (zu M r j v) X)
  | _ => none
def zo_last : zOp := fun F _ k i st lo M X => match st with
  | (1, v) :: (0, j) :: (2, r) :: st => zg ((zkd X r).1 = 1 ∧ 0 ≤ j ∧ j < ((zkd X r).2 : Int)) (F k (i + 1) st lo (zu M r j v) X)
  | _ => none
def zo_bast : zOp := fun F _ k i st lo M X => match st with
  | (0, v) :: (0, j) :: (2, r) :: st => zg ((zkd X r).1 = 2 ∧ 0 ≤ j ∧ j < ((zkd X r).2 : Int) ∧ (v = 0 ∨ v = 1)) (F k (i + 1) st lo (zu M r j v) X)
  | _ => none
def zo_aast (t ci : Nat) : zOp := fun F _ k i st lo M X => match st with
  | (2, v) :: (0, j) :: (2, r) :: st => zg ((zkd X r).1 = t ∧ 0 ≤ j ∧ j < ((zkd X r).2 : Int) ∧ zkd X v = (6 + ci, 0)) (F k (i + 1) st lo (zu M r j v) X)
  | _ => none
def zo_alen (t : Nat) : zOp := fun F _ k i st lo M X => match st with
  | (2, r) :: st => zg ((zkd X r).1 = t ∧ (zkd X r).2 ≤ 65536) (F k (i + 1) ((0, ((zkd X r).2 : Int)) :: st) lo M X)
  | _ => none
def zo_new (ci nf : Nat) : zOp := fun F _ k i st lo M X =>
  zg (1 ≤ X.2.1 ∧ nf ≤ X.2.2) (F k (i + 1) ((2, (X.1.length : Int) + 1) :: st) lo (zclr M ((X.1.length : Int) + 1)) (X.1 ++ [(6 + ci, 0)], X.2.1 - 1, X.2.2 - nf))
def zo_newa (t : Nat) : zOp := fun F _ k i st lo M X => match st with
  | (0, n) :: st => zg (0 ≤ n ∧ n ≤ 65536 ∧ 1 ≤ X.2.1 ∧ n.toNat ≤ X.2.2) (F k (i + 1) ((2, (X.1.length : Int) + 1) :: st) lo (zclr M ((X.1.length : Int) + 1)) (X.1 ++ [(t, n.toNat)], X.2.1 - 1, X.2.2 - n.toNat))
  | _ => none
/-- the rows of a new int[n][k]: cells b .. -/
def zmul (M : zM) (a n : Int) : zM := fun x y => if x = a then (if 0 ≤ y ∧ y < n then a + 1 + y else 0) else if a < x ∧ x ≤ a + n then 0 else M x y
def zo_mnew : zOp := fun F _ k i st lo M X => match st with
  | (0, q) :: (0, n) :: st => zg (0 ≤ n ∧ n ≤ 1024 ∧ 0 ≤ q ∧ q ≤ 1024 ∧ 1 + n.toNat ≤ X.2.1 ∧ n.toNat + n.toNat * q.toNat ≤ X.2.2)
      (F k (i + 1) ((2, (X.1.length : Int) + 1) :: st) lo (zmul M ((X.1.length : Int) + 1) n) (X.1 ++ (5, n.toNat) :: List.replicate n.toNat (0, q.toNat), X.2.1 - (1 + n.toNat), X.2.2 - (n.toNat + n.toNat * q.toNat)))
  | _ => none
def zo_acpy (t : Nat) : zOp := fun F _ k i st lo M X => match st with
  | (0, n) :: (0, dp) :: (2, b) :: (0, sp) :: (2, a) :: st =>
    zg ((zkd X a).1 = t ∧ (zkd X b).1 = t ∧ 0 ≤ n ∧ 0 ≤ dp ∧ 0 ≤ sp ∧ sp + n ≤ ((zkd X a).2 : Int) ∧ dp + n ≤ ((zkd X b).2 : Int))
      (match zsc st 8 with
       | true => F k (i + 1) st lo (zcpy M a sp b dp n) X
       | false => none)
  | _ => none
def zo_objinit : zOp := fun F _ k i st lo M X => match st with
  | (2, _) :: st => match zsc st 8 with
    | true => F k (i + 1) st lo M X
    | false => none
  | _ => none
/-- a switch: labels and targets, else the last -/
def zlsw (g : Nat → Option zR) (v : Int) : List (Int × Nat) → Nat → Option zR
  | [], d => g d
  | (l, t) :: ts, d => if v = l then g t else zlsw g v ts d
def zo_lsw (ps : List (Int × Nat)) (d : Nat) : zOp := fun F _ k _ st lo M X => match st with
  | (0, v) :: st => zlsw (fun t => F k t st lo M X) v ps d
  | _ => none
/-- calls: the method, how many values it takes (the receiver among them), how many locals it has; with a receiver that is looked at: its kind -/
def zarg (st : List zV) (n nl : Nat) : Bool := zsc (st.drop n) 8 && Nat.ble n st.length && Nat.ble (zpad (st.take n).reverse).length nl
def zrtg (st : List zV) (n : Nat) : Bool := Nat.beq ((st.take n).reverse.headD (9, 0)).1 2
def zo_callI (c n nl : Nat) : zOp := fun F G k i st lo M X => match zarg st n nl with
  | true => zbI (G c 0 [] (zloc nl (st.take n).reverse) M X) (fun v M X => F k (i + 1) ((0, v) :: st.drop n) lo M X)
  | false => none
def zo_vcallI (c n nl kd : Nat) : zOp := fun F G k i st lo M X => match zarg st n nl && zrtg st n with
  | true => zg (zkd X ((st.take n).reverse.headD (9, 0)).2 = (kd, 0)) (zbI (G c 0 [] (zloc nl (st.take n).reverse) M X) (fun v M X => F k (i + 1) ((0, v) :: st.drop n) lo M X))
  | false => none
def zo_callL (c n nl : Nat) : zOp := fun F G k i st lo M X => match zarg st n nl with
  | true => zbL (G c 0 [] (zloc nl (st.take n).reverse) M X) (fun v M X => F k (i + 1) ((1, v) :: st.drop n) lo M X)
  | false => none
def zo_vcallL (c n nl kd : Nat) : zOp := fun F G k i st lo M X => match zarg st n nl && zrtg st n with
  | true => zg (zkd X ((st.take n).reverse.headD (9, 0)).2 = (kd, 0)) (zbL (G c 0 [] (zloc nl (st.take n).reverse) M X) (fun v M X => F k (i + 1) ((1, v) :: st.drop n) lo M X))
  | false => none
def zo_callN (c n nl : Nat) : zOp := fun F G k i st lo M X => match zarg st n nl with
  | true => zbN (G c 0 [] (zloc nl (st.take n).reverse) M X) (fun M X => F k (i + 1) (st.drop n) lo M X)
  | false => none
def zo_vcallN (c n nl kd : Nat) : zOp := fun F G k i st lo M X => match zarg st n nl && zrtg st n with
  | true => zg (zkd X ((st.take n).reverse.headD (9, 0)).2 = (kd, 0)) (zbN (G c 0 [] (zloc nl (st.take n).reverse) M X) (fun M X => F k (i + 1) (st.drop n) lo M X))
  | false => none
def zo_iret : zOp := fun _ _ _ _ st _ M X => match st with
  | [(0, v)] => some ((0, v), M, X)
  | _ => none
def zo_zret : zOp := fun _ _ _ _ st _ M X => match st with
  | [(0, v)] => zg (v = 0 ∨ v = 1) (some ((0, v), M, X))
  | _ => none
def zo_lret : zOp := fun _ _ _ _ st _ M X => match st with
  | [(1, v)] => some ((1, v), M, X)
  | _ => none
def zo_ret : zOp := fun _ _ _ _ st _ M X => match st with
  | [] => some ((9, 0), M, X)
  | _ => none
/-- the making and throwing of an exception (kind 1, 2), at the instruction i of its method -/
def zo_throw (e i : Nat) : zOp := fun _ _ _ _ st _ M X => match st with
  | [] => zg (1 ≤ X.2.1 ∧ 6 ≤ X.2.2) (some ((8, 1000 * (e : Int) + i), M, (X.1, X.2.1 - 1, X.2.2 - 6)))
  | _ => none
def zhd (F : zF) (k : Nat) (h : Nat) (lo : List zV) (M : zM) (X : zX) : Option zR := match h with
  | 0 => none
  | h + 1 => F k (h + 1) [] lo M X
/-- a call that may throw: where it is caught (kind 1, else) the locals are as they were and the exception lies on the stack; it is put into a local that nobody reads, or dropped: the handler begins behind that -/
def zo_tcall (c n nl kd : Nat) (rt h1 h2 ea : Nat) : zOp := fun F G k i st lo M X => match zarg st n nl && zrtg st n && (Nat.blt ea lo.length && lo.all (fun v => !Nat.beq v.1 1)) with
  | true => zg (zkd X ((st.take n).reverse.headD (9, 0)).2 = (kd, 0)) (zbT (G c 0 [] (zloc nl (st.take n).reverse) M X)
      (fun v M X => match Nat.beq v.1 rt, rt with
        | true, 9 => F k (i + 1) (st.drop n) lo M X
        | true, _ => F k (i + 1) (v :: st.drop n) lo M X
        | false, _ => none)
      (fun e M X => if e < 2000 then zhd F k h1 (lo.set ea (9, 0)) M X else F k h2 [] (lo.set ea (9, 0)) M X))
  | false => none
