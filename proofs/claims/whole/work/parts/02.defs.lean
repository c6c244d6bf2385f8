/-! ===== THE SMALL MACHINE: what the class's and the reference's bytecode does to numbers, in words of Int; no heap, no frames ===== -/
/-- a value: an int, a long, a reference (-1: null; 0 and on: a cell of the world; below -1: a thing outside it) -/
abbrev km_V : Type := Int ⊕ Int ⊕ Int
abbrev km_Ls : Type := List (Option km_V)
abbrev km_Mm : Type := Int → Int → Int
/-- the cells that are made: how many, of which kind, how long, which references they hold; what was paid for them -/
abbrev km_Al : Type := Nat × (Int → Int) × (Int → Int) × (Int → Int → Int) × Nat × Nat
/-- a method: its bytes, its class, its name, its locals, its answer, its depth, its arguments, 0 virtual, 1 static, 2 a constructor, 10 and on: none of bytecode -/
abbrev km_Md : Type := ByteArray × Nat × MethodName × Nat × Option FieldType × Nat × Nat × Nat
abbrev km_St : Type := Nat × km_Ls × List km_V × km_Al × km_Mm
abbrev km_O : Type := km_St ⊕ (km_Md × List km_V × Nat × List km_V) ⊕ Option km_V
abbrev km_Rs : Type := Option km_V × km_Al × km_Mm
def km_ck (z : Int) : Option Int := if -2147483648 ≤ z ∧ z ≤ 2147483647 then some z else none
def km_ckL (z : Int) : Option Int := if -9223372036854775808 ≤ z ∧ z ≤ 9223372036854775807 then some z else none
def km_and (x y : Int) : Int := (Int32.ofInt x &&& Int32.ofInt y).toInt
def km_or (x y : Int) : Int := (Int32.ofInt x ||| Int32.ofInt y).toInt
def km_xor (x y : Int) : Int := (Int32.ofInt x ^^^ Int32.ofInt y).toInt
def km_shl (x s : Int) : Int := (Int32.ofInt x <<< (Int32.ofInt s &&& 31)).toInt
def km_shr (x s : Int) : Int := (Int32.ofInt x >>> (Int32.ofInt s &&& 31)).toInt
def km_ushr (x s : Int) : Int := ((Int32.ofInt x).toUInt32 >>> ((Int32.ofInt s).toUInt32 &&& Int32.toUInt32 31)).toInt32.toInt
def km_lcmp (x y : Int) : Int := if x < y then -1 else if x = y then 0 else 1
def km_cmp (c : Jvm.ClassFile.Cond) (x y : Int) : Bool := match c with
  | .eq => decide (x = y)
  | .ne => decide (x ≠ y)
  | .lt => decide (x < y)
  | .ge => decide (y ≤ x)
  | .gt => decide (y < x)
  | .le => decide (x ≤ y)
def km_up (m : km_Mm) (a i v : Int) : km_Mm := fun b j => if b = a then (if j = i then v else m b j) else m b j
def km_u1 (f : Int → Int) (a v : Int) : Int → Int := fun b => if b = a then v else f b
def km_kd (A : km_Al) (a : Int) : Int := A.2.1 a
def km_ln (A : km_Al) (a : Int) : Int := A.2.2.1 a
def km_rf (A : km_Al) (a i : Int) : Int := A.2.2.2.1 a i
/-- a cell of the world -/
def km_c (A : km_Al) (a : Int) : Prop := 0 ≤ a ∧ a < (A.1 : Int)
def km_un (x : Option km_V) : Option km_V := match x with
  | some (.inr (.inl _)) => none
  | y => y
def km_get (ls : km_Ls) (i : Nat) : Option km_V := ls.getD i none
def km_set1 : Nat → km_V → km_Ls → km_Ls
  | 0, v, _ :: t => some v :: t
  | 1, v, a :: _ :: t => km_un a :: some v :: t
  | n + 2, v, a :: t => a :: km_set1 (n + 1) v t
  | _, _, l => l
def km_set2 : Nat → km_V → km_Ls → km_Ls
  | 0, v, _ :: _ :: t => some v :: none :: t
  | 1, v, a :: _ :: _ :: t => km_un a :: some v :: none :: t
  | n + 2, v, a :: t => a :: km_set2 (n + 1) v t
  | _, _, l => l
def km_sl : List km_V → km_Ls
  | [] => []
  | .inr (.inl x) :: t => some (.inr (.inl x)) :: none :: km_sl t
  | v :: t => some v :: km_sl t
def km_entry (n : Nat) (vs : List km_V) : km_Ls := km_sl vs ++ List.replicate (n - (km_sl vs).length) none
def km_cat : km_V → Nat
  | .inr (.inl _) => 2
  | _ => 1
def km_nx (nx : Nat) (ls : km_Ls) (st : List km_V) (A : km_Al) (m : km_Mm) : Option km_O := some (.inl (nx, ls, st, A, m))
def km_jp (pc : Nat) (off : Int) (ls : km_Ls) (st : List km_V) (A : km_Al) (m : km_Mm) : Option km_O :=
  if 0 ≤ (pc : Int) + off then some (.inl (((pc : Int) + off).toNat, ls, st, A, m)) else none
def km_br (b : Bool) (pc : Nat) (off : Int) (nx : Nat) (ls : km_Ls) (st : List km_V) (A : km_Al) (m : km_Mm) : Option km_O :=
  if 0 ≤ (pc : Int) + off then some (.inl (if b = true then ((pc : Int) + off).toNat else nx, ls, st, A, m)) else none
def km_b2 (f : Int → Int → Option Int) (nx : Nat) (ls : km_Ls) (st : List km_V) (A : km_Al) (m : km_Mm) : Option km_O := match st with
  | .inl y :: .inl x :: r => match f x y with
    | some z => km_nx nx ls (.inl z :: r) A m
    | none => none
  | _ => none
def km_b2L (f : Int → Int → Option Int) (nx : Nat) (ls : km_Ls) (st : List km_V) (A : km_Al) (m : km_Mm) : Option km_O := match st with
  | .inr (.inl y) :: .inr (.inl x) :: r => match f x y with
    | some z => km_nx nx ls (.inr (.inl z) :: r) A m
    | none => none
  | _ => none
def km_iload (i nx : Nat) (ls : km_Ls) (st : List km_V) (A : km_Al) (m : km_Mm) : Option km_O := match km_get ls i with
  | some (.inl x) => km_nx nx ls (.inl x :: st) A m
  | _ => none
def km_lload (i nx : Nat) (ls : km_Ls) (st : List km_V) (A : km_Al) (m : km_Mm) : Option km_O := match km_get ls i with
  | some (.inr (.inl x)) => km_nx nx ls (.inr (.inl x) :: st) A m
  | _ => none
def km_aload (i nx : Nat) (ls : km_Ls) (st : List km_V) (A : km_Al) (m : km_Mm) : Option km_O := match km_get ls i with
  | some (.inr (.inr x)) => if x = -1 then none else km_nx nx ls (.inr (.inr x) :: st) A m
  | _ => none
def km_istore (i nx : Nat) (ls : km_Ls) (st : List km_V) (A : km_Al) (m : km_Mm) : Option km_O := match st with
  | .inl x :: r => if i < ls.length then km_nx nx (km_set1 i (.inl x) ls) r A m else none
  | _ => none
def km_lstore (i nx : Nat) (ls : km_Ls) (st : List km_V) (A : km_Al) (m : km_Mm) : Option km_O := match st with
  | .inr (.inl x) :: r => if i + 1 < ls.length then km_nx nx (km_set2 i (.inr (.inl x)) ls) r A m else none
  | _ => none
def km_astore (i nx : Nat) (ls : km_Ls) (st : List km_V) (A : km_Al) (m : km_Mm) : Option km_O := match st with
  | .inr (.inr x) :: r => if i < ls.length ∧ x ≠ -1 then km_nx nx (km_set1 i (.inr (.inr x)) ls) r A m else none
  | _ => none
def km_iinc (i : Nat) (k : Int) (nx : Nat) (ls : km_Ls) (st : List km_V) (A : km_Al) (m : km_Mm) : Option km_O := match km_get ls i with
  | some (.inl x) => match km_ck (x + k) with
    | some z => if i < ls.length then km_nx nx (km_set1 i (.inl z) ls) st A m else none
    | none => none
  | _ => none
/-- a row of a class's fields: 0 int, 1 long, 2 a reference, 3 boolean -/
def km_tv (t : Nat) (x r : Int) : km_V := if t = 1 then .inr (.inl x) else if t = 2 then .inr (.inr r) else .inl x
def km_getf (f : Option (Nat × Nat × Nat × Bool)) (nx : Nat) (ls : km_Ls) (st : List km_V) (A : km_Al) (m : km_Mm) : Option km_O := match st, f with
  | .inr (.inr a) :: r, some (ci, k, t, _) => if 0 ≤ a ∧ a < (A.1 : Int) ∧ km_kd A a = 10 + (ci : Int) then km_nx nx ls (km_tv t (m a k) (km_rf A a k) :: r) A m else none
  | _, _ => none
def km_putf (own flag : Nat) (f : Option (Nat × Nat × Nat × Bool)) (nx : Nat) (ls : km_Ls) (st : List km_V) (A : km_Al) (m : km_Mm) : Option km_O := match st, f with
  | v :: .inr (.inr a) :: r, some (ci, k, t, fin) => if 0 ≤ a ∧ a < (A.1 : Int) ∧ km_kd A a = 10 + (ci : Int) ∧ (fin = true → flag = 2 ∧ own = ci) then
      (match v with
      | .inl x => if t = 0 ∨ (t = 3 ∧ 0 ≤ x ∧ x ≤ 1) then km_nx nx ls r A (km_up m a k x) else none
      | .inr (.inl x) => if t = 1 then km_nx nx ls r A (km_up m a k x) else none
      | .inr (.inr b) => if t = 2 ∧ 0 ≤ b ∧ b < (A.1 : Int) then km_nx nx ls r (A.1, A.2.1, A.2.2.1, km_up A.2.2.2.1 a k b, A.2.2.2.2) m else none)
    else none
  | _, _ => none
def km_ald (t : Int) (nx : Nat) (ls : km_Ls) (st : List km_V) (A : km_Al) (m : km_Mm) : Option km_O := match st with
  | .inl i :: .inr (.inr a) :: r => if 0 ≤ a ∧ a < (A.1 : Int) ∧ km_kd A a = t ∧ 0 ≤ i ∧ i < km_ln A a then
      km_nx nx ls ((if t = 1 then .inr (.inl (m a i)) else if t = 3 then .inr (.inr (km_rf A a i)) else .inl (m a i)) :: r) A m else none
  | _ => none
def km_ast (t : Int) (nx : Nat) (ls : km_Ls) (st : List km_V) (A : km_Al) (m : km_Mm) : Option km_O := match st with
  | .inl x :: .inl i :: .inr (.inr a) :: r => if 0 ≤ a ∧ a < (A.1 : Int) ∧ km_kd A a = t ∧ 0 ≤ i ∧ i < km_ln A a ∧ (t = 0 ∨ (t = 2 ∧ 0 ≤ x ∧ x ≤ 1)) then km_nx nx ls r A (km_up m a i x) else none
  | .inr (.inl x) :: .inl i :: .inr (.inr a) :: r => if 0 ≤ a ∧ a < (A.1 : Int) ∧ km_kd A a = t ∧ 0 ≤ i ∧ i < km_ln A a ∧ t = 1 then km_nx nx ls r A (km_up m a i x) else none
  | _ => none
def km_sld (nx : Nat) (ls : km_Ls) (st : List km_V) (A : km_Al) (m : km_Mm) : Option km_O := match st with
  | .inl i :: .inr (.inr a) :: r => if a = -2 then (if 0 ≤ i ∧ i < km_ln A (-2) then km_nx nx ls (.inl (m (-2) i) :: r) A m else none) else km_ald 0 nx ls st A m
  | _ => none
def km_alen (nx : Nat) (ls : km_Ls) (st : List km_V) (A : km_Al) (m : km_Mm) : Option km_O := match st with
  | .inr (.inr a) :: r => if a = -2 then km_nx nx ls (.inl (km_ln A (-2)) :: r) A m else if 0 ≤ a ∧ a < (A.1 : Int) ∧ 0 ≤ km_kd A a ∧ km_kd A a < 4 then km_nx nx ls (.inl (km_ln A a) :: r) A m else none
  | _ => none
/-- a new cell: nothing in it -/
def km_new (k n : Int) (sl : Nat) (A : km_Al) : km_Al := (A.1 + 1, km_u1 A.2.1 A.1 k, km_u1 A.2.2.1 A.1 n, (fun b j => if b = (A.1 : Int) then -1 else A.2.2.2.1 b j), A.2.2.2.2.1 + 1, A.2.2.2.2.2 + sl)
def km_zero (A : km_Al) (m : km_Mm) : km_Mm := fun b j => if b = (A.1 : Int) then 0 else m b j
def km_newo (f : Option (Nat × Nat)) (nx : Nat) (ls : km_Ls) (st : List km_V) (A : km_Al) (m : km_Mm) : Option km_O := match f with
  | some (ci, nf) => if A.2.2.2.2.1 = A.1 then km_nx nx ls (.inr (.inr A.1) :: st) (km_new (10 + (ci : Int)) nf nf A) (km_zero A m) else none
  | none => none
def km_newa (t : Option Int) (nx : Nat) (ls : km_Ls) (st : List km_V) (A : km_Al) (m : km_Mm) : Option km_O := match t, st with
  | some k, .inl n :: r => if 0 ≤ n ∧ n ≤ 100000 ∧ A.2.2.2.2.1 = A.1 then km_nx nx ls (.inr (.inr A.1) :: r) (km_new k n n.toNat A) (km_zero A m) else none
  | _, _ => none
/-- n rows of k ints behind each other -/
def km_mult (n k : Nat) (A : km_Al) : km_Al :=
  (A.1 + 1 + n, (fun b => if b = (A.1 : Int) then 3 else if (A.1 : Int) < b ∧ b ≤ A.1 + n then 0 else A.2.1 b), (fun b => if b = (A.1 : Int) then n else if (A.1 : Int) < b ∧ b ≤ A.1 + n then k else A.2.2.1 b),
    (fun b j => if b = (A.1 : Int) then A.1 + 1 + j else A.2.2.2.1 b j), A.2.2.2.2.1 + (1 + n), A.2.2.2.2.2 + (n + n * k))
def km_zeros (n : Nat) (A : km_Al) (m : km_Mm) : km_Mm := fun b j => if (A.1 : Int) ≤ b ∧ b ≤ A.1 + n then 0 else m b j
def km_newm (nx : Nat) (ls : km_Ls) (st : List km_V) (A : km_Al) (m : km_Mm) : Option km_O := match st with
  | .inl k :: .inl n :: r => if 0 ≤ n ∧ n ≤ 1000 ∧ 0 ≤ k ∧ k ≤ 100000 ∧ A.2.2.2.2.1 = A.1 then km_nx nx ls (.inr (.inr A.1) :: r) (km_mult n.toNat k.toNat A) (km_zeros n.toNat A m) else none
  | _ => none
/-- the receiver is an object of the method's class -/
def km_rcv (ci : Nat) (A : km_Al) (as : List km_V) : Bool := match as with
  | .inr (.inr a) :: _ => decide (0 ≤ a ∧ a < (A.1 : Int) ∧ km_kd A a = 10 + (ci : Int))
  | _ => false
def km_na (M : km_Md) (kind : Nat) : Nat := M.2.2.2.2.2.2.1 + (if kind = 1 then 0 else 1)
def km_callOk (M : km_Md) (kind dep : Nat) (A : km_Al) (st : List km_V) : Bool :=
  decide (km_na M kind ≤ st.length ∧ M.2.2.2.2.2.2.2 % 10 = kind ∧ M.2.2.2.2.2.1 < dep ∧ ((st.drop (km_na M kind)).map km_cat).sum ≤ 8 ∧ (km_sl (st.take (km_na M kind)).reverse).length ≤ M.2.2.2.1) && (decide (kind = 1) || km_rcv M.2.1 A (st.take (km_na M kind)).reverse)
def km_call (f : Option (km_Md × Bool)) (kind : Nat) (nx : Nat) (st : List km_V) (A : km_Al) (dep : Nat) : Option km_O := match f with
  | none => none
  | some (M, _) => if km_callOk M kind dep A st = true then some (.inr (.inl (M, (st.take (km_na M kind)).reverse, nx, st.drop (km_na M kind)))) else none
def km_ret (k : Nat) (ty : Option FieldType) (st : List km_V) : Option km_O := match k, st with
  | 0, [.inl x] => if ty = some .int ∨ (ty = some .boolean ∧ 0 ≤ x ∧ x ≤ 1) then some (.inr (.inr (some (.inl x)))) else none
  | 1, [.inr (.inl x)] => if ty = some .long then some (.inr (.inr (some (.inr (.inl x))))) else none
  | 2, [] => if ty = none then some (.inr (.inr none)) else none
  | _, _ => none
