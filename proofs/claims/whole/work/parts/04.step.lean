/-- how long an instruction is, but a switch -/
def km_len : Instr → Nat
  | .bipush _ | .iload _ | .lload _ | .aload _ | .istore _ | .lstore _ | .astore _ | .ldc _ | .newarray _ => 2
  | .sipush _ | .ldc_w _ | .ldc2_w _ | .getfield _ | .putfield _ | .iinc _ _ | .goto _ | .ifCond _ _ | .if_icmp _ _ | .new _ | .invokevirtual _ | .invokespecial _ | .invokestatic _ => 3
  | .multianewarray _ _ => 4
  | .tableswitch _ _ _ _ => 0
  | .lookupswitch _ _ => 0
  | _ => 1
def km_isObjInit (own idx : Nat) : Bool := (km_oi own).contains idx
/-- Math.max, min of ints (1, 2), of longs (3, 4), Math.abs of a long (5), System.arraycopy of ints (6) -/
def km_mop (o dep nx : Nat) (ls : km_Ls) (st : List km_V) (A : km_Al) (m : km_Mm) : Option km_O := match o, st with
  | 1, .inl y :: .inl x :: r => if (r.map km_cat).sum ≤ 8 ∧ 1 ≤ dep then km_nx nx ls (.inl (if x < y then y else x) :: r) A m else none
  | 2, .inl y :: .inl x :: r => if (r.map km_cat).sum ≤ 8 ∧ 1 ≤ dep then km_nx nx ls (.inl (if y < x then y else x) :: r) A m else none
  | 3, .inr (.inl y) :: .inr (.inl x) :: r => if (r.map km_cat).sum ≤ 8 ∧ 1 ≤ dep then km_nx nx ls (.inr (.inl (if y < x then x else y)) :: r) A m else none
  | 4, .inr (.inl y) :: .inr (.inl x) :: r => if (r.map km_cat).sum ≤ 8 ∧ 1 ≤ dep then km_nx nx ls (.inr (.inl (if y < x then y else x)) :: r) A m else none
  | 5, .inr (.inl x) :: r => if (r.map km_cat).sum ≤ 8 ∧ 1 ≤ dep ∧ x ≠ -9223372036854775808 then km_nx nx ls (.inr (.inl (if 0 < x then x else -x)) :: r) A m else none
  | 6, .inl n :: .inl j :: .inr (.inr b) :: .inl i :: .inr (.inr a) :: r => if (r.map km_cat).sum ≤ 8 ∧ 1 ≤ dep ∧ 0 ≤ a ∧ a < (A.1 : Int) ∧ km_kd A a = 0 ∧ 0 ≤ b ∧ b < (A.1 : Int) ∧ km_kd A b = 0 ∧ 0 ≤ i ∧ 0 ≤ j ∧ 0 ≤ n ∧ i + n ≤ km_ln A a ∧ j + n ≤ km_ln A b then
      km_nx nx ls r A (fun c k => if c = b ∧ j ≤ k ∧ k < j + n then m a (k - j + i) else m c k) else none
  | _, _ => none
/-- the two constant texts: their places in the class's table; their letters; what is asked of them (1 length, 2 charAt, 3 indexOf) -/
def km_wl : List Int := [115, 99, 111, 114, 101, 32, 98, 97, 114, 32, 112, 97, 121, 32, 104, 111, 115, 116, 32, 111, 114, 32, 97, 110, 100, 32, 110, 111, 116, 32, 105, 102, 32, 115, 117, 109, 32, 109, 97, 120, 32, 109, 105, 110, 32, 99, 111, 117, 110, 116, 32, 108, 97, 110, 100, 32, 100, 97, 121, 32, 102, 97, 114, 101, 32, 99, 111, 109, 101, 32, 104, 111, 109, 101, 32, 98, 114, 97, 110, 99, 104, 32, 97, 103, 101, 32, 109, 101, 97, 110, 115, 32, 99, 97, 110, 32, 114, 101, 103, 114, 101, 116, 32, 109, 105, 108, 101, 115, 32, 116, 105, 109, 101, 115, 32, 108, 97, 115, 116, 32, 112, 101, 111, 112, 108, 101, 32, 109, 105, 110, 101, 32]
def km_six (c : Int) : Int := if c = 59 then 0 else if c = 40 then 1 else if c = 41 then 2 else if c = 43 then 3 else if c = 45 then 4 else if c = 42 then 5 else if c = 47 then 6 else if c = 37 then 7 else if c = 60 then 8 else if c = 61 then 9 else if c = 62 then 10 else -1
def km_st (o i : Nat) : Option Int := if o = 10 ∧ i = 68 then some (-3) else if o = 10 ∧ i = 61 then some (-4) else none
def km_so (o i : Nat) : Option Nat := if o = 10 ∧ i = 70 then some 1 else if o = 10 ∧ i = 73 then some 2 else if o = 10 ∧ i = 63 then some 3 else none
def km_sop (o dep nx : Nat) (ls : km_Ls) (st : List km_V) (A : km_Al) (m : km_Mm) : Option km_O := match o, st with
  | 1, .inr (.inr a) :: r => if (r.map km_cat).sum ≤ 8 ∧ 6 < dep ∧ a = -3 then km_nx nx ls (.inl 132 :: r) A m else none
  | 2, .inl i :: .inr (.inr a) :: r => if (r.map km_cat).sum ≤ 8 ∧ 6 < dep ∧ a = -3 ∧ 0 ≤ i ∧ i < 132 then km_nx nx ls (.inl (km_wl.getD i.toNat 0) :: r) A m else none
  | 3, .inl c :: .inr (.inr a) :: r => if (r.map km_cat).sum ≤ 8 ∧ 6 < dep ∧ a = -4 ∧ 0 ≤ c ∧ c < 65536 then km_nx nx ls (.inl (km_six c) :: r) A m else none
  | _, _ => none
def km_ex (M : km_Md) (i : Instr) (pc nx : Nat) (ls : km_Ls) (st : List km_V) (A : km_Al) (m : km_Mm) : Option km_O := match i with
  | .iconst n => if -1 ≤ n ∧ n ≤ 5 then km_nx nx ls (.inl n :: st) A m else none
  | .bipush n => if -128 ≤ n ∧ n ≤ 127 then km_nx nx ls (.inl n :: st) A m else none
  | .sipush n => if -32768 ≤ n ∧ n ≤ 32767 then km_nx nx ls (.inl n :: st) A m else none
  | .lconst n => km_nx nx ls (.inr (.inl ((n : Nat) : Int)) :: st) A m
  | .ldc k => match km_cs M.2.1 k with
    | some x => km_nx nx ls (.inl x :: st) A m
    | none => match km_st M.2.1 k with
      | some x => km_nx nx ls (.inr (.inr x) :: st) A m
      | none => none
  | .ldc_w k => match km_cs M.2.1 k with
    | some x => km_nx nx ls (.inl x :: st) A m
    | none => none
  | .ldc2_w k => match km_cl M.2.1 k with
    | some x => km_nx nx ls (.inr (.inl x) :: st) A m
    | none => none
  | .iload_n k => km_iload k nx ls st A m
  | .iload k => km_iload k nx ls st A m
  | .lload_n k => km_lload k nx ls st A m
  | .lload k => km_lload k nx ls st A m
  | .aload_n k => km_aload k nx ls st A m
  | .aload k => km_aload k nx ls st A m
  | .istore_n k => km_istore k nx ls st A m
  | .istore k => km_istore k nx ls st A m
  | .lstore_n k => km_lstore k nx ls st A m
  | .lstore k => km_lstore k nx ls st A m
  | .astore_n k => km_astore k nx ls st A m
  | .astore k => km_astore k nx ls st A m
  | .iinc k n => km_iinc k n nx ls st A m
  | .iadd => km_b2 (fun x y => km_ck (x + y)) nx ls st A m
  | .isub => km_b2 (fun x y => km_ck (x - y)) nx ls st A m
  | .imul => km_b2 (fun x y => km_ck (x * y)) nx ls st A m
  | .irem => km_b2 (fun x y => if y = 0 then none else km_ck (x.tmod y)) nx ls st A m
  | .iand => km_b2 (fun x y => some (km_and x y)) nx ls st A m
  | .ior => km_b2 (fun x y => some (km_or x y)) nx ls st A m
  | .ixor => km_b2 (fun x y => some (km_xor x y)) nx ls st A m
  | .ishl => km_b2 (fun x y => some (km_shl x y)) nx ls st A m
  | .ishr => km_b2 (fun x y => some (km_shr x y)) nx ls st A m
  | .iushr => km_b2 (fun x y => some (km_ushr x y)) nx ls st A m
  | .ladd => km_b2L (fun x y => km_ckL (x + y)) nx ls st A m
  | .lsub => km_b2L (fun x y => km_ckL (x - y)) nx ls st A m
  | .lmul => km_b2L (fun x y => km_ckL (x * y)) nx ls st A m
  | .ldiv => km_b2L (fun x y => if y = 0 then none else km_ckL (x.tdiv y)) nx ls st A m
  | .lrem => km_b2L (fun x y => if y = 0 then none else km_ckL (x.tmod y)) nx ls st A m
  | .ineg => match st with
    | .inl x :: r => match km_ck (-x) with
      | some z => km_nx nx ls (.inl z :: r) A m
      | none => none
    | _ => none
  | .lneg => match st with
    | .inr (.inl x) :: r => match km_ckL (-x) with
      | some z => km_nx nx ls (.inr (.inl z) :: r) A m
      | none => none
    | _ => none
  | .lcmp => match st with
    | .inr (.inl y) :: .inr (.inl x) :: r => km_nx nx ls (.inl (km_lcmp x y) :: r) A m
    | _ => none
  | .i2l => match st with
    | .inl x :: r => km_nx nx ls (.inr (.inl x) :: r) A m
    | _ => none
  | .l2i => match st with
    | .inr (.inl x) :: r => match km_ck x with
      | some z => km_nx nx ls (.inl z :: r) A m
      | none => none
    | _ => none
  | .i2c => match st with
    | .inl x :: r => if 0 ≤ x ∧ x < 65536 then km_nx nx ls (.inl x :: r) A m else none
    | _ => none
  | .dup => match st with
    | v :: r => if km_cat v = 1 then km_nx nx ls (v :: v :: r) A m else none
    | _ => none
  | .pop => match st with
    | v :: r => if km_cat v = 1 then km_nx nx ls r A m else none
    | _ => none
  | .dup2 => match st with
    | v :: r => if km_cat v = 2 then km_nx nx ls (v :: v :: r) A m else (match r with
      | w :: r2 => if km_cat w = 1 then km_nx nx ls (v :: w :: v :: w :: r2) A m else none
      | _ => none)
    | _ => none
  | .goto o => km_jp pc o ls st A m
  | .ifCond c o => match st with
    | .inl x :: r => km_br (km_cmp c x 0) pc o nx ls r A m
    | _ => none
  | .if_icmp c o => match st with
    | .inl y :: .inl x :: r => km_br (km_cmp c x y) pc o nx ls r A m
    | _ => none
  | .tableswitch d lo hi offs => match st with
    | .inl x :: r => if x < lo ∨ hi < x then km_jp pc d ls r A m else (match offs[(x - lo).toNat]? with
      | some o => km_jp pc o ls r A m
      | none => none)
    | _ => none
  | .lookupswitch d ps => match st with
    | .inl x :: r => if (ps.toList.zip (ps.toList.drop 1)).all (fun (a, next) => a.1 < next.1) = true then km_jp pc (Op.lookupswitch.offset ps.toList d x) ls r A m else none
    | _ => none
  | .getfield k => km_getf (km_fl M.2.1 k) nx ls st A m
  | .putfield k => km_putf M.2.1 M.2.2.2.2.2.2.2 (km_fl M.2.1 k) nx ls st A m
  | .iaload => km_sld nx ls st A m
  | .laload => km_ald 1 nx ls st A m
  | .baload => km_ald 2 nx ls st A m
  | .aaload => km_ald 3 nx ls st A m
  | .iastore => km_ast 0 nx ls st A m
  | .lastore => km_ast 1 nx ls st A m
  | .bastore => km_ast 2 nx ls st A m
  | .arraylength => km_alen nx ls st A m
  | .new k => km_newo (km_nw M.2.1 k) nx ls st A m
  | .newarray t => km_newa (match t with | .int => some 0 | .long => some 1 | .boolean => some 2 | _ => none) nx ls st A m
  | .multianewarray k d => if d = 2 ∧ (km_mi M.2.1).contains k = true then km_newm nx ls st A m else none
  | .invokespecial k => if km_isObjInit M.2.1 k = true then (match st with
      | .inr (.inr x) :: r => if (r.map km_cat).sum ≤ 8 ∧ 1 ≤ M.2.2.2.2.2.1 ∧ x ≠ -1 then km_nx nx ls r A m else none
      | _ => none) else km_call (km_mt M.2.1 k) 2 nx st A M.2.2.2.2.2.1
  | .invokevirtual k => match km_so M.2.1 k with
    | some o => km_sop o M.2.2.2.2.2.1 nx ls st A m
    | none => km_call (km_mt M.2.1 k) 0 nx st A M.2.2.2.2.2.1
  | .invokestatic k => match km_op M.2.1 k with
    | some o => km_mop o M.2.2.2.2.2.1 nx ls st A m
    | none => km_call (km_mt M.2.1 k) 1 nx st A M.2.2.2.2.2.1
  | .ireturn => km_ret 0 M.2.2.2.2.1 st
  | .lreturn => km_ret 1 M.2.2.2.2.1 st
  | .return_ => km_ret 2 M.2.2.2.2.1 st
  | _ => none
def km_go (M : km_Md) (d : Except DecodeError (Instr × Nat)) (pc : Nat) (ls : km_Ls) (st : List km_V) (A : km_Al) (m : km_Mm) : Option km_O := match d with
  | .ok (i, n) => if km_len i = 0 ∨ n = km_len i then km_ex M i pc (pc + n) ls st A m else none
  | .error _ => none
def km_step (M : km_Md) (pc : Nat) (ls : km_Ls) (st : List km_V) (A : km_Al) (m : km_Mm) : Option km_O := km_go M (decode M.1 pc) pc ls st A m
/-- what has no bytecode here: Book.traitFits (20) .. by its flag -/
def km_intr (M : km_Md) (as : List km_V) (A : km_Al) (m : km_Mm) : Option km_Rs := match M.2.2.2.2.2.2.2, as with
  | 20, [.inr (.inr _), .inl w, .inl v] => some (some (.inl (if 0 ≤ w ∧ w < 5 ∧ 0 ≤ v ∧ v < (if w = 0 then 6 else if w = 2 then 100 else if w = 4 then 2 else 4) then 1 else 0)), A, m)
  | _, _ => none
def km_run : Nat → km_Md → Nat → km_Ls → List km_V → km_Al → km_Mm → Option km_Rs
  | 0, _, _, _, _, _, _ => none
  | n + 1, M, pc, ls, st, A, m => match km_step M pc ls st A m with
    | none => none
    | some (.inl (pc', ls', st', A', m')) => km_run n M pc' ls' st' A' m'
    | some (.inr (.inl (M', as, nx, rest))) => match (if 10 ≤ M'.2.2.2.2.2.2.2 then km_intr M' as A m else km_run n M' 0 (km_entry M'.2.2.2.1 as) [] A m) with
      | none => none
      | some (v, A', m') => km_run n M nx ls (v.toList ++ rest) A' m'
    | some (.inr (.inr v)) => some (v, A, m)
