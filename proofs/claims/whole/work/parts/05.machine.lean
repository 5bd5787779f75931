/-! THE SMALL MACHINE: the program's instructions over a picture of the heap: a plan of cells by handles (arrays: type, length, handles held; objects: class, references held), the ints and the longs in them by handle and place -/
abbrev am_Lay : Type := (FieldType × Nat × List (Option Nat)) ⊕ (Nat × List (Option Value))
abbrev am_L : Type := List (Option Value)
abbrev am_I : Type := Nat → Nat → Int32
abbrev am_J : Type := Nat → Nat → Int64
abbrev am_R : Type := Option Value × List am_Lay × am_I × am_J
abbrev am_K : Type := Nat → Nat → Nat → am_L → List Value → List am_Lay → am_I → am_J → Option am_R
/-- arrays that are only read: the script, static ones -/
abbrev am_X : Type := (Nat → Option (Nat × (Nat → Int32))) × (Nat → Option (Nat × (Nat → Int64)))
def am_up {α : Type} (I : Nat → Nat → α) (h k : Nat) (x : α) : Nat → Nat → α := fun a b => if a = h then (if b = k then x else I a b) else I a b
def am_ix (i : Int32) (n : Nat) : Option Nat := if i < 0 ∨ n ≤ i.toNatClampNeg then none else some i.toNatClampNeg
def am_find (k : Nat) : List (Nat × am_E) → Option am_E
  | [] => none
  | q :: r => bif Nat.beq q.1 k then some q.2 else am_find k r
def am_ent (mid pc : Nat) : Option am_E := (am_CT[mid]?).bind fun c => (c[pc / 16]?).bind fun l => am_find (pc % 16) l
def am_cut (ls : am_L) (a : Nat) : am_L := match a with
  | 0 => ls
  | b + 1 => match ls[b]? with
    | some (some v) => bif Nat.beq v.category 2 then ls.set b none else ls
    | _ => ls
def am_set (ls : am_L) (a : Nat) (v : Value) : am_L := bif Nat.beq v.category 2 then ((am_cut ls a).set a (some v)).set (a + 1) none else (am_cut ls a).set a (some v)
def am_sl : List Value → am_L
  | [] => []
  | v :: r => bif Nat.beq v.category 2 then some v :: none :: am_sl r else some v :: am_sl r
def am_args (n : Nat) (vs : List Value) : am_L := am_sl vs ++ List.replicate (n - (am_sl vs).length) none
def am_ldok : Instr → Value → Bool
  | .iload _, .int _ => true
  | .iload_n _, .int _ => true
  | .lload _, .long _ => true
  | .lload_n _, .long _ => true
  | .aload _, .ref _ => true
  | .aload_n _, .ref _ => true
  | _, _ => false
def am_stok : Instr → Value → Bool
  | .istore _, .int _ => true
  | .istore_n _, .int _ => true
  | .lstore _, .long _ => true
  | .lstore_n _, .long _ => true
  | .astore _, .ref _ => true
  | .astore_n _, .ref _ => true
  | _, _ => false
def am_alu (i : Instr) (st : List Value) : Option (List Value) := match i, st with
  | .iadd, .int y :: .int x :: r => some (.int (x + y) :: r)
  | .isub, .int y :: .int x :: r => some (.int (x - y) :: r)
  | .imul, .int y :: .int x :: r => some (.int (x * y) :: r)
  | .iand, .int y :: .int x :: r => some (.int (x &&& y) :: r)
  | .ior, .int y :: .int x :: r => some (.int (x ||| y) :: r)
  | .ixor, .int y :: .int x :: r => some (.int (x ^^^ y) :: r)
  | .ishl, .int y :: .int x :: r => some (.int (x <<< (y &&& 31)) :: r)
  | .ishr, .int y :: .int x :: r => some (.int (x >>> (y &&& 31)) :: r)
  | .iushr, .int y :: .int x :: r => some (.int (x.toUInt32 >>> (y.toUInt32 &&& Int32.toUInt32 31)).toInt32 :: r)
  | .idiv, .int y :: .int x :: r => if y = 0 then none else some (.int (x / y) :: r)
  | .irem, .int y :: .int x :: r => if y = 0 then none else some (.int (x - x / y * y) :: r)
  | .land, .long y :: .long x :: r => some (.long (x &&& y) :: r)
  | .lor, .long y :: .long x :: r => some (.long (x ||| y) :: r)
  | .lshl, .int y :: .long x :: r => some (.long (x <<< (y.toInt64 &&& 63)) :: r)
  | .lshr, .int y :: .long x :: r => some (.long (x >>> (y.toInt64 &&& 63)) :: r)
  | .lushr, .int y :: .long x :: r => some (.long (x.toUInt64 >>> (y.toInt64.toUInt64 &&& Int64.toUInt64 63)).toInt64 :: r)
  | .lcmp, .long y :: .long x :: r => some (.int (lg_cmp x y) :: r)
  | .i2l, .int x :: r => some (.long x.toInt64 :: r)
  | .l2i, .long x :: r => some (.int x.toInt32 :: r)
  | .i2b, .int x :: r => some (.int x.toInt8.toInt32 :: r)
  | .dup, v :: r => bif Nat.beq v.category 1 then some (v :: v :: r) else none
  | .dup2, v :: u :: r => bif Nat.beq v.category 1 && Nat.beq u.category 1 then some (v :: u :: v :: u :: r) else none
  | _, _ => none
def am_sw (dflt : Nat) (x : Int32) : List (Int32 × Nat) → Nat
  | [] => dflt
  | q :: r => if x = q.1 then q.2 else am_sw dflt x r
def am_br (K : am_K) (d mid pc : Nat) (ls : am_L) (st : List Value) (lay : List am_Lay) (I : am_I) (J : am_J) (i : Instr) (len a : Nat) (sw : List (Int32 × Nat)) : Option am_R := match i, st with
  | .goto _, st => K d mid a ls st lay I J
  | .ifCond .eq _, .int x :: r => if x = 0 then K d mid a ls r lay I J else K d mid (pc + len) ls r lay I J
  | .ifCond .ne _, .int x :: r => if x = 0 then K d mid (pc + len) ls r lay I J else K d mid a ls r lay I J
  | .ifCond .lt _, .int x :: r => if x < 0 then K d mid a ls r lay I J else K d mid (pc + len) ls r lay I J
  | .ifCond .ge _, .int x :: r => if 0 ≤ x then K d mid a ls r lay I J else K d mid (pc + len) ls r lay I J
  | .ifCond .gt _, .int x :: r => if 0 < x then K d mid a ls r lay I J else K d mid (pc + len) ls r lay I J
  | .ifCond .le _, .int x :: r => if x ≤ 0 then K d mid a ls r lay I J else K d mid (pc + len) ls r lay I J
  | .if_icmp .eq _, .int y :: .int x :: r => if x = y then K d mid a ls r lay I J else K d mid (pc + len) ls r lay I J
  | .if_icmp .ne _, .int y :: .int x :: r => if x = y then K d mid (pc + len) ls r lay I J else K d mid a ls r lay I J
  | .if_icmp .lt _, .int y :: .int x :: r => if x < y then K d mid a ls r lay I J else K d mid (pc + len) ls r lay I J
  | .if_icmp .ge _, .int y :: .int x :: r => if y ≤ x then K d mid a ls r lay I J else K d mid (pc + len) ls r lay I J
  | .if_icmp .gt _, .int y :: .int x :: r => if y < x then K d mid a ls r lay I J else K d mid (pc + len) ls r lay I J
  | .if_icmp .le _, .int y :: .int x :: r => if x ≤ y then K d mid a ls r lay I J else K d mid (pc + len) ls r lay I J
  | .tableswitch _ _ _ _, .int x :: r => K d mid (am_sw a x sw) ls r lay I J
  | .lookupswitch _ _, .int x :: r => K d mid (am_sw a x sw) ls r lay I J
  | _, _ => none
/-- what an array of ints (of bytes, of booleans) holds; of longs; of references -/
def am_ints (X : am_X) (lay : List am_Lay) (I : am_I) (h : Nat) : Option (FieldType × Nat × (Nat → Int32)) := match lay[h]? with
  | some (.inl (ty, n, _)) => some (ty, n, I h)
  | some (.inr _) => none
  | none => (X.1 h).map fun q => (.int, q)
def am_lngs (X : am_X) (lay : List am_Lay) (J : am_J) (h : Nat) : Option (FieldType × Nat × (Nat → Int64)) := match lay[h]? with
  | some (.inl (ty, n, _)) => some (ty, n, J h)
  | some (.inr _) => none
  | none => (X.2 h).map fun q => (.long, q)
def am_fld (I : am_I) (h k : Nat) (fs : List (Option Value)) : Option Value := match fs[k]? with
  | some (some v) => some v
  | some none => some (.int (I h k))
  | none => none
def am_rf (r : Option Nat) : Value := match r with
  | some h => .ref h
  | none => .null
def am_hr (X : am_X) (K : am_K) (d mid pc : Nat) (ls : am_L) (st : List Value) (lay : List am_Lay) (I : am_I) (J : am_J) (i : Instr) (len a b : Nat) : Option am_R := match i, st with
  | .getfield _, .ref h :: r => match lay[h]? with
    | some (.inr (ci, fs)) => bif Nat.beq ci a then (am_fld I h b fs).bind fun v => K d mid (pc + len) ls (v :: r) lay I J else none
    | _ => none
  | .iaload, .int j :: .ref h :: r => match am_ints X lay I h with
    | some (.int, n, f) => (am_ix j n).bind fun q => K d mid (pc + len) ls (.int (f q) :: r) lay I J
    | _ => none
  | .baload, .int j :: .ref h :: r => match am_ints X lay I h with
    | some (.byte, n, f) => (am_ix j n).bind fun q => K d mid (pc + len) ls (.int (f q) :: r) lay I J
    | some (.boolean, n, f) => (am_ix j n).bind fun q => K d mid (pc + len) ls (.int (f q) :: r) lay I J
    | _ => none
  | .laload, .int j :: .ref h :: r => match am_lngs X lay J h with
    | some (.long, n, f) => (am_ix j n).bind fun q => K d mid (pc + len) ls (.long (f q) :: r) lay I J
    | _ => none
  | .aaload, .int j :: .ref h :: r => match lay[h]? with
    | some (.inl (.object _, n, L)) => (am_ix j n).bind fun q => K d mid (pc + len) ls (am_rf (L.getD q none) :: r) lay I J
    | _ => none
  | .arraylength, .ref h :: r => match am_ints X lay I h with
    | some (_, n, _) => K d mid (pc + len) ls (.int (Int32.ofNat n) :: r) lay I J
    | none => match X.2 h with
      | some (n, _) => match lay[h]? with
        | none => K d mid (pc + len) ls (.int (Int32.ofNat n) :: r) lay I J
        | some _ => none
      | none => none
  | _, _ => none
/-- whether a class's field may be set by this value (ty: the field's type) -/
def am_pok (ty : FieldType) (v : Value) : Bool := match ty, v with
  | .int, .int _ => true
  | .boolean, .int x => x == 0 || x == 1
  | .object _, .ref _ => true
  | .array _, .ref _ => true
  | _, _ => false
def am_fty (ci k : Nat) : Option FieldType := (am_cl[ci]?).bind fun r => parseFieldDescriptor (r.2.1 k).2.2.1
def am_hw (K : am_K) (d mid pc : Nat) (ls : am_L) (st : List Value) (lay : List am_Lay) (I : am_I) (J : am_J) (i : Instr) (len a b : Nat) (imm : Value) : Option am_R := match i, st with
  | .putfield _, .int x :: .ref h :: r => match lay[h]? with
    | some (.inr (ci, fs)) => match fs[b]? with
      | some none => bif Nat.beq ci a && (Value.isDefault imm || (x == 0 || x == 1)) then K d mid (pc + len) ls r lay (am_up I h b x) J else none
      | _ => none
    | _ => none
  | .putfield _, .ref q :: .ref h :: r => match lay[h]? with
    | some (.inr (ci, fs)) => match fs[b]? with
      | some (some _) => bif Nat.beq ci a then K d mid (pc + len) ls r (lay.set h (.inr (ci, fs.set b (some (.ref q))))) I J else none
      | _ => none
    | _ => none
  | .iastore, .int x :: .int j :: .ref h :: r => match lay[h]? with
    | some (.inl (.int, n, _)) => (am_ix j n).bind fun q => K d mid (pc + len) ls r lay (am_up I h q x) J
    | _ => none
  | .bastore, .int x :: .int j :: .ref h :: r => match lay[h]? with
    | some (.inl (.byte, n, _)) => (am_ix j n).bind fun q => K d mid (pc + len) ls r lay (am_up I h q (vp_nar .byte x)) J
    | some (.inl (.boolean, n, _)) => (am_ix j n).bind fun q => K d mid (pc + len) ls r lay (am_up I h q (vp_nar .boolean x)) J
    | _ => none
  | .lastore, .long x :: .int j :: .ref h :: r => match lay[h]? with
    | some (.inl (.long, n, _)) => (am_ix j n).bind fun q => K d mid (pc + len) ls r lay I (am_up J h q x)
    | _ => none
  | .aastore, .ref v :: .int j :: .ref h :: r => match lay[h]? with
    | some (.inl (.object C, n, L)) => match lay[v]? with
      | some (.inr (ci, _)) => match am_cl[ci]? with
        | some rc => bif decide (rc.1 = C) && Nat.beq L.length n then (am_ix j n).bind fun q => K d mid (pc + len) ls r (lay.set h (.inl (.object C, n, L.set q (some v)))) I J else none
        | none => none
      | _ => none
    | _ => none
  | _, _ => none
/-- the fields of a new object: references null, ints 0 -/
def am_bf (ds : String) : Option Value := match ds.toList with
  | 'I' :: _ => none
  | 'Z' :: _ => none
  | _ => some .null
def am_born (ci : Nat) : Option (List (Option Value)) := (am_cl[ci]?).map fun r => (List.range r.2.2).map fun k => am_bf (r.2.1 k).2.2.1
def am_al (K : am_K) (d mid pc : Nat) (ls : am_L) (st : List Value) (lay : List am_Lay) (I : am_I) (J : am_J) (i : Instr) (len a : Nat) : Option am_R := bif Nat.blt lay.length 1000 then match i, st with
  | .new _, st => (am_born a).bind fun fs => K d mid (pc + len) ls (.ref lay.length :: st) (lay ++ [.inr (a, fs)]) I J
  | .newarray ty, .int n :: r => bif decide (¬ n < 0) && (Nat.ble n.toNatClampNeg 65536 && (ty == .int || ty == .byte || ty == .boolean || ty == .long)) then K d mid (pc + len) ls (.ref lay.length :: r) (lay ++ [.inl (newarray.typeOf ty, n.toNatClampNeg, [])]) I J else none
  | .anewarray _, .int n :: r => bif decide (¬ n < 0) && Nat.ble n.toNatClampNeg 65536 then match am_cl[a]? with
      | some rc => K d mid (pc + len) ls (.ref lay.length :: r) (lay ++ [.inl (.object rc.1, n.toNatClampNeg, List.replicate n.toNatClampNeg none)]) I J
      | none => none
    else none
  | _, _ => none
  else none
def am_vsum (st : List Value) : Nat := (st.map fun v => v.category).sum
/-- how many values a call takes, the receiver among them -/
def am_tk (i : Instr) (b : Nat) : Nat := match i with
  | .invokestatic _ => b
  | _ => b + 1
/-- a virtual call's receiver is an object of the method's class -/
def am_rok (i : Instr) (y : MethodName) (lay : List am_Lay) (vs : List Value) : Bool := match i, vs with
  | .invokestatic _, _ => true
  | .invokespecial _, .ref _ :: _ => true
  | .invokevirtual _, .ref h :: _ => match lay[h]? with
    | some (.inr (ci, _)) => match am_cl[ci]? with
      | some rc => decide (rc.1 = y.cls)
      | none => false
    | _ => false
  | _, _ => false
/-- the methods that are called by contract: not the law, not Math's two -/
def am_cok (a : Nat) : Bool := Nat.blt a 147 && (!(Nat.beq a 88) && !(Nat.beq a 139))
/-- Math.max, Math.min -/
def am_mm (K : am_K) (d mid pc : Nat) (ls : am_L) (st : List Value) (lay : List am_Lay) (I : am_I) (J : am_J) (i : Instr) (f : Int32 → Int32 → Int32) : Option am_R := match d, i, st with
  | _ + 1, .invokestatic _, .int y :: .int x :: r => bif Nat.ble (am_vsum r) 8 then K d mid (pc + 3) ls (.int (f x y) :: r) lay I J else none
  | _, _, _ => none
def am_call (K : am_K) (d mid pc : Nat) (ls : am_L) (st : List Value) (lay : List am_Lay) (I : am_I) (J : am_J) (i : Instr) (a b : Nat) : Option am_R := match d, am_MT[a]? with
  | d' + 1, some me => bif am_cok a && (Nat.ble (am_tk i b) st.length && (Nat.ble (am_vsum (st.drop (am_tk i b))) 8 && (Nat.ble (am_sl (st.take (am_tk i b)).reverse).length me.2.2.1 && am_rok i me.1 lay (st.take (am_tk i b)).reverse))) then
      (K d' a 0 (am_args me.2.2.1 (st.take (am_tk i b)).reverse) [] lay I J).bind fun q => K d mid (pc + 3) ls (q.1.toList ++ st.drop (am_tk i b)) q.2.1 q.2.2.1 q.2.2.2
    else none
  | _, _ => none
def am_ret (mid : Nat) (st : List Value) (lay : List am_Lay) (I : am_I) (J : am_J) (i : Instr) : Option am_R := match am_MT[mid]? with
  | some me => match i, me.2.2.2, st with
    | .ireturn, some .int, [.int v] => some (some (.int v), lay, I, J)
    | .ireturn, some .boolean, [.int v] => if v = 0 ∨ v = 1 then some (some (.int v), lay, I, J) else none
    | .lreturn, some .long, [.long v] => some (some (.long v), lay, I, J)
    | .areturn, some (.object _), [.ref h] => some (some (.ref h), lay, I, J)
    | .return_, none, [] => some (none, lay, I, J)
    | _, _, _ => none
  | none => none
def am_step (X : am_X) (K : am_K) : am_K := fun d mid pc ls st lay I J => match am_ent mid pc with
  | none => none
  | some (t, i, len, imm, a, b, _, sw) => match t with
    | 0 => K d mid (pc + len) ls (imm :: st) lay I J
    | 1 => match ls[a]? with
      | some (some v) => bif am_ldok i v then K d mid (pc + len) ls (v :: st) lay I J else none
      | _ => none
    | 2 => match st with
      | v :: r => bif am_stok i v then K d mid (pc + len) (am_set ls a v) r lay I J else none
      | [] => none
    | 3 => (am_alu i st).bind fun r => K d mid (pc + len) ls r lay I J
    | 4 => am_br K d mid pc ls st lay I J i len a sw
    | 5 => am_hr X K d mid pc ls st lay I J i len a b
    | 6 => am_hw K d mid pc ls st lay I J i len a b imm
    | 7 => am_al K d mid pc ls st lay I J i len a
    | 8 => bif Nat.beq a 88 then am_mm K d mid pc ls st lay I J i (fun x y => if x < y then y else x) else bif Nat.beq a 139 then am_mm K d mid pc ls st lay I J i (fun x y => if y < x then y else x) else am_call K d mid pc ls st lay I J i a b
    | 9 => am_ret mid st lay I J i
    | 10 => match ls[a]?, imm with
      | some (some (.int x)), .int c => K d mid (pc + len) (am_set ls a (.int (x + c))) st lay I J
      | _, _ => none
    | 11 => match d, st with
      | _ + 1, .ref _ :: r => bif Nat.ble (am_vsum r) 8 then K d mid (pc + 3) ls r lay I J else none
      | _, _ => none
    | 12 => K d mid (pc + len) ls (.ref a :: st) lay I J
    | _ => none
noncomputable def am_exec (X : am_X) (n : Nat) : am_K := Nat.rec (motive := fun _ => am_K) (fun _ _ _ _ _ _ _ _ => none) (fun _ ih => am_step X ih) n
theorem am_exec_succ (X : am_X) (n : Nat) : am_exec X (n + 1) = am_step X (am_exec X n) := rfl
