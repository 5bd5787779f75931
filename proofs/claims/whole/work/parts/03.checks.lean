/-! WHAT IS CHECKED OF EACH ENTRY: it is what the bytes decode to, and its numbers are what the words say -/
def am_okA (me : am_ME) (i : Instr) (len : Nat) (imm : Value) (e : Nat) : Bool := match i, imm with
  | .iconst n, .int v => Nat.beq len 1 && decide (Int32.ofInt n = v)
  | .bipush n, .int v => Nat.beq len 2 && decide ((Int8.ofInt n).toInt32 = v)
  | .sipush n, .int v => Nat.beq len 3 && decide ((Int16.ofInt n).toInt32 = v)
  | .lconst n, .long v => Nat.beq len 1 && decide (Int64.ofNat (n : Nat) = v)
  | .ldc2_w k, .long v => Nat.beq len 3 && decide (lw_tbl[e]? = some (Jvm.Cond.constantLong me.1.cls k v))
  | .ldc_w k, .int v => Nat.beq len 3 && decide (lw_tbl[e]? = some (Jvm.Cond.constant me.1.cls k v))
  | _, _ => false
def am_okB (i : Instr) (len a : Nat) : Bool := match i with
  | .iload k => Nat.beq len 2 && Nat.beq k a
  | .iload_n k => Nat.beq len 1 && Nat.beq k.val a
  | .lload k => Nat.beq len 2 && Nat.beq k a
  | .lload_n k => Nat.beq len 1 && Nat.beq k.val a
  | .aload k => Nat.beq len 2 && Nat.beq k a
  | .aload_n k => Nat.beq len 1 && Nat.beq k.val a
  | _ => false
def am_okC (me : am_ME) (i : Instr) (len a : Nat) : Bool := match i with
  | .istore k => Nat.beq len 2 && Nat.beq k a && Nat.blt a me.2.2.1
  | .istore_n k => Nat.beq len 1 && Nat.beq k.val a && Nat.blt a me.2.2.1
  | .lstore k => Nat.beq len 2 && Nat.beq k a && Nat.blt (a + 1) me.2.2.1
  | .lstore_n k => Nat.beq len 1 && Nat.beq k.val a && Nat.blt (a + 1) me.2.2.1
  | .astore k => Nat.beq len 2 && Nat.beq k a && Nat.blt a me.2.2.1
  | .astore_n k => Nat.beq len 1 && Nat.beq k.val a && Nat.blt a me.2.2.1
  | _ => false
def am_okE (pc : Nat) (i : Instr) (len a : Nat) (sw : List (Int32 × Nat)) : Bool := match i with
  | .goto off => Nat.beq len 3 && decide ((pc : Int) + off = (a : Int))
  | .ifCond _ off => Nat.beq len 3 && decide ((pc : Int) + off = (a : Int))
  | .if_icmp _ off => Nat.beq len 3 && decide ((pc : Int) + off = (a : Int))
  | .tableswitch dflt lo hi offs => decide ((pc : Int) + dflt = (a : Int)) && decide (hi = lo + sw.length - 1) && (List.range sw.length).all fun j => match sw[j]?, offs[j]? with
    | some q, some o => decide (q.1.toInt = lo + j) && decide ((pc : Int) + o = (q.2 : Int))
    | _, _ => false
  | .lookupswitch dflt ps => decide ((pc : Int) + dflt = (a : Int)) && (ps.toList.zip (ps.toList.drop 1)).all (fun (a, next) => a.1 < next.1) && decide (sw.map (fun q => (q.1.toInt, (q.2 : Int))) = ps.toList.map (fun q => (q.1, (pc : Int) + q.2)))
  | _ => false
def am_lnk (me : am_ME) (k a b e : Nat) : Bool := match am_cl[a]? with
  | some r => Nat.blt b r.2.2 && decide (lw_tbl[e]? = some (Jvm.Cond.fieldLink me.1.cls k (r.2.1 b).1 (r.2.1 b).2.1 (r.2.1 b).2.2.1))
  | none => false
def am_okF (me : am_ME) (i : Instr) (len a b e : Nat) : Bool := match i with
  | .getfield k => Nat.beq len 3 && am_lnk me k a b e
  | _ => Nat.beq len 1
/-- a field that is set: its type told by imm (default: an int; else a boolean) where an int is set; a final one in its own constructor -/
def am_okG (me : am_ME) (i : Instr) (len a b e : Nat) (imm : Value) : Bool := match i with
  | .putfield k => Nat.beq len 3 && am_lnk me k a b e && match am_cl[a]? with
    | some r => ((r.2.1 b).2.2.2 == false || (decide (me.1.name = "<init>") && decide ((r.2.1 b).1 = me.1.cls))) && match parseFieldDescriptor (r.2.1 b).2.2.1 with
      | some .int => Value.isDefault imm
      | some .boolean => !(Value.isDefault imm)
      | some (.object _) => true
      | some (.array _) => true
      | _ => false
    | none => false
  | _ => Nat.beq len 1
def am_okH (me : am_ME) (i : Instr) (len a e : Nat) : Bool := match i with
  | .new k => Nat.beq len 3 && match am_cl[a]? with
    | some r => decide (lw_tbl[e]? = some (Jvm.Cond.classLink me.1.cls k r.1))
    | none => false
  | .newarray ty => Nat.beq len 2 && decide (lw_tbl[e]? = some (Jvm.Cond.arrayClass (newarray.typeOf ty)))
  | .anewarray k => Nat.beq len 3 && match am_cl[a]? with
    | some r => decide (lw_tbl[e]? = some (Jvm.Cond.classLink me.1.cls k r.1)) && decide (Jvm.Cond.arrayOver (.object r.1) ∈ lw_tbl)
    | none => false
  | _ => false
def am_okI (me : am_ME) (i : Instr) (len a b e : Nat) : Bool := Nat.beq len 3 && match am_MT[a]? with
  | some me' => decide ((parseMethodDescriptor me'.1.desc).map (fun d => d.parameters.length) = some b) && match i with
    | .invokestatic k => (decide (lw_tbl[e]? = some (Jvm.Cond.methodLink me.1.cls k me'.1)) || decide (lw_tbl[e]? = some (Jvm.Cond.methodLinkNest me.1.cls k me'.1 "WordTree"))) && decide (Jvm.Cond.static me'.1 ∈ lw_tbl)
    | .invokevirtual k => decide (lw_tbl[e]? = some (Jvm.Cond.methodLink me.1.cls k me'.1)) && decide (Jvm.Cond.instanceMethod me'.1 ∈ lw_tbl) && decide (Jvm.Cond.selects me'.1.cls me'.1 me'.1 ∈ lw_tbl)
    | .invokespecial k => decide (lw_tbl[e]? = some (Jvm.Cond.methodLink me.1.cls k me'.1)) && decide (Jvm.Cond.instanceMethod me'.1 ∈ lw_tbl) && decide (me'.1.name = "<init>") && decide (me'.2.2.2 = none)
    | _ => false
  | none => false
def am_okJ (me : am_ME) (i : Instr) (len e : Nat) : Bool := match i with
  | .invokespecial k => Nat.beq len 3 && decide (lw_tbl[e]? = some (Jvm.Cond.methodLink me.1.cls k Jvm.Lib.objectInit))
  | _ => false
def am_stat : List (String × String) := [("SMALL_WORDS", "[J"), ("FORM_WORDS", "[J"), ("FORM_STARTS", "[I"), ("FORM_KINDS", "[I"), ("FORM_WEIGHTS", "[I"), ("FORM_TURNS", "[I")]
def am_okM (me : am_ME) (i : Instr) (len a e : Nat) : Bool := match i with
  | .getstatic k => Nat.beq len 3 && Nat.ble 1001 a && match am_stat[a - 1001]? with
    | some q => decide (lw_tbl[e]? = some (Jvm.Cond.fieldLink me.1.cls k "WordTree" q.1 q.2)) || decide (lw_tbl[e]? = some (Jvm.Cond.fieldLinkNest me.1.cls k "WordTree" q.1 q.2 "WordTree"))
    | none => false
  | _ => false
def am_ok2 (me : am_ME) (pc t : Nat) (i : Instr) (len : Nat) (imm : Value) (a b e : Nat) (sw : List (Int32 × Nat)) : Bool := match t with
  | 0 => am_okA me i len imm e
  | 1 => am_okB i len a
  | 2 => am_okC me i len a
  | 3 => Nat.beq len 1
  | 4 => am_okE pc i len a sw
  | 5 => am_okF me i len a b e
  | 6 => am_okG me i len a b e imm
  | 7 => am_okH me i len a e
  | 8 => am_okI me i len a b e
  | 9 => Nat.beq len 1
  | 10 => match i, imm with
    | .iinc k n, .int v => Nat.beq len 3 && Nat.beq k a && decide (Int32.ofInt n = v) && Nat.blt a me.2.2.1
    | _, _ => false
  | 11 => am_okJ me i len e
  | 12 => am_okM me i len a e
  | _ => false
def am_ok (me : am_ME) (pc : Nat) (q : am_E) : Bool := decide (decode me.2.1 pc = .ok (q.2.1, q.2.2.1)) && am_ok2 me pc q.1 q.2.1 q.2.2.1 q.2.2.2.1 q.2.2.2.2.1 q.2.2.2.2.2.1 q.2.2.2.2.2.2.1 q.2.2.2.2.2.2.2
def am_chk (mid : Nat) (c : List (List (Nat × am_E))) : Bool := match am_MT[mid]? with
  | some me => c.zipIdx.all fun q => q.1.all fun r => am_ok me (16 * q.2 + r.1) r.2
  | none => false
