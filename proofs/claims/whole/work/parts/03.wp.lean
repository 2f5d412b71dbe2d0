/-- one instruction: what must hold ahead of it, if nx must behind it, jp at a target -/
def ip_x (fl : List ip_F) (cn : List (Nat × Value)) (cs : List ip_G) (rt : Option FieldType) (K : ip_K) (ins : Instr) (ar : Int32) (tg pc : Nat) (nx : ip_P) (jp : Nat → ip_P) (L : ip_L) (st : List Value) (hp : ip_H) : Prop := match ins with
  | .iconst _ => nx L (.int ar :: st) hp
  | .bipush _ => nx L (.int ar :: st) hp
  | .sipush _ => nx L (.int ar :: st) hp
  | .lconst n => nx L (.long (Int64.ofNat n) :: st) hp
  | .ldc_w i => match ip_gv cn i with
    | some (.int v) => nx L (.int v :: st) hp
    | _ => False
  | .ldc2_w i => match ip_gv cn i with
    | some (.long v) => nx L (.long v :: st) hp
    | _ => False
  | .aconst_null => nx L (.null :: st) hp
  | .iload_n k => ip_ldi L k (fun x => nx L (.int x :: st) hp)
  | .iload k => ip_ldi L k (fun x => nx L (.int x :: st) hp)
  | .lload_n k => ip_ldl L k (fun x => nx L (.long x :: st) hp)
  | .lload k => ip_ldl L k (fun x => nx L (.long x :: st) hp)
  | .aload_n k => ip_lda L k (fun v => nx L (v :: st) hp)
  | .aload k => ip_lda L k (fun v => nx L (v :: st) hp)
  | .istore_n k => ip_i1 st (fun x r => ip_when (Nat.blt k L.length) (nx (ip_st1 L k (.int x)) r hp))
  | .istore k => ip_i1 st (fun x r => ip_when (Nat.blt k L.length) (nx (ip_st1 L k (.int x)) r hp))
  | .lstore_n k => ip_l1 st (fun x r => ip_when (Nat.blt (k + 1) L.length) (nx (ip_st2 L k (.long x)) r hp))
  | .lstore k => ip_l1 st (fun x r => ip_when (Nat.blt (k + 1) L.length) (nx (ip_st2 L k (.long x)) r hp))
  | .astore_n k => ip_a1 st (fun v r => ip_when (Nat.blt k L.length) (nx (ip_st1 L k v) r hp))
  | .astore k => ip_a1 st (fun v r => ip_when (Nat.blt k L.length) (nx (ip_st1 L k v) r hp))
  | .iinc k _ => ip_ldi L k (fun x => ip_when (Nat.blt k L.length) (nx (ip_st1 L k (.int (x + ar))) st hp))
  | .iadd => ip_i2 st (fun x y r => nx L (.int (x + y) :: r) hp)
  | .isub => ip_i2 st (fun x y r => nx L (.int (x - y) :: r) hp)
  | .imul => ip_i2 st (fun x y r => nx L (.int (x * y) :: r) hp)
  | .iand => ip_i2 st (fun x y r => nx L (.int (x &&& y) :: r) hp)
  | .ior => ip_i2 st (fun x y r => nx L (.int (x ||| y) :: r) hp)
  | .ixor => ip_i2 st (fun x y r => nx L (.int (x ^^^ y) :: r) hp)
  | .idiv => ip_i2 st (fun x y r => ¬ y = 0 ∧ nx L (.int (x / y) :: r) hp)
  | .irem => ip_i2 st (fun x y r => ¬ y = 0 ∧ nx L (.int (x - x / y * y) :: r) hp)
  | .ishl => ip_i2 st (fun x y r => nx L (.int (x <<< (y &&& 31)) :: r) hp)
  | .ishr => ip_i2 st (fun x y r => nx L (.int (x >>> (y &&& 31)) :: r) hp)
  | .iushr => ip_i2 st (fun x y r => nx L (.int (x.toUInt32 >>> (y.toUInt32 &&& Int32.toUInt32 31)).toInt32 :: r) hp)
  | .ladd => ip_l2 st (fun x y r => nx L (.long (x + y) :: r) hp)
  | .lsub => ip_l2 st (fun x y r => nx L (.long (x - y) :: r) hp)
  | .lmul => ip_l2 st (fun x y r => nx L (.long (x * y) :: r) hp)
  | .land => ip_l2 st (fun x y r => nx L (.long (x &&& y) :: r) hp)
  | .lor => ip_l2 st (fun x y r => nx L (.long (x ||| y) :: r) hp)
  | .ldiv => ip_l2 st (fun x y r => ¬ y = 0 ∧ nx L (.long (x / y) :: r) hp)
  | .lrem => ip_l2 st (fun x y r => ¬ y = 0 ∧ nx L (.long (x - x / y * y) :: r) hp)
  | .lshl => ip_li st (fun x y r => nx L (.long (x <<< (y.toInt64 &&& 63)) :: r) hp)
  | .lshr => ip_li st (fun x y r => nx L (.long (x >>> (y.toInt64 &&& 63)) :: r) hp)
  | .lushr => ip_li st (fun x y r => nx L (.long (x.toUInt64 >>> (y.toInt64.toUInt64 &&& Int64.toUInt64 63)).toInt64 :: r) hp)
  | .lcmp => ip_l2 st (fun x y r => nx L (.int (lg_cmp x y) :: r) hp)
  | .i2l => ip_i1 st (fun x r => nx L (.long x.toInt64 :: r) hp)
  | .l2i => ip_l1 st (fun x r => nx L (.int x.toInt32 :: r) hp)
  | .i2b => ip_i1 st (fun x r => nx L (.int x.toInt8.toInt32 :: r) hp)
  | .i2s => ip_i1 st (fun x r => nx L (.int x.toInt16.toInt32 :: r) hp)
  | .dup => match st with
    | v :: r => ip_when (Nat.beq v.category 1) (nx L (v :: v :: r) hp)
    | [] => False
  | .dup2 => match st with
    | v :: w :: r => ip_when (Nat.beq v.category 1 && Nat.beq w.category 1) (nx L (v :: w :: v :: w :: r) hp)
    | _ => False
  | .ifCond c _ => ip_i1 st (fun x r => ip_cmp c x 0 (jp tg L r hp) (nx L r hp))
  | .if_icmp c _ => ip_i2 st (fun x y r => ip_cmp c x y (jp tg L r hp) (nx L r hp))
  | .ifnull _ => ip_nu st (fun r => jp tg L r hp) (fun r => nx L r hp)
  | .ifnonnull _ => ip_nu st (fun r => nx L r hp) (fun r => jp tg L r hp)
  | .goto _ => jp tg L st hp
  | .tableswitch d lo _ os => ip_i1 st (fun x r => ip_ts (fun t => jp t L r hp) pc x.toInt (jp ((pc : Int) + d).toNat L r hp) lo os.toList)
  | .lookupswitch d ps => ip_i1 st (fun x r => ip_lk (fun t => jp t L r hp) pc x.toInt d ps.toList)
  | .getfield i => match ip_gf fl i with
    | some (_, ci, k, _, _) => ip_r1 st (fun a r => ip_ob hp a (fun cj fs => ip_when (Nat.beq ci cj) (match fs[k]? with
      | some v => nx L (v :: r) hp
      | none => False)))
    | none => False
  | .putfield i => match ip_gf fl i with
    | some (_, ci, k, ty, true) => ip_vr st (fun v a r => ip_ob hp a (fun cj fs => ip_when (Nat.beq ci cj && Nat.blt k fs.length) (ip_ok ty v (nx L r (hp.set a (.inr (cj, fs.set k v)))))))
    | _ => False
  | .iaload => ip_ri st (fun a i r => ip_ar hp a (fun t n f => ip_when (Nat.beq t 0) (vp_in i n ∧ nx L (.int (f i.toNatClampNeg) :: r) hp)))
  | .baload => ip_ri st (fun a i r => ip_ar hp a (fun t n f => ip_when (Nat.beq t 1) (vp_in i n ∧ nx L (.int (f i.toNatClampNeg) :: r) hp)))
  | .iastore => ip_rii st (fun a i x r => ip_ar hp a (fun t n f => ip_when (Nat.beq t 0) (vp_in i n ∧ nx L r (hp.set a (.inl (t, n, .inl (upd f i.toNatClampNeg x)))))))
  | .bastore => ip_rii st (fun a i x r => ip_ar hp a (fun t n f => ip_when (Nat.beq t 1) (vp_in i n ∧ nx L r (hp.set a (.inl (t, n, .inl (upd f i.toNatClampNeg (vp_nar .boolean x))))))))
  | .aaload => ip_ri st (fun a i r => ip_rr hp a (fun t n f => ip_when (Nat.beq t 2 || Nat.beq t 3) (vp_in i n ∧ nx L (va_rf (f i.toNatClampNeg) :: r) hp)))
  | .arraylength => ip_r1 st (fun a r => ip_ar hp a (fun t n _ => ip_when (Nat.blt t 2) (nx L (.int (Int32.ofNat n) :: r) hp)))
  | .invokestatic i => ip_call (ip_gc cs i) false nx L st hp
  | .invokevirtual i => ip_call (ip_gc cs i) true nx L st hp
  | .ireturn => match rt with
    | some .int => match st with
      | [.int v] => K (some (.int v)) hp
      | _ => False
    | some .boolean => match st with
      | [.int v] => narrow .boolean (.int v) = .int v ∧ K (some (.int v)) hp
      | _ => False
    | _ => False
  | .lreturn => match rt with
    | some .long => match st with
      | [.long v] => K (some (.long v)) hp
      | _ => False
    | _ => False
  | .areturn => match rt with
    | some (.object _) => match st with
      | [.ref a] => K (some (.ref a)) hp
      | [.null] => K (some .null) hp
      | _ => False
    | _ => False
  | .return_ => match rt with
    | none => match st with
      | [] => K none hp
      | _ => False
    | _ => False
  | _ => False
def ip_find (t : Nat) : List ip_I → List ip_I
  | [] => []
  | x :: r => match Nat.beq x.1 t with
    | true => x :: r
    | false => ip_find t r
def ip_lt (k : Nat) : Option Nat → Prop
  | none => True
  | some b => k < b
/-- from an instruction on, until a loop's head or the end -/
def ip_wp (fl : List ip_F) (cn : List (Nat × Value)) (cs : List ip_G) (rt : Option FieldType) (tb : List ip_I) (I : Nat → Nat → ip_P) (K : ip_K) : Nat → Option Nat → Bool → List ip_I → ip_P
  | 0, _, _, _ => fun _ _ _ => False
  | n + 1, b, fr, cur => fun L st hp => match cur with
    | [] => False
    | (pc, ins, _, hd, ar, tg) :: nx => match hd && !fr with
      | true => ∃ k, ip_lt k b ∧ I pc k L st hp
      | false => ip_x fl cn cs rt K ins ar tg pc (ip_wp fl cn cs rt tb I K n b false nx) (fun t => ip_wp fl cn cs rt tb I K n b false (ip_find t tb)) L st hp
/-- an instruction's numbers are those of its own row -/
def ip_nr (ins : Instr) (len : Nat) (ar : Int32) (tg pc : Nat) : Bool := match ins with
  | .iconst n => len == 1 && Int32.ofInt n == ar
  | .bipush n => len == 2 && (Int8.ofInt n).toInt32 == ar
  | .sipush n => len == 3 && (Int16.ofInt n).toInt32 == ar
  | .iinc _ n => len == 3 && Int32.ofInt n == ar
  | .ifCond _ o => len == 3 && (pc : Int) + o == (tg : Int)
  | .if_icmp _ o => len == 3 && (pc : Int) + o == (tg : Int)
  | .ifnull o => len == 3 && (pc : Int) + o == (tg : Int)
  | .ifnonnull o => len == 3 && (pc : Int) + o == (tg : Int)
  | .goto o => len == 3 && (pc : Int) + o == (tg : Int)
  | .tableswitch d lo hi os => decide (0 ≤ (pc : Int) + d) && os.toList.all (fun o => decide (0 ≤ (pc : Int) + o)) && decide (lo + os.toList.length = hi + 1)
  | .lookupswitch d ps => decide (0 ≤ (pc : Int) + d) && ps.toList.all (fun q => decide (0 ≤ (pc : Int) + q.2)) && (ps.toList.zip (ps.toList.drop 1)).all (fun (a, next) => a.1 < next.1)
  | .ldc_w _ => len == 3
  | .ldc2_w _ => len == 3
  | .iload _ => len == 2
  | .lload _ => len == 2
  | .aload _ => len == 2
  | .istore _ => len == 2
  | .lstore _ => len == 2
  | .astore _ => len == 2
  | .getfield _ => len == 3
  | .putfield _ => len == 3
  | .invokestatic _ => len == 3
  | .invokevirtual _ => len == 3
  | _ => len == 1
def ip_chk (cc : ByteArray) : List ip_I → Bool
  | [] => true
  | (pc, ins, len, _, ar, tg) :: r => decide (decode cc pc = .ok (ins, len)) && ip_nr ins len ar tg pc && (match r with
    | [] => true
    | x :: _ => x.1 == pc + len) && ip_chk cc r
