/-! AM: a small machine over the same program, its links resolved. A cell: ints or booleans (0 or 1, length, contents), longs, an object (class, fields). A world: the cells, how many exceptions were made, slots. A frame: pc, locals, stack. -/
abbrev amC : Type := (Nat × Nat × (Nat → Int32)) ⊕ (Nat × (Nat → Int64)) ⊕ (Nat × List Value)
abbrev amW : Type := List amC × Nat × Nat
abbrev amF : Type := Nat × List (Nat × Value) × List Value
abbrev amO : Type := Option Value ⊕ Nat
abbrev amX : Type := Nat × (Nat → Int32)
abbrev amR : Type := Option (amF × amW)
def am_ld (lv : List (Nat × Value)) (i : Nat) : Option Value := (lv.find? (fun q => q.1 == i)).map (fun q => q.2)
def am_st1 (lv : List (Nat × Value)) (i : Nat) (v : Value) : List (Nat × Value) := (i, v) :: lv.filter (fun q => !(q.1 == i) && !(q.1 + 1 == i && q.2.category == 2))
def am_st2 (lv : List (Nat × Value)) (i : Nat) (v : Value) : List (Nat × Value) := (i, v) :: lv.filter (fun q => !(q.1 == i) && (!(q.1 == i + 1) && !(q.1 + 1 == i && q.2.category == 2)))
/-- the enum's constants: texts, operands, orders; where a switch over them goes -/
def am_tx : List (List Int32) := [[108, 97, 109, 98, 100, 97], [105, 102], [108, 101, 116], [108, 101, 116, 114, 101, 99], [115, 101, 116, 33], [98, 101, 103, 105, 110], [43], [45], [42], [60], [61], [101, 113, 63], [99, 111, 110, 115], [99, 97, 114], [99, 100, 114], [112, 97, 105, 114, 63], [110, 117, 108, 108, 63], [110, 111, 116], [111, 117, 116], [110, 105, 108]]
def am_opn : List Int32 := [0, 0, 0, 0, 0, 0, 2, 2, 2, 2, 2, 2, 2, 1, 1, 1, 1, 1, 1]
def am_ord : List Int32 := [0, 0, 0, 0, 0, 0, 25, 26, 27, 28, 29, 23, 24, 17, 18, 19, 20, 21, 22]
def am_sw : List Int32 := [1, 2, 3, 4, 5, 6, 0, 0, 0, 0, 0, 0, 0, 0, 0, 0, 0, 0, 0]
/-- the ints of the array a: the script is 2000, the switch's table 1201 -/
def am_ai (X : amX) (w : amW) (a : Nat) : Option amX := if a = 2000 then some X else if a = 1201 then some (19, fun j => am_sw.getD j 0) else match w.1[a]? with
  | some (.inl (0, n, f)) => some (n, f)
  | _ => none
def am_len (X : amX) (w : amW) (a : Nat) : Option Nat := if a = 2000 then some X.1 else if a = 1200 then some 19 else match w.1[a]? with
  | some (.inl (_, n, _)) => some n
  | some (.inr (.inl (n, _))) => some n
  | _ => none
def am_fit (ty : FieldType) (v : Value) : Bool := match ty, v with
  | .int, .int _ => true
  | .long, .long _ => true
  | .boolean, .int x => x == 0 || x == 1
  | .array _, .ref _ => true
  | .object _, .ref _ => true
  | _, _ => false
def am_tys : List (Nat → FieldType) := [tyX1, tyX2, tyX3, tyX4, tyX5, tyX6, tyX7, tyX9, tyX12, tyX13]
def am_ns : List Nat := [4, 10, 5, 15, 9, 2, 6, 4, 3, 58]
def am_ty (c k : Nat) : FieldType := (am_tys.getD c (fun _ => .int)) k
def am_new (c : Nat) : amC := .inr (.inr (c, (List.range (am_ns.getD c 0)).map (fun k => defaultValue (am_ty c k))))
def am_holds (c : ClassFile.Cond) (x y : Int32) : Bool := match c with
  | .eq => decide (x = y)
  | .ne => decide (¬ x = y)
  | .lt => decide (x < y)
  | .ge => decide (y ≤ x)
  | .gt => decide (y < x)
  | .le => decide (x ≤ y)
/-! what an instruction does, by the form of its operands -/
def am_push (len : Nat) (v : Value) (fr : amF) (w : amW) : amR := some ((fr.1 + len, fr.2.1, v :: fr.2.2), w)
def am_iload (len i : Nat) (fr : amF) (w : amW) : amR := match am_ld fr.2.1 i with
  | some (.int x) => am_push len (.int x) fr w
  | _ => none
def am_lload (len i : Nat) (fr : amF) (w : amW) : amR := match am_ld fr.2.1 i with
  | some (.long x) => am_push len (.long x) fr w
  | _ => none
def am_aload (len i : Nat) (fr : amF) (w : amW) : amR := match am_ld fr.2.1 i with
  | some (.ref x) => am_push len (.ref x) fr w
  | some .null => am_push len .null fr w
  | _ => none
def am_istore (mL len i : Nat) (fr : amF) (w : amW) : amR := match fr.2.2 with
  | .int x :: st => if i < mL then some ((fr.1 + len, am_st1 fr.2.1 i (.int x), st), w) else none
  | _ => none
def am_lstore (mL len i : Nat) (fr : amF) (w : amW) : amR := match fr.2.2 with
  | .long x :: st => if i + 1 < mL then some ((fr.1 + len, am_st2 fr.2.1 i (.long x), st), w) else none
  | _ => none
def am_astore (mL len i : Nat) (fr : amF) (w : amW) : amR := match fr.2.2 with
  | .ref x :: st => if i < mL then some ((fr.1 + len, am_st1 fr.2.1 i (.ref x), st), w) else none
  | .null :: st => if i < mL then some ((fr.1 + len, am_st1 fr.2.1 i .null, st), w) else none
  | _ => none
def am_iinc (mL i : Nat) (n : Int) (fr : amF) (w : amW) : amR := match am_ld fr.2.1 i with
  | some (.int x) => if i < mL then some ((fr.1 + 3, am_st1 fr.2.1 i (.int (x + Int32.ofInt n)), fr.2.2), w) else none
  | _ => none
def am_ii (f : Int32 → Int32 → Int32) (fr : amF) (w : amW) : amR := match fr.2.2 with
  | .int y :: .int x :: st => some ((fr.1 + 1, fr.2.1, .int (f x y) :: st), w)
  | _ => none
def am_irem (fr : amF) (w : amW) : amR := match fr.2.2 with
  | .int y :: .int x :: st => if y = 0 then none else some ((fr.1 + 1, fr.2.1, .int (x - x / y * y) :: st), w)
  | _ => none
def am_i1 (f : Int32 → Value) (fr : amF) (w : amW) : amR := match fr.2.2 with
  | .int x :: st => some ((fr.1 + 1, fr.2.1, f x :: st), w)
  | _ => none
def am_l1 (f : Int64 → Value) (fr : amF) (w : amW) : amR := match fr.2.2 with
  | .long x :: st => some ((fr.1 + 1, fr.2.1, f x :: st), w)
  | _ => none
def am_ll (f : Int64 → Int64 → Value) (fr : amF) (w : amW) : amR := match fr.2.2 with
  | .long y :: .long x :: st => some ((fr.1 + 1, fr.2.1, f x y :: st), w)
  | _ => none
def am_li (f : Int64 → Int32 → Int64) (fr : amF) (w : amW) : amR := match fr.2.2 with
  | .int y :: .long x :: st => some ((fr.1 + 1, fr.2.1, .long (f x y) :: st), w)
  | _ => none
def am_dup (fr : amF) (w : amW) : amR := match fr.2.2 with
  | v :: st => if v.category = 1 then some ((fr.1 + 1, fr.2.1, v :: v :: st), w) else none
  | _ => none
def am_dup2 (fr : amF) (w : amW) : amR := match fr.2.2 with
  | v :: st => if v.category = 2 then some ((fr.1 + 1, fr.2.1, v :: v :: st), w) else match st with
    | u :: st => if v.category = 1 ∧ u.category = 1 then some ((fr.1 + 1, fr.2.1, v :: u :: v :: u :: st), w) else none
    | _ => none
  | _ => none
def am_pop (fr : amF) (w : amW) : amR := match fr.2.2 with
  | v :: st => if v.category = 1 then some ((fr.1 + 1, fr.2.1, st), w) else none
  | _ => none
def am_pop2 (fr : amF) (w : amW) : amR := match fr.2.2 with
  | v :: st => if v.category = 2 then some ((fr.1 + 1, fr.2.1, st), w) else none
  | _ => none
def am_if (c : ClassFile.Cond) (t : Int) (fr : amF) (w : amW) : amR := match fr.2.2 with
  | .int x :: st => some ((if am_holds c x 0 then t.toNat else fr.1 + 3, fr.2.1, st), w)
  | _ => none
def am_icmp (c : ClassFile.Cond) (t : Int) (fr : amF) (w : amW) : amR := match fr.2.2 with
  | .int y :: .int x :: st => some ((if am_holds c x y then t.toNat else fr.1 + 3, fr.2.1, st), w)
  | _ => none
def am_ifnn (t : Int) (fr : amF) (w : amW) : amR := match fr.2.2 with
  | .ref _ :: st => some ((t.toNat, fr.2.1, st), w)
  | .null :: st => some ((fr.1 + 3, fr.2.1, st), w)
  | _ => none
def am_table (d lo hi : Int) (ts : Array Int) (fr : amF) (w : amW) : amR := match fr.2.2 with
  | .int x :: st => some ((if x.toInt < lo ∨ hi < x.toInt then d.toNat else (ts.toList.getD (x.toInt - lo).toNat 0).toNat, fr.2.1, st), w)
  | _ => none
/-- fields: 10000 times the way of the link, 100 times the class, the field; 50000 on: of an enum's constant -/
def am_getf (q : Nat) (fr : amF) (w : amW) : amR := match fr.2.2 with
  | .ref a :: st => if 50000 ≤ q then (if 1000 ≤ a ∧ a < 1019 then (if q = 50000 then some ((fr.1 + 3, fr.2.1, .ref (a + 100) :: st), w) else if q = 50001 then some ((fr.1 + 3, fr.2.1, .int (am_opn.getD (a - 1000) 0) :: st), w) else some ((fr.1 + 3, fr.2.1, .int (am_ord.getD (a - 1000) 0) :: st), w)) else none)
    else match w.1[a]? with
    | some (.inr (.inr (c, fs))) => if c = q / 100 % 100 then (match fs[q % 100]? with
      | some v => some ((fr.1 + 3, fr.2.1, v :: st), w)
      | none => none) else none
    | _ => none
  | _ => none
def am_putf (q : Nat) (fr : amF) (w : amW) : amR := match fr.2.2 with
  | v :: .ref a :: st => match w.1[a]? with
    | some (.inr (.inr (c, fs))) => if c = q / 100 % 100 ∧ q % 100 < fs.length ∧ am_fit (am_ty c (q % 100)) v = true then some ((fr.1 + 3, fr.2.1, st), (w.1.set a (.inr (.inr (c, fs.set (q % 100) v))), w.2)) else none
    | _ => none
  | _ => none
def am_gets (q : Nat) (fr : amF) (w : amW) : amR := if q = 0 then am_push 3 (.ref 1200) fr w else if q = 1 then am_push 3 (.ref 1201) fr w else none
def am_alen (X : amX) (fr : amF) (w : amW) : amR := match fr.2.2 with
  | .ref a :: st => match am_len X w a with
    | some n => some ((fr.1 + 1, fr.2.1, .int (Int32.ofNat n) :: st), w)
    | none => none
  | _ => none
def am_iald (X : amX) (fr : amF) (w : amW) : amR := match fr.2.2 with
  | .int i :: .ref a :: st => match am_ai X w a with
    | some (n, f) => if i < 0 ∨ n ≤ i.toNatClampNeg then none else some ((fr.1 + 1, fr.2.1, .int (f i.toNatClampNeg) :: st), w)
    | none => none
  | _ => none
def am_lald (fr : amF) (w : amW) : amR := match fr.2.2 with
  | .int i :: .ref a :: st => match w.1[a]? with
    | some (.inr (.inl (n, f))) => if i < 0 ∨ n ≤ i.toNatClampNeg then none else some ((fr.1 + 1, fr.2.1, .long (f i.toNatClampNeg) :: st), w)
    | _ => none
  | _ => none
def am_zald (fr : amF) (w : amW) : amR := match fr.2.2 with
  | .int i :: .ref a :: st => match w.1[a]? with
    | some (.inl (1, n, f)) => if i < 0 ∨ n ≤ i.toNatClampNeg then none else some ((fr.1 + 1, fr.2.1, .int (f i.toNatClampNeg) :: st), w)
    | _ => none
  | _ => none
def am_aald (fr : amF) (w : amW) : amR := match fr.2.2 with
  | .int i :: .ref a :: st => if a = 1200 ∧ ¬ (i < 0 ∨ 19 ≤ i.toNatClampNeg) then some ((fr.1 + 1, fr.2.1, .ref (1000 + i.toNatClampNeg) :: st), w) else none
  | _ => none
def am_iast (fr : amF) (w : amW) : amR := match fr.2.2 with
  | .int x :: .int i :: .ref a :: st => match w.1[a]? with
    | some (.inl (0, n, f)) => if i < 0 ∨ n ≤ i.toNatClampNeg then none else some ((fr.1 + 1, fr.2.1, st), (w.1.set a (.inl (0, n, upd f i.toNatClampNeg x)), w.2))
    | _ => none
  | _ => none
def am_last (fr : amF) (w : amW) : amR := match fr.2.2 with
  | .long x :: .int i :: .ref a :: st => match w.1[a]? with
    | some (.inr (.inl (n, f))) => if i < 0 ∨ n ≤ i.toNatClampNeg then none else some ((fr.1 + 1, fr.2.1, st), (w.1.set a (.inr (.inl (n, vp_updL f i.toNatClampNeg x))), w.2))
    | _ => none
  | _ => none
def am_zast (fr : amF) (w : amW) : amR := match fr.2.2 with
  | .int x :: .int i :: .ref a :: st => match w.1[a]? with
    | some (.inl (1, n, f)) => if i < 0 ∨ n ≤ i.toNatClampNeg then none else some ((fr.1 + 1, fr.2.1, st), (w.1.set a (.inl (1, n, upd f i.toNatClampNeg (vp_nar .boolean x))), w.2))
    | _ => none
  | _ => none
def am_newo (c : Nat) (fr : amF) (w : amW) : amR := if c < 10 ∧ w.2.1 = 0 ∧ w.1.length < 1000 then some ((fr.1 + 3, fr.2.1, .ref w.1.length :: fr.2.2), (w.1 ++ [am_new c], w.2.1, w.2.2 + am_ns.getD c 0)) else none
def am_newa (t : ArrayType) (fr : amF) (w : amW) : amR := match fr.2.2 with
  | .int n :: st => if ¬ n < 0 ∧ n.toNatClampNeg ≤ 1000000 ∧ w.2.1 = 0 ∧ w.1.length < 1000 then (match t with
    | .int => some ((fr.1 + 2, fr.2.1, .ref w.1.length :: st), (w.1 ++ [.inl (0, n.toNatClampNeg, fun _ => 0)], w.2.1, w.2.2 + n.toNatClampNeg))
    | .boolean => some ((fr.1 + 2, fr.2.1, .ref w.1.length :: st), (w.1 ++ [.inl (1, n.toNatClampNeg, fun _ => 0)], w.2.1, w.2.2 + n.toNatClampNeg))
    | .long => some ((fr.1 + 2, fr.2.1, .ref w.1.length :: st), (w.1 ++ [.inr (.inl (n.toNatClampNeg, fun _ => 0))], w.2.1, w.2.2 + n.toNatClampNeg))
    | _ => none) else none
  | _ => none
/-- Enum.ordinal, String.length, String.charAt, Object() -/
def am_bi (q : Nat) (fr : amF) (w : amW) : amR :=
  if (fr.2.2.map fun v => v.category).sum ≤ 8 then (match fr.2.2 with
    | .ref a :: st => if q = 900 ∧ 1000 ≤ a ∧ a < 1019 then some ((fr.1 + 3, fr.2.1, .int (Int32.ofNat (a - 1000)) :: st), w)
      else if q = 901 ∧ 1100 ≤ a ∧ a < 1120 then some ((fr.1 + 3, fr.2.1, .int (Int32.ofNat (am_tx.getD (a - 1100) []).length) :: st), w) else none
    | .int i :: .ref a :: st => if q = 902 ∧ 1100 ≤ a ∧ a < 1120 ∧ ¬ (i < 0 ∨ (am_tx.getD (a - 1100) []).length ≤ i.toNatClampNeg) then some ((fr.1 + 3, fr.2.1, .int ((am_tx.getD (a - 1100) []).getD i.toNatClampNeg 0) :: st), w) else none
    | _ => none) else none
def am_oi (q : Nat) (fr : amF) (w : amW) : amR := match fr.2.2 with
  | .ref _ :: st => if q = 903 ∧ (st.map fun v => v.category).sum ≤ 8 then some ((fr.1 + 3, fr.2.1, st), w) else none
  | _ => none
/-- one plain instruction -/
def am_next (X : amX) (mL : Nat) (ins : Instr) (len : Nat) (fr : amF) (w : amW) : amR := match ins with
  | .aconst_null => am_push 1 .null fr w
  | .iconst n => am_push len (.int (Int32.ofInt n)) fr w
  | .jsr_w n => am_push len (.long (Int64.ofInt n)) fr w
  | .ldc q => if q = 1119 then am_push 2 (.ref 1119) fr w else none
  | .iload i => am_iload len i fr w
  | .lload i => am_lload len i fr w
  | .aload i => am_aload len i fr w
  | .istore i => am_istore mL len i fr w
  | .lstore i => am_lstore mL len i fr w
  | .astore i => am_astore mL len i fr w
  | .iinc i n => am_iinc mL i n fr w
  | .iadd => am_ii (fun x y => x + y) fr w
  | .isub => am_ii (fun x y => x - y) fr w
  | .imul => am_ii (fun x y => x * y) fr w
  | .iand => am_ii (fun x y => x &&& y) fr w
  | .ishr => am_ii (fun x y => x >>> (y &&& 31)) fr w
  | .iushr => am_ii (fun x y => (x.toUInt32 >>> (y.toUInt32 &&& Int32.toUInt32 31)).toInt32) fr w
  | .irem => am_irem fr w
  | .ineg => am_i1 (fun x => .int (-x)) fr w
  | .i2l => am_i1 (fun x => .long x.toInt64) fr w
  | .l2i => am_l1 (fun x => .int x.toInt32) fr w
  | .land => am_ll (fun x y => .long (x &&& y)) fr w
  | .lor => am_ll (fun x y => .long (x ||| y)) fr w
  | .lcmp => am_ll (fun x y => .int (lg_cmp x y)) fr w
  | .lshl => am_li (fun x y => x <<< (y.toInt64 &&& 63)) fr w
  | .lshr => am_li (fun x y => x >>> (y.toInt64 &&& 63)) fr w
  | .lushr => am_li (fun x y => (x.toUInt64 >>> (y.toInt64.toUInt64 &&& Int64.toUInt64 63)).toInt64) fr w
  | .dup => am_dup fr w
  | .dup2 => am_dup2 fr w
  | .pop => am_pop fr w
  | .pop2 => am_pop2 fr w
  | .goto t => some ((t.toNat, fr.2.1, fr.2.2), w)
  | .ifCond c t => am_if c t fr w
  | .if_icmp c t => am_icmp c t fr w
  | .ifnonnull t => am_ifnn t fr w
  | .tableswitch d lo hi ts => am_table d lo hi ts fr w
  | .getfield q => am_getf q fr w
  | .putfield q => am_putf q fr w
  | .getstatic q => am_gets q fr w
  | .arraylength => am_alen X fr w
  | .iaload => am_iald X fr w
  | .laload => am_lald fr w
  | .baload => am_zald fr w
  | .aaload => am_aald fr w
  | .iastore => am_iast fr w
  | .lastore => am_last fr w
  | .bastore => am_zast fr w
  | .new c => am_newo c fr w
  | .newarray t => am_newa t fr w
  | .invokevirtual q => if 900 ≤ q then am_bi q fr w else none
  | .invokespecial q => if 900 ≤ q then am_oi q fr w else none
  | _ => none
/-- an end -/
def am_ret (rt : Option FieldType) (ins : Instr) (st : List Value) : Option (Option Value) := match ins, rt, st with
  | .return_, none, [] => some none
  | .ireturn, some .int, [.int x] => some (some (.int x))
  | .ireturn, some .boolean, [.int x] => if x = 0 ∨ x = 1 then some (some (.int x)) else none
  | .lreturn, some .long, [.long x] => some (some (.long x))
  | .areturn, some (.object _), [.ref a] => some (some (.ref a))
  | .areturn, some (.object _), [.null] => some (some .null)
  | _, _, _ => none
/-- the class of which a method is, by its number; 99 for the static ones -/
def am_MC : List Nat := [0, 0, 0, 0, 0, 0, 0, 1, 1, 1, 1, 1, 1, 1, 1, 1, 1, 1, 1, 2, 2, 2, 2, 2, 2, 2, 2, 2, 2, 3, 3, 3, 3, 3, 3, 3, 3, 3, 3, 3, 3, 3, 3, 3, 3, 3, 3, 3, 3, 3, 3, 3, 3, 3, 4, 4, 4, 4, 4, 4, 4, 4, 4, 4, 4, 5, 5, 5, 5, 5, 6, 6, 6, 6, 6, 6, 6, 6, 6, 6, 6, 6, 6, 6, 6, 6, 6, 6, 6, 6, 6, 6, 6, 6, 99, 99, 99, 99, 7, 7, 7, 7, 7, 7, 7, 7, 7, 7, 7, 7, 7, 99, 99, 99, 99, 8, 8, 8, 8, 8, 8, 8, 8, 8, 8, 8, 9, 9, 9, 9, 9, 9, 9, 9, 9, 9, 9, 9, 9, 9, 9, 9, 9, 9, 9, 9, 9, 9, 9, 9, 9, 9, 9, 9, 9, 9, 9, 9, 9, 9, 9, 9, 9, 9, 9, 9, 9, 9, 9, 9, 9, 9, 9, 9, 9, 9, 9, 9, 9, 9, 9, 99, 99, 99, 99, 99, 99, 99, 99]
def am_isC (w : amW) (b ci : Nat) : Bool := match w.1[b]? with
  | some (.inr (.inr (c, _))) => c == ci
  | _ => false
/-- a call: whose, its arguments, the rest of the stack -/
def am_inv (ins : Instr) (w : amW) (st : List Value) : Option (Nat × List Value × List Value) := match ins with
  | .invokevirtual j => match am_M j with
    | some M => match st.drop (am_np M) with
      | .ref b :: rest => if (st.take (am_np M)).length = am_np M ∧ (rest.map fun v => v.category).sum ≤ 8 ∧ am_isC w b (am_MC.getD j 99) = true then some (j, .ref b :: (st.take (am_np M)).reverse, rest) else none
      | _ => none
    | none => none
  | .invokespecial j => match am_M j with
    | some M => match st.drop (am_np M) with
      | .ref b :: rest => if (st.take (am_np M)).length = am_np M ∧ (rest.map fun v => v.category).sum ≤ 8 then some (j, .ref b :: (st.take (am_np M)).reverse, rest) else none
      | _ => none
    | none => none
  | .invokestatic j => match am_M j with
    | some M => if (st.take (am_np M)).length = am_np M ∧ ((st.drop (am_np M)).map fun v => v.category).sum ≤ 8 then some (j, (st.take (am_np M)).reverse, st.drop (am_np M)) else none
    | none => none
  | _ => none
def am_thr (ins : Instr) (st : List Value) : Option Nat := match ins with
  | .new q => if 1000 ≤ q ∧ q < 1003 ∧ (st.map fun v => v.category).sum ≤ 8 then some (q - 1000) else none
  | _ => none
def am_at (M : amM) (pc : Nat) : Option (Instr × Nat × Nat) := ((am_cd M).find? (fun q => q.1 == pc)).map (fun q => q.2)
/-- the handler of an exception e at pc: 13, 15, 30 are the law's own pool entries of the three classes -/
def am_exn (e : Nat) : Nat := if e = 0 then 13 else if e = 1 then 15 else 30
def am_hnd (M : amM) (pc e : Nat) : Option Nat := ((am_hh M).find? (fun h => decide (h.1 ≤ pc ∧ pc < h.2.1) && h.2.2.2 == am_exn e)).map (fun h => h.2.2.1)
abbrev amK : Type := Nat → List Value → amW → amO → amW → Prop
/-- a frame's run to its end, in at most n instructions of its own; calls by 'call' -/
def AMl (X : amX) (call : amK) (M : amM) : Nat → amF → amW → amO → amW → Prop
  | 0, _, _, _, _ => False
  | n + 1, fr, w, o, w' => ∃ ins len ix, am_at M fr.1 = some (ins, len, ix) ∧
    ((∃ fr1 w1, am_next X (am_mL M) ins len fr w = some (fr1, w1) ∧ AMl X call M n fr1 w1 o w') ∨
     (∃ v, am_ret (am_rt M) ins fr.2.2 = some v ∧ o = .inl v ∧ w' = w) ∨
     (∃ j as rest v w1, am_inv ins w fr.2.2 = some (j, as, rest) ∧ call j as w (.inl v) w1 ∧ AMl X call M n (fr.1 + 3, fr.2.1, v.toList ++ rest) w1 o w') ∨
     (∃ j as rest e w1, am_inv ins w fr.2.2 = some (j, as, rest) ∧ call j as w (.inr e) w1 ∧ (∀ i, ins ≠ .invokespecial i) ∧ am_hh M = [] ∧ o = .inr e ∧ w' = w1) ∨
     (∃ j as rest e w1 h k ln ix', am_inv ins w fr.2.2 = some (j, as, rest) ∧ call j as w (.inr e) w1 ∧ (∀ i, ins ≠ .invokespecial i) ∧ am_hnd M fr.1 e = some h ∧ am_at M h = some (.astore k, ln, ix') ∧ k < am_mL M ∧ AMl X call M n (h + ln, (am_st1 fr.2.1 k .null).drop 1, []) w1 o w') ∨
     (∃ e, am_thr ins fr.2.2 = some e ∧ am_hh M = [] ∧ o = .inr e ∧ w' = (w.1, w.2.1 + 1, w.2.2 + 6)))
/-- a method's run, d calls deep at most -/
def AMc (X : amX) : Nat → amK
  | 0 => fun _ _ _ _ _ => False
  | d + 1 => fun j as w o w' => ∃ M n, am_M j = some M ∧ (am_y M).name ≠ "law" ∧ (lg_sl as).length ≤ am_mL M ∧ AMl X (AMc X d) M n (0, lv_args 0 as, []) w o w'
