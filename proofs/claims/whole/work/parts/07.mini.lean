/-! THE SMALL MACHINE: the same instructions over a small heap (a table of shapes that never changes, ints, references as codes), with the conditions under which each one goes on. Part 'snd' shows that what it does, the machine does. -/
/-- made cells, thrown exceptions, slots made, ints, references, longs -/
abbrev mxH : Type := Nat × Nat × Nat × (Nat → Nat → Int32) × (Nat → Nat → Nat) × (Nat → Nat → Int64)
def mx_c (h : mxH) : Nat := h.1
def mx_x (h : mxH) : Nat := h.2.1
def mx_n (h : mxH) : Nat := h.2.2.1
def mx_i (h : mxH) : Nat → Nat → Int32 := h.2.2.2.1
def mx_r (h : mxH) : Nat → Nat → Nat := h.2.2.2.2.1
def mx_l (h : mxH) : Nat → Nat → Int64 := h.2.2.2.2.2
def mx_up {α : Type} (f : Nat → Nat → α) (a k : Nat) (v : α) : Nat → Nat → α := fun b j => if b = a ∧ j = k then v else f b j
def mx_rw {α : Type} (f : Nat → Nat → α) (a : Nat) (g : Nat → α) : Nat → Nat → α := fun b j => if b = a then g j else f b j
def mx_wi (h : mxH) (a k : Nat) (v : Int32) : mxH := (h.1, h.2.1, h.2.2.1, mx_up (mx_i h) a k v, mx_r h, mx_l h)
def mx_wr (h : mxH) (a k : Nat) (v : Nat) : mxH := (h.1, h.2.1, h.2.2.1, mx_i h, mx_up (mx_r h) a k v, mx_l h)
def mx_wl (h : mxH) (a k : Nat) (v : Int64) : mxH := (h.1, h.2.1, h.2.2.1, mx_i h, mx_r h, mx_up (mx_l h) a k v)
def mx_wrow (h : mxH) (a : Nat) (g : Nat → Int32) : mxH := (h.1, h.2.1, h.2.2.1, mx_rw (mx_i h) a g, mx_r h, mx_l h)
/-- a new cell of n slots, all zero -/
def mx_mk (h : mxH) (n : Nat) : mxH := (h.1 + 1, h.2.1, h.2.2.1 + n, mx_rw (mx_i h) (100 + h.1) (fun _ => 0), mx_rw (mx_r h) (100 + h.1) (fun _ => 0), mx_rw (mx_l h) (100 + h.1) (fun _ => 0))
/-- one exception more -/
def mx_ex (h : mxH) : mxH := (h.1, h.2.1 + 1, h.2.2.1 + 6, mx_i h, mx_r h, mx_l h)
abbrev mxLs : Type := List (Option Value)
abbrev mxO : Type := Option Value ⊕ Nat
def mx_at : mxLs → Nat → Option Value
  | [], _ => none
  | a :: _, 0 => a
  | _ :: t, k + 1 => mx_at t k
def mx_ldi (ls : mxLs) (k : Nat) (st : List Value) : Option (mxLs × List Value) := match mx_at ls k with
  | some (.int x) => some (ls, .int x :: st)
  | _ => none
def mx_lda (ls : mxLs) (k : Nat) (st : List Value) : Option (mxLs × List Value) := match mx_at ls k with
  | some (.ref x) => some (ls, .ref x :: st)
  | _ => none
def mx_sti (ls : mxLs) (k : Nat) (st : List Value) : Option (mxLs × List Value) := match st with
  | .int x :: r => some (ls.set k (some (.int x)), r)
  | _ => none
def mx_sta (ls : mxLs) (k : Nat) (st : List Value) : Option (mxLs × List Value) := match st with
  | .ref x :: r => some (ls.set k (some (.ref x)), r)
  | _ => none
def mx_inc (ls : mxLs) (k : Nat) (v : Int32) (st : List Value) : Option (mxLs × List Value) := match mx_at ls k with
  | some (.int x) => some (ls.set k (some (.int (x + v))), st)
  | _ => none
def mx_b2 (f : Int32 → Int32 → Int32) (ls : mxLs) (st : List Value) : Option (mxLs × List Value) := match st with
  | .int y :: .int x :: r => some (ls, .int (f x y) :: r)
  | _ => none
def mx_b1 (f : Int32 → Int32) (ls : mxLs) (st : List Value) : Option (mxLs × List Value) := match st with
  | .int x :: r => some (ls, .int (f x) :: r)
  | _ => none
def mx_i2l (ls : mxLs) (st : List Value) : Option (mxLs × List Value) := match st with
  | .int x :: r => some (ls, .long x.toInt64 :: r)
  | _ => none
def mx_lcmp (ls : mxLs) (st : List Value) : Option (mxLs × List Value) := match st with
  | .long y :: .long x :: r => some (ls, .int (lg_cmp x y) :: r)
  | _ => none
def mx_dup (ls : mxLs) (st : List Value) : Option (mxLs × List Value) := match st with
  | .int x :: r => some (ls, .int x :: .int x :: r)
  | .ref x :: r => some (ls, .ref x :: .ref x :: r)
  | _ => none
def mx_dup2 (ls : mxLs) (st : List Value) : Option (mxLs × List Value) := match st with
  | .int x :: .ref a :: r => some (ls, .int x :: .ref a :: .int x :: .ref a :: r)
  | _ => none
def mx_pop (ls : mxLs) (st : List Value) : Option (mxLs × List Value) := match st with
  | .int _ :: r => some (ls, r)
  | .ref _ :: r => some (ls, r)
  | _ => none
def mx_ldc (r : List Nat) (v : Int32) (ls : mxLs) (st : List Value) : Option (mxLs × List Value) := match r with
  | [0] => some (ls, .int v :: st)
  | [1, c] => some (ls, .ref c :: st)
  | _ => none
def mx_gst (r : List Nat) (v : Int32) (ls : mxLs) (st : List Value) : Option (mxLs × List Value) := match r with
  | [0, c] => some (ls, .ref c :: st)
  | [1] => some (ls, .int v :: st)
  | _ => none
def mx_lcn (r : List Nat) (ls : mxLs) (st : List Value) : Option (mxLs × List Value) := match r with
  | [n] => some (ls, .long (Int64.ofNat n) :: st)
  | _ => none
/-- instructions of locals and operands alone -/
def mx_A (ins : Instr) (r : List Nat) (v : Int32) (ls : mxLs) (st : List Value) : Option (mxLs × List Value) := match ins with
  | .iload k => mx_ldi ls k st
  | .iload_n k => mx_ldi ls k.val st
  | .aload k => mx_lda ls k st
  | .aload_n k => mx_lda ls k.val st
  | .istore k => mx_sti ls k st
  | .istore_n k => mx_sti ls k.val st
  | .astore k => mx_sta ls k st
  | .astore_n k => mx_sta ls k.val st
  | .iinc k _ => mx_inc ls k v st
  | .iconst _ => some (ls, .int v :: st)
  | .bipush _ => some (ls, .int v :: st)
  | .sipush _ => some (ls, .int v :: st)
  | .ldc _ => mx_ldc r v ls st
  | .ldc_w _ => mx_ldc r v ls st
  | .lconst _ => mx_lcn r ls st
  | .aconst_null => some (ls, .ref 0 :: st)
  | .iadd => mx_b2 (fun x y => x + y) ls st
  | .isub => mx_b2 (fun x y => x - y) ls st
  | .imul => mx_b2 (fun x y => x * y) ls st
  | .iand => mx_b2 (fun x y => x &&& y) ls st
  | .ior => mx_b2 (fun x y => x ||| y) ls st
  | .ixor => mx_b2 (fun x y => x ^^^ y) ls st
  | .ishl => mx_b2 (fun x y => x <<< (y &&& 31)) ls st
  | .ishr => mx_b2 (fun x y => x >>> (y &&& 31)) ls st
  | .iushr => mx_b2 (fun x y => (x.toUInt32 >>> (y.toUInt32 &&& Int32.toUInt32 31)).toInt32) ls st
  | .ineg => mx_b1 (fun x => -x) ls st
  | .i2c => mx_b1 (fun x => (x.toUInt32 % 65536).toInt32) ls st
  | .i2b => mx_b1 (fun x => x.toInt8.toInt32) ls st
  | .i2l => mx_i2l ls st
  | .lcmp => mx_lcmp ls st
  | .dup => mx_dup ls st
  | .dup2 => mx_dup2 ls st
  | .pop => mx_pop ls st
  | .getstatic _ => mx_gst r v ls st
  | _ => none
/-- shapes: 0 nothing; ci + 1 an object of the row ci of vwCl; 50 ints, 51 bytes, 52 longs, 53 Words, 54 Valleys, with the length -/
def mxT (n : Nat) : Nat × Nat := if n < 100 then (0, 0) else mxTL.getD (n - 100) (0, 0)
/-- all cells are made, and the final references lie where the constructors have put them -/
def mxG (h : mxH) : Prop := mx_c h = 292 ∧ ∀ q ∈ mxFin, ∀ a : Nat, (mxT a).1 = q.1 + 1 → mx_r h a q.2.1 = a + q.2.2
def mxSl (a : Nat) : Nat := (mxStr.getD ((a - 31) / 2) []).length
def mxSb (a k : Nat) : Int32 := (mxStr.getD ((a - 31) / 2) []).getD k 0
def mxWp (a : Nat) : Int32 := if a < 22 then -1 else nI (a + 978)
def mx_cat (v : Value) : Nat := match v with
  | .long _ => 2
  | .double _ => 2
  | _ => 1
def mx_oin (r : List Nat) (st : List Value) (h : mxH) : Option (List Value × mxH × Prop) := match r, st with
  | [], .ref a :: s => some (s, h, 100 ≤ a ∧ (s.map mx_cat).sum ≤ 8)
  | _, _ => none
def mx_gf (r : List Nat) (st : List Value) (h : mxH) : Option (List Value × mxH × Prop) := match st with
  | .ref a :: s => (match r with
    | [0, ci, k] => some (.int (mx_i h a k) :: s, h, (mxT a).1 = ci + 1 ∧ mxG h)
    | [1, ci, k] => some (.ref (mx_r h a k) :: s, h, (mxT a).1 = ci + 1 ∧ mxG h)
    | [7, ci, _, off] => some (.ref (a + off) :: s, h, (mxT a).1 = ci + 1 ∧ mxG h)
    | [21, ci, k] => some (.ref (mx_r h a k) :: s, h, (mxT a).1 = ci + 1 ∧ a < 100 + mx_c h)
    | [2] => some (.ref (2 * a + 24) :: s, h, 3 ≤ a ∧ a < 29)
    | [3] => some (.int (mxWp a) :: s, h, 3 ≤ a ∧ a < 29)
    | [4] => some (.ref (a + 1) :: s, h, 30 ≤ a ∧ a < 82 ∧ a % 2 = 0)
    | [5] => some (.int 0 :: s, h, 30 ≤ a ∧ a < 82 ∧ a % 2 = 0)
    | _ => none)
  | _ => none
def mx_pf (r : List Nat) (st : List Value) (h : mxH) : Option (List Value × mxH × Prop) := match st with
  | .int x :: .ref a :: s => (match r with
    | [0, ci, k] => some (s, mx_wi h a k x, (mxT a).1 = ci + 1 ∧ mxG h)
    | [6, ci, k] => some (s, mx_wi h a k x, ((mxT a).1 = ci + 1 ∧ mxG h) ∧ (x = 0 ∨ x = 1))
    | [20, ci, k] => some (s, mx_wi h a k x, (mxT a).1 = ci + 1 ∧ a < 100 + mx_c h)
    | [26, ci, k] => some (s, mx_wi h a k x, ((mxT a).1 = ci + 1 ∧ a < 100 + mx_c h) ∧ (x = 0 ∨ x = 1))
    | _ => none)
  | .ref q :: .ref a :: s => (match r with
    | [1, ci, k] => some (s, mx_wr h a k q, (mxT a).1 = ci + 1 ∧ mxG h)
    | [21, ci, k] => some (s, mx_wr h a k q, (mxT a).1 = ci + 1 ∧ a < 100 + mx_c h)
    | _ => none)
  | _ => none
def mx_ia (r : List Nat) (st : List Value) (h : mxH) : Option (List Value × mxH × Prop) := match st with
  | .int i :: .ref a :: s => (match r with
    | [0] => some (.int (mx_i h a i.toNatClampNeg) :: s, h, ((mxT a).1 = 50 ∧ mxG h) ∧ vp_in i (mxT a).2)
    | [1] => some (.int (mx_i h 1 i.toNatClampNeg) :: s, h, a = 1 ∧ vp_in i (mx_r h 1 0))
    | _ => none)
  | _ => none
def mx_is (r : List Nat) (st : List Value) (h : mxH) : Option (List Value × mxH × Prop) := match st with
  | .int x :: .int i :: .ref a :: s => (match r with
    | [0] => some (s, mx_wi h a i.toNatClampNeg x, ((mxT a).1 = 50 ∧ mxG h) ∧ vp_in i (mxT a).2)
    | [20] => some (s, mx_wi h a i.toNatClampNeg x, ((mxT a).1 = 50 ∧ a < 100 + mx_c h) ∧ vp_in i (mxT a).2)
    | _ => none)
  | _ => none
def mx_ba (r : List Nat) (st : List Value) (h : mxH) : Option (List Value × mxH × Prop) := match st with
  | .int i :: .ref a :: s => (match r with
    | [0] => some (.int (mx_i h a i.toNatClampNeg) :: s, h, ((mxT a).1 = 51 ∧ mxG h) ∧ vp_in i (mxT a).2)
    | [3] => some (.int (mxSb a i.toNatClampNeg) :: s, h, (31 ≤ a ∧ a < 83 ∧ a % 2 = 1) ∧ vp_in i (mxSl a))
    | _ => none)
  | _ => none
def mx_bs (st : List Value) (h : mxH) : Option (List Value × mxH × Prop) := match st with
  | .int x :: .int i :: .ref a :: s => some (s, mx_wi h a i.toNatClampNeg x.toInt8.toInt32, ((mxT a).1 = 51 ∧ mxG h) ∧ vp_in i (mxT a).2)
  | _ => none
def mx_la (st : List Value) (h : mxH) : Option (List Value × mxH × Prop) := match st with
  | .int i :: .ref a :: s => some (.long (mx_l h a i.toNatClampNeg) :: s, h, ((mxT a).1 = 52 ∧ mxG h) ∧ vp_in i (mxT a).2)
  | _ => none
def mx_ls (st : List Value) (h : mxH) : Option (List Value × mxH × Prop) := match st with
  | .long x :: .int i :: .ref a :: s => some (s, mx_wl h a i.toNatClampNeg x, ((mxT a).1 = 52 ∧ mxG h) ∧ vp_in i (mxT a).2)
  | _ => none
def mx_aa (r : List Nat) (st : List Value) (h : mxH) : Option (List Value × mxH × Prop) := match st with
  | .int i :: .ref a :: s => (match r with
    | [0] => some (.ref (mx_r h a i.toNatClampNeg) :: s, h, (((mxT a).1 = 53 ∨ (mxT a).1 = 54) ∧ mxG h) ∧ vp_in i (mxT a).2)
    | [2] => some (.ref (3 + i.toNatClampNeg) :: s, h, a = 2 ∧ vp_in i 26)
    | _ => none)
  | _ => none
def mx_as (r : List Nat) (st : List Value) (h : mxH) : Option (List Value × mxH × Prop) := match st with
  | .ref q :: .int i :: .ref a :: s => (match r with
    | [0] => some (s, mx_wr h a i.toNatClampNeg q, (((mxT a).1 = 53 ∧ mxG h) ∧ (q = 0 ∨ (3 ≤ q ∧ q < 29))) ∧ vp_in i (mxT a).2)
    | [20] => some (s, mx_wr h a i.toNatClampNeg q, ((mxT a).1 = 54 ∧ a < 100 + mx_c h) ∧ ((mxT q).1 = 9 ∧ q < 100 + mx_c h) ∧ vp_in i (mxT a).2)
    | _ => none)
  | _ => none
def mx_al (r : List Nat) (st : List Value) (h : mxH) : Option (List Value × mxH × Prop) := match st with
  | .ref a :: s => (match r with
    | [0] => some (.int (nI (mxT a).2) :: s, h, 50 ≤ (mxT a).1 ∧ mxG h)
    | [1] => some (.int (nI (mx_r h 1 0)) :: s, h, a = 1)
    | [2] => some (.int 26 :: s, h, a = 2)
    | [3] => some (.int (nI (mxSl a)) :: s, h, 31 ≤ a ∧ a < 83 ∧ a % 2 = 1)
    | _ => none)
  | _ => none
def mx_na (r : List Nat) (st : List Value) (h : mxH) : Option (List Value × mxH × Prop) := match st with
  | .int n :: s => (match r with
    | [kd] => some (.ref (100 + mx_c h) :: s, mx_mk h n.toNatClampNeg, mxT (100 + mx_c h) = (kd, n.toNatClampNeg) ∧ ¬ n < 0 ∧ mx_c h < 292)
    | _ => none)
  | _ => none
def mx_nw (r : List Nat) (st : List Value) (h : mxH) : Option (List Value × mxH × Prop) := match r with
  | [0, ci] => some (.ref (100 + mx_c h) :: st, mx_mk h (mxNf ci), (mxT (100 + mx_c h)).1 = ci + 1 ∧ mx_c h < 292)
  | _ => none
def mx_dv (st : List Value) (h : mxH) : Option (List Value × mxH × Prop) := match st with
  | .int y :: .int x :: s => some (.int (x / y) :: s, h, ¬ y = 0)
  | _ => none
def mx_rm (st : List Value) (h : mxH) : Option (List Value × mxH × Prop) := match st with
  | .int y :: .int x :: s => some (.int (x - x / y * y) :: s, h, ¬ y = 0)
  | _ => none
def mx_cp (r : List Nat) (st : List Value) (h : mxH) : Option (List Value × mxH × Prop) := match r, st with
  | [11], .int n :: .int dp :: .ref b :: .int sp :: .ref a :: s => some (s, mx_wrow h b (va_cpy (mx_i h a) (mx_i h b) sp.toNatClampNeg dp.toNatClampNeg n.toNatClampNeg), (((mxT a).1 = 50 ∧ (mxT b).1 = 50) ∧ mxG h) ∧ ¬ sp < 0 ∧ ¬ dp < 0 ∧ ¬ n < 0 ∧ sp.toNatClampNeg + n.toNatClampNeg ≤ (mxT a).2 ∧ dp.toNatClampNeg + n.toNatClampNeg ≤ (mxT b).2 ∧ (s.map mx_cat).sum ≤ 8)
  | [15], .int y :: .int x :: s => some (.int (if y < x then y else x) :: s, h, (s.map mx_cat).sum ≤ 8)
  | [16], .int y :: .int x :: s => some (.int (if x < y then y else x) :: s, h, (s.map mx_cat).sum ≤ 8)
  | _, _ => none
/-- instructions of the heap, and those that can fail -/
def mx_B (ins : Instr) (r : List Nat) (st : List Value) (h : mxH) : Option (List Value × mxH × Prop) := match ins with
  | .getfield _ => mx_gf r st h
  | .putfield _ => mx_pf r st h
  | .iaload => mx_ia r st h
  | .iastore => mx_is r st h
  | .baload => mx_ba r st h
  | .bastore => mx_bs st h
  | .laload => mx_la st h
  | .lastore => mx_ls st h
  | .aaload => mx_aa r st h
  | .aastore => mx_as r st h
  | .arraylength => mx_al r st h
  | .newarray _ => mx_na r st h
  | .anewarray _ => mx_na r st h
  | .new _ => mx_nw r st h
  | .idiv => mx_dv st h
  | .irem => mx_rm st h
  | .invokestatic _ => mx_cp r st h
  | .invokespecial _ => mx_oin r st h
  | _ => none
def mx_sw (lo : Int32) : List Nat → Nat → Int32 → Nat
  | [], d, _ => d
  | t :: ts, d, x => if x = lo then t else mx_sw (lo + 1) ts d x
def mx_swt (r : List Nat) (v : Int32) (st : List Value) : Option (Nat × List Value) := match r, st with
  | d :: ts, .int x :: s => some (mx_sw v ts d x, s)
  | _, _ => none
/-- jumps that ask nothing -/
def mx_J (ins : Instr) (r : List Nat) (v : Int32) (st : List Value) : Option (Nat × List Value) := match ins with
  | .goto _ => (match r with | [t] => some (t, st) | _ => none)
  | .tableswitch _ _ _ _ => mx_swt r v st
  | .lookupswitch _ _ => mx_swt r v st
  | _ => none
def mx_q1 (c : ClassFile.Cond) (x : Int32) : Prop := match c with
  | .eq => x = 0
  | .ne => ¬ x = 0
  | .lt => x < 0
  | .ge => 0 ≤ x
  | .gt => 0 < x
  | .le => x ≤ 0
def mx_q2 (c : ClassFile.Cond) (x y : Int32) : Prop := match c with
  | .eq => x = y
  | .ne => ¬ x = y
  | .lt => x < y
  | .ge => y ≤ x
  | .gt => y < x
  | .le => x ≤ y
def mx_qa (c : ClassFile.ACond) (x y : Nat) : Prop := match c with
  | .eq => x = y
  | .ne => ¬ x = y
/-- what must hold, what is asked, what stays -/
def mx_br (ins : Instr) (st : List Value) : Option (Prop × Prop × List Value) := match ins with
  | .ifCond c _ => (match st with | .int x :: s => some (True, mx_q1 c x, s) | _ => none)
  | .if_icmp c _ => (match st with | .int y :: .int x :: s => some (True, mx_q2 c x y, s) | _ => none)
  | .if_acmp c _ => (match st with | .ref y :: .ref x :: s => some ((x = 0 ∨ (3 ≤ x ∧ x < 29)) ∧ (y = 0 ∨ (3 ≤ y ∧ y < 29)), mx_qa c x y, s) | _ => none)
  | .ifnull _ => (match st with | .ref x :: s => some (¬ x = 29, x = 0, s) | _ => none)
  | _ => none
/-- an answer of this type -/
def mx_rp (t : Option FieldType) (x : Int32) : Prop := match t with
  | some .boolean => x = 0 ∨ x = 1
  | some .char => narrow .char (.int x) = .int x
  | some .byte => narrow .byte (.int x) = .int x
  | _ => True
def mx_ret (y : Nat) (ins : Instr) (st : List Value) : Option (Option Value × Prop) := match ins with
  | .ireturn => (match st with | [.int x] => some (some (.int x), mx_rp (mxR y) x) | _ => none)
  | .areturn => (match st with | [.ref x] => some (some (.ref x), True) | _ => none)
  | .return_ => (match st with | [] => some (none, True) | _ => none)
  | _ => none
def mx_thr (ins : Instr) (r : List Nat) : Option Nat := match ins with
  | .new _ => (match r with | [9, k] => some k | _ => none)
  | _ => none
/-- method, arguments, what stays, condition -/
def mx_cal0 (ins : Instr) (r : List Nat) (st : List Value) (h : mxH) : Option (Nat × List Value × List Value × Prop) := match ins with
  | .invokevirtual _ => (match r with
    | [13, y] => (match (st.take (mxA y)).reverse with
      | .ref a :: as => some (y, .ref a :: as, st.drop (mxA y), (mxT a).1 = mxRc y ∧ mxG h)
      | _ => none)
    | [14, y] => (match (st.take (mxA y)).reverse with
      | .ref a :: as => some (y, .ref a :: as, st.drop (mxA y), 30 ≤ a ∧ a < 82 ∧ a % 2 = 0)
      | _ => none)
    | _ => none)
  | .invokestatic _ => (match r with
    | [13, y] => some (y, (st.take (mxA y)).reverse, st.drop (mxA y), True)
    | _ => none)
  | .invokespecial _ => (match r with
    | [13, y] => (match (st.take (mxA y)).reverse with
      | .ref a :: as => some (y, .ref a :: as, st.drop (mxA y), 100 ≤ a)
      | _ => none)
    | _ => none)
  | _ => none
/-- the same, all arguments being there, none of them a long -/
def mx_cal (ins : Instr) (r : List Nat) (st : List Value) (h : mxH) : Option (Nat × List Value × List Value × Prop) := match mx_cal0 ins r st h with
  | none => none
  | some q => match Nat.beq q.2.1.length (mxA q.1) && q.2.1.all (fun v => Nat.beq (mx_cat v) 1) with
    | true => some q
    | false => none
def mx_fr (y : Nat) (as : List Value) : mxLs := as.map some ++ List.replicate (mxL y - as.length) none
/-- the handler of a method for an exception at an instruction: where to go on behind its store, and the place of the store -/
def mx_hd (y i k : Nat) : Option (Nat × Nat) := ((mxHd y).find? (fun q => decide (q.1 ≤ i ∧ i < q.2.1 ∧ q.2.2.1 = k))).map (fun q => q.2.2.2)
def mx_isI (ins : Instr) : Bool := match ins with
  | .invokespecial _ => true
  | _ => false
/-- where an exception goes on: not at all, to the caller, to a handler -/
def mx_exc (y i : Nat) (b : Bool) (k : Nat) : Option (Option (Nat × Nat)) := match b with
  | true => none
  | false => match mx_hd y i k with
    | some q => some (some q)
    | none => match mxHd y with
      | [] => some none
      | _ => none
/-- one step of it, the rest being g -/
noncomputable def mx_F (g : Nat → Nat → Nat → mxLs → List Value → mxH → Option (mxO × mxH)) (d y i : Nat) (ls : mxLs) (st : List Value) (h : mxH) : Option (mxO × mxH) := match (mxC y)[i]? with
  | none => none
  | some (_, ins, _, r, v) => match mx_A ins r v ls st with
    | some (ls', st') => g d y (i + 1) ls' st' h
    | none => match mx_B ins r st h with
      | some (st', h', P) => @ite _ P (Classical.propDecidable P) (g d y (i + 1) ls st' h') none
      | none => match mx_J ins r v st with
        | some (j, st') => g d y j ls st' h
        | none => match mx_br ins st with
          | some (P, c, st') => @ite _ P (Classical.propDecidable P) (@ite _ c (Classical.propDecidable c) (g d y (r.headD 0) ls st' h) (g d y (i + 1) ls st' h)) none
          | none => match mx_ret y ins st with
            | some (o, P) => @ite _ P (Classical.propDecidable P) (some (.inl o, h)) none
            | none => match mx_thr ins r with
              | some k => @ite _ (mx_c h = 292 ∧ (st.map mx_cat).sum ≤ 8) (Classical.propDecidable _) (some (.inr k, mx_ex h)) none
              | none => match mx_cal ins r st h with
                | none => none
                | some (y', as, rest, P) => match d with
                  | 0 => none
                  | d' + 1 => @ite _ (P ∧ (rest.map mx_cat).sum ≤ 8) (Classical.propDecidable _) (match g d' y' 0 (mx_fr y' as) [] h with
                    | none => none
                    | some (.inl o, h') => g (d' + 1) y (i + 1) ls (o.toList ++ rest) h'
                    | some (.inr k, h') => match mx_exc y i (mx_isI ins) k with
                      | some (some (j, q)) => g (d' + 1) y j (ls.set q none) [] h'
                      | some none => some (.inr k, h')
                      | none => none) none
noncomputable def mx_go : Nat → Nat → Nat → Nat → mxLs → List Value → mxH → Option (mxO × mxH)
  | 0 => fun _ _ _ _ _ _ => none
  | n + 1 => mx_F (mx_go n)
/-- it comes to an end, with Q -/
def mx_wp (d y i : Nat) (ls : mxLs) (st : List Value) (h : mxH) (Q : mxO → mxH → Prop) : Prop := ∃ (n : Nat) (o : mxO) (h' : mxH), mx_go n d y i ls st h = some (o, h') ∧ Q o h'
