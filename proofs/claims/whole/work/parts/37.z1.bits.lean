/-! Int32 by its bits (the family bt is pasted from kit/laws/BITS.to-paste) -/
def bt (x : Int32) (i : Nat) : Bool := x.toBitVec.getLsbD i
theorem b_ext {x y : Int32} (h : ∀ i, i < 32 → bt x i = bt y i) : x = y := Int32.toBitVec_inj.mp (BitVec.eq_of_getLsbD_eq (fun i hi => h i hi))
theorem b_or (x y : Int32) (i : Nat) : bt (x ||| y) i = (bt x i || bt y i) := by unfold bt; rw [Int32.toBitVec_or, BitVec.getLsbD_or]
theorem b_and (x y : Int32) (i : Nat) : bt (x &&& y) i = (bt x i && bt y i) := by unfold bt; rw [Int32.toBitVec_and, BitVec.getLsbD_and]
theorem b_xor (x y : Int32) (i : Nat) : bt (x ^^^ y) i = (bt x i ^^ bt y i) := by unfold bt; rw [Int32.toBitVec_xor, BitVec.getLsbD_xor]
theorem b_big {x : Int32} {i : Nat} (h : 32 ≤ i) : bt x i = false := BitVec.getLsbD_of_ge _ _ h
theorem b_255 (i : Nat) : bt 255 i = decide (i < 8) := by
  rcases Nat.lt_or_ge i 32 with h | h
  · exact (by decide +kernel : ∀ i, i < 32 → bt 255 i = decide (i < 8)) i h
  · rw [b_big h, decide_eq_false (by omega)]
theorem b_65535 (i : Nat) : bt 65535 i = decide (i < 16) := by
  rcases Nat.lt_or_ge i 32 with h | h
  · exact (by decide +kernel : ∀ i, i < 32 → bt 65535 i = decide (i < 16)) i h
  · rw [b_big h, decide_eq_false (by omega)]
theorem b_m1 : ∀ i, i < 32 → bt (-1) i = true := by decide +kernel
theorem b_0 (i : Nat) : bt 0 i = false := BitVec.getLsbD_zero
theorem s_l : ∀ n, n < 32 → ((nI n &&& 31).toBitVec.smod 32).toNat = n := by decide +kernel
theorem s_u : ∀ n, n < 32 → (((nI n).toUInt32 &&& Int32.toUInt32 31).toBitVec % 32).toNat = n := by decide +kernel
theorem b_shl (n : Nat) (hn : n < 32) (x : Int32) {i : Nat} (hi : i < 32) : bt (x <<< (nI n &&& 31)) i = (decide (n ≤ i) && bt x (i - n)) := by
  unfold bt
  rw [Int32.toBitVec_shiftLeft]
  show (x.toBitVec <<< ((nI n &&& 31).toBitVec.smod 32).toNat).getLsbD i = _
  rw [s_l n hn, BitVec.getLsbD_shiftLeft]
  rcases Nat.lt_or_ge i n with h | h
  · simp [h, Nat.not_le.mpr h]
  · simp [hi, h, Nat.not_lt.mpr h]
theorem b_ushr (n : Nat) (hn : n < 32) (x : Int32) (i : Nat) : bt ((x.toUInt32 >>> ((nI n).toUInt32 &&& Int32.toUInt32 31)).toInt32) i = bt x (n + i) := by
  show (x.toUInt32 >>> ((nI n).toUInt32 &&& Int32.toUInt32 31)).toBitVec.getLsbD i = x.toUInt32.toBitVec.getLsbD (n + i)
  rw [UInt32.toBitVec_shiftRight]
  show (x.toUInt32.toBitVec >>> (((nI n).toUInt32 &&& Int32.toUInt32 31).toBitVec % 32).toNat).getLsbD i = _
  rw [s_u n hn, BitVec.getLsbD_ushiftRight]
theorem b_sshr (n : Nat) (hn : n < 32) (x : Int32) {i : Nat} (hi : i < 32) : bt (x >>> (nI n &&& 31)) i = if n + i < 32 then bt x (n + i) else bt x 31 := by
  unfold bt
  rw [Int32.toBitVec_shiftRight]
  show (x.toBitVec.sshiftRight ((nI n &&& 31).toBitVec.smod 32).toNat).getLsbD i = _
  rw [s_l n hn, BitVec.getLsbD_sshiftRight, BitVec.msb_eq_getLsbD_last]
  simp [hi]
theorem bt_1 (i : Nat) : bt 1 i = decide (i = 0) := by
  rcases Nat.lt_or_ge i 32 with h | h
  · exact (by decide +kernel : ∀ i, i < 32 → bt 1 i = decide (i = 0)) i h
  · rw [b_big h, decide_eq_false (by omega)]
theorem b_and1 (y : Int32) : y &&& 1 = if bt y 0 then 1 else 0 := by
  apply b_ext
  intro i hi
  rw [b_and, bt_1]
  by_cases h0 : i = 0
  · subst h0
    cases hb : bt y 0 <;> simp [b_0, bt_1]
  · cases hb : bt y 0 <;> simp [b_0, bt_1, h0]
/-- one bit -/
theorem tbv (x : Int32) {z : Nat} (hz : z < 32) : (x >>> (nI z &&& 31)) &&& 1 = if bt x z then 1 else 0 := by
  rw [b_and1, b_sshr z hz x (by decide)]
  simp [hz]
theorem tb1 (x : Int32) {z : Nat} (hz : z < 32) : ((x >>> (nI z &&& 31)) &&& 1 = 1) = (bt x z = true) := by
  rw [tbv x hz]
  cases bt x z <;> simp
theorem b_one {z i : Nat} (hz : z < 32) (hi : i < 32) : bt ((1 : Int32) <<< (nI z &&& 31)) i = decide (i = z) := by
  rw [b_shl z hz 1 hi, bt_1]
  by_cases h : i = z
  · subst h; simp
  · by_cases h2 : z ≤ i
    · have : ¬ i - z = 0 := by omega
      simp [h, this]
    · simp [h, h2]
/-- those below n that p holds of, as bits -/
def orS (n : Nat) (p : Nat → Bool) : Int32 := fo (fun z s => if p z = true then s ||| ((1 : Int32) <<< (nI z &&& 31)) else s) n 0
theorem bt_orS {n : Nat} (hn : n ≤ 32) (p : Nat → Bool) {i : Nat} (hi : i < 32) : bt (orS n p) i = (decide (i < n) && p i) := by
  induction n with
  | zero => show bt 0 i = _; rw [b_0]; simp
  | succ n ih =>
    show bt (if p n = true then orS n p ||| _ else orS n p) i = _
    by_cases hp : p n = true
    · rw [if_pos hp, b_or, ih (by omega), b_one (by omega) hi]
      by_cases e : i = n
      · subst e; simp [hp]
      · have : (i < n + 1) ↔ (i < n) := by omega
        simp [e, this]
    · rw [if_neg hp, ih (by omega)]
      by_cases e : i = n
      · subst e; simp [hp]
      · have : (i < n + 1) ↔ (i < n) := by omega
        simp [this]
theorem or_0 (x : Int32) : x ||| 0 = x := by
  apply b_ext; intro i _; rw [b_or, b_0]; simp
/-- a sum -/
def smS (n : Nat) (f : Nat → Int32) : Int32 := fo (fun z s => s + f z) n 0
theorem orS_congr {n : Nat} {p q : Nat → Bool} (h : ∀ z, z < n → p z = q z) : orS n p = orS n q := fo_congr (fun z hz s => by rw [h z hz])
theorem smS_congr {n : Nat} {f g : Nat → Int32} (h : ∀ z, z < n → f z = g z) : smS n f = smS n g := fo_congr (fun z hz s => by rw [h z hz])
theorem orS_of {n : Nat} {p : Nat → Bool} {f : Nat → Int32 → Int32} (h : ∀ z, z < n → ∀ s, f z s = if p z = true then s ||| ((1 : Int32) <<< (nI z &&& 31)) else s) : fo f n 0 = orS n p := fo_congr h
theorem smS_of {n : Nat} {g : Nat → Int32} {f : Nat → Int32 → Int32} (h : ∀ z, z < n → ∀ s, f z s = s + g z) : fo f n 0 = smS n g := fo_congr h
