/-! bits (rows of laws/BITS.to-paste, the family of bt) -/
def bt (x : Int32) (i : Nat) : Bool := x.toBitVec.getLsbD i
theorem b_ext {x y : Int32} (h : ∀ i, i < 32 → bt x i = bt y i) : x = y := Int32.toBitVec_inj.mp (BitVec.eq_of_getLsbD_eq (fun i hi => h i hi))
theorem b_or (x y : Int32) (i : Nat) : bt (x ||| y) i = (bt x i || bt y i) := by unfold bt; rw [Int32.toBitVec_or, BitVec.getLsbD_or]
theorem b_and (x y : Int32) (i : Nat) : bt (x &&& y) i = (bt x i && bt y i) := by unfold bt; rw [Int32.toBitVec_and, BitVec.getLsbD_and]
theorem b_xor (x y : Int32) (i : Nat) : bt (x ^^^ y) i = (bt x i ^^ bt y i) := by unfold bt; rw [Int32.toBitVec_xor, BitVec.getLsbD_xor]
theorem b_big {x : Int32} {i : Nat} (h : 32 ≤ i) : bt x i = false := BitVec.getLsbD_of_ge _ _ h
theorem b_m1 : ∀ i, i < 32 → bt (-1) i = true := by decide +kernel
theorem b_0 (i : Nat) : bt 0 i = false := BitVec.getLsbD_zero
theorem s_l : ∀ n, n < 32 → ((nI n &&& 31).toBitVec.smod 32).toNat = n := by decide +kernel
theorem b_shl (n : Nat) (hn : n < 32) (x : Int32) {i : Nat} (hi : i < 32) : bt (x <<< (nI n &&& 31)) i = (decide (n ≤ i) && bt x (i - n)) := by
  unfold bt
  rw [Int32.toBitVec_shiftLeft]
  show (x.toBitVec <<< ((nI n &&& 31).toBitVec.smod 32).toNat).getLsbD i = _
  rw [s_l n hn, BitVec.getLsbD_shiftLeft]
  rcases Nat.lt_or_ge i n with h | h
  · simp [h, Nat.not_le.mpr h]
  · simp [hi, h, Nat.not_lt.mpr h]
theorem b_sshr (n : Nat) (hn : n < 32) (x : Int32) {i : Nat} (hi : i < 32) : bt (x >>> (nI n &&& 31)) i = if n + i < 32 then bt x (n + i) else bt x 31 := by
  unfold bt
  rw [Int32.toBitVec_shiftRight]
  show (x.toBitVec.sshiftRight ((nI n &&& 31).toBitVec.smod 32).toNat).getLsbD i = _
  rw [s_l n hn, BitVec.getLsbD_sshiftRight, BitVec.msb_eq_getLsbD_last]
  simp [hi]
theorem b_1 : ∀ i, i < 32 → bt 1 i = decide (i = 0) := by decide +kernel
theorem bit1 {c : Int32} {t : Nat} (ht : t < 32) : ((c >>> (nI t &&& 31)) &&& 1) = 1 ↔ bt c t = true := by
  have h0 : bt (c >>> (nI t &&& 31)) 0 = bt c t := by
    rw [b_sshr t ht c (by decide), if_pos (by omega), Nat.add_zero]
  constructor
  · intro h
    have h1 : bt ((c >>> (nI t &&& 31)) &&& 1) 0 = true := by rw [h]; exact b_1 0 (by decide)
    rw [b_and, h0] at h1
    exact (Bool.and_eq_true _ _ ▸ h1).1
  · intro h
    refine b_ext (fun i hi => ?_)
    rw [b_and, b_1 i hi]
    by_cases e : i = 0
    · subst e; rw [h0, h]; rfl
    · simp [e]
theorem bit_or {c : Int32} {a t : Nat} (ha : a < 32) (ht : t < 32) : bt (c ||| (1 <<< (nI a &&& 31))) t = (bt c t || decide (a = t)) := by
  rw [b_or, b_shl a ha 1 ht]
  by_cases e : a = t
  · subst e
    rw [Nat.sub_self, b_1 0 (by decide)]
    simp
  · by_cases h : a ≤ t
    · rw [b_1 (t - a) (by omega)]
      simp [e, show ¬ t - a = 0 by omega]
    · simp [h, e]
theorem bit_cl {c : Int32} {k : Nat} (hk : k < 32) : bt (c &&& ((1 <<< (nI k &&& 31)) ^^^ (-1))) k = false := by
  rw [b_and, b_xor, b_shl k hk 1 hk, b_m1 k hk, Nat.sub_self, b_1 0 (by decide)]
  simp
