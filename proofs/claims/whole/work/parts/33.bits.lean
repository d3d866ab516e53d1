/-! sets of bars as bits; lessons in thought -/
def W_set (P : Nat → Bool) : Nat → Nat
  | 0 => 0
  | n + 1 => W_set P n + (if P n = true then 2 ^ n else 0)
def W_cnt (P : Nat → Bool) : Nat → Nat
  | 0 => 0
  | n + 1 => W_cnt P n + (if P n = true then 1 else 0)
def W_pop (v : Nat) : Nat := W_cnt (fun k => v.testBit k) 12
theorem W_set_lt (P : Nat → Bool) : ∀ n, W_set P n < 2 ^ n
  | 0 => Nat.one_pos
  | n + 1 => by
    have := W_set_lt P n
    unfold W_set
    rw [Nat.pow_succ]
    split <;> omega
theorem W_set_bit (P : Nat → Bool) : ∀ n k, (W_set P n).testBit k = (decide (k < n) && P k)
  | 0, k => by simp [W_set]
  | n + 1, k => by
    have ih := W_set_bit P n k
    have hlt := W_set_lt P n
    unfold W_set
    by_cases hp : P n = true
    · rw [if_pos hp, Nat.add_comm]
      rcases Nat.lt_trichotomy k n with h | h | h
      · rw [Nat.testBit_two_pow_add_gt h, ih]
        simp [h, Nat.lt_succ_of_lt h]
      · subst h
        rw [Nat.testBit_two_pow_add_eq, ih]
        simp [hp]
      · rw [Nat.testBit_lt_two_pow]
        · simp only [Bool.false_eq, Bool.and_eq_false_iff, decide_eq_false_iff_not]
          exact Or.inl (by omega)
        · have : 2 ^ (n + 1) ≤ 2 ^ k := Nat.pow_le_pow_right (by decide) h
          rw [Nat.pow_succ] at this
          omega
    · rw [if_neg hp, Nat.add_zero, ih]
      rcases Nat.lt_trichotomy k n with h | h | h
      · simp [h, Nat.lt_succ_of_lt h]
      · subst h; simp [hp]
      · simp [show ¬ k < n by omega, show ¬ k < n + 1 by omega]
theorem W_cnt_congr {P Q : Nat → Bool} : ∀ {n : Nat}, (∀ k, k < n → P k = Q k) → W_cnt P n = W_cnt Q n
  | 0, _ => rfl
  | n + 1, h => by
    unfold W_cnt
    rw [W_cnt_congr (fun k hk => h k (by omega)), h n (by omega)]
theorem W_set_congr {P Q : Nat → Bool} : ∀ {n : Nat}, (∀ k, k < n → P k = Q k) → W_set P n = W_set Q n
  | 0, _ => rfl
  | n + 1, h => by
    unfold W_set
    rw [W_set_congr (fun k hk => h k (by omega)), h n (by omega)]
theorem W_cnt_zero : ∀ {P : Nat → Bool} {n m : Nat}, n ≤ m → (∀ k, n ≤ k → k < m → P k = false) → W_cnt P m = W_cnt P n
  | P, n, 0, h, _ => by
    have : n = 0 := by omega
    rw [this]
  | P, n, m + 1, h, g => by
    by_cases e : n = m + 1
    · rw [e]
    · conv => lhs; unfold W_cnt
      rw [W_cnt_zero (by omega) (fun k h1 h2 => g k h1 (by omega)), g m (by omega) (by omega)]
      simp
theorem W_pop_set (P : Nat → Bool) {n : Nat} (hn : n ≤ 12) : W_pop (W_set P n) = W_cnt P n := by
  unfold W_pop
  rw [W_cnt_congr (Q := fun k => decide (k < n) && P k) (fun k _ => W_set_bit P n k)]
  rw [W_cnt_zero hn (fun k h1 _ => by simp [show ¬ k < n by omega])]
  exact W_cnt_congr (fun k hk => by simp [hk])
theorem W_cnt_le (P : Nat → Bool) : ∀ n, W_cnt P n ≤ n
  | 0 => Nat.le_refl _
  | n + 1 => by
    have := W_cnt_le P n
    unfold W_cnt
    split <;> omega
theorem one_shl : ∀ b, b < 12 → (1 : Int32) <<< (nI b &&& 31) = nI (2 ^ b) := by decide +kernel
theorem nI_or (a b : Nat) : nI a ||| nI b = nI (a ||| b) := by
  apply Int32.toBitVec_inj.mp
  show BitVec.ofNat 32 a ||| BitVec.ofNat 32 b = BitVec.ofNat 32 (a ||| b)
  exact (BitVec.ofNat_or).symm
theorem set_or {s b : Nat} (hs : s < 2 ^ b) : nI s ||| nI (2 ^ b) = nI (s + 2 ^ b) := by
  rw [nI_or]
  congr 1
  rw [Nat.or_comm, Nat.add_comm]
  have e := Nat.two_pow_add_eq_or_of_lt hs 1
  rw [Nat.mul_one] at e
  exact e.symm
/-- Integer.bitCount, as it is worked out -/
def bc1 (x : Int32) : Int32 := x - ((x.toUInt32 >>> ((1 : Int32).toUInt32 &&& Int32.toUInt32 31)).toInt32 &&& (1431655765 : Int32))
def bc2 (x : Int32) : Int32 := (x &&& (858993459 : Int32)) + ((x.toUInt32 >>> ((2 : Int32).toUInt32 &&& Int32.toUInt32 31)).toInt32 &&& (858993459 : Int32))
def bc3 (x : Int32) : Int32 := (x + (x.toUInt32 >>> ((4 : Int32).toUInt32 &&& Int32.toUInt32 31)).toInt32) &&& (252645135 : Int32)
def bc4 (x : Int32) : Int32 := x + (x.toUInt32 >>> ((8 : Int32).toUInt32 &&& Int32.toUInt32 31)).toInt32
def bc5 (x : Int32) : Int32 := (x + (x.toUInt32 >>> ((16 : Int32).toUInt32 &&& Int32.toUInt32 31)).toInt32) &&& (63 : Int32)
def bcI (x : Int32) : Int32 := bc5 (bc4 (bc3 (bc2 (bc1 x))))
set_option maxRecDepth 100000 in
theorem bcI_ok : ∀ v, v < 4096 → bcI (nI v) = nI (W_pop v) := by decide +kernel
theorem c_bitCount {d v : Nat} {H : pmT} {K : Int32 → pmT → Prop} (hv : v < 4096) (k : K (nI (W_pop v)) H) : pm_R d M_Jn_bitCount [.int (nI v)] H (pm_i K) := by
  refine m_Jn_bitCount _ ?_
  show K (bcI (nI v)) H
  rw [bcI_ok v hv]
  exact k
