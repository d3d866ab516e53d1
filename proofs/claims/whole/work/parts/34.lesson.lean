/-! lessons in thought -/
theorem lead_gt {a b : Nat} (ha : a ≤ 999) (hb : b ≤ 999) : (0 < nI a - nI b) = (b < a) := by
  apply propext
  rw [Int32.lt_iff_toInt_lt, pk_sub_toInt (by omega) (by omega)]
  show (0 : Int) < _ ↔ _
  omega
theorem lead_le {a b : Nat} (ha : a ≤ 999) (hb : b ≤ 999) : (nI a - nI b ≤ 0) = ¬ (b < a) := by
  apply propext
  rw [Int32.le_iff_toInt_le, pk_sub_toInt (by omega) (by omega)]
  show _ ≤ (0 : Int) ↔ _
  omega
def W_isR (T : Nat → Row) : Nat → Bool := fun b => decide ((T b).2.1 < (T b).1)
theorem lp_bits_th {d n : Nat} {T : Nat → Row} {k0 : Nat} {K : Int32 → pmT → Prop} {H : pmT} (hn : H.1 8 0 = nI n) (hn12 : n ≤ 12) (hT : ∀ b, b < n → TR H b (T b)) (hV : ∀ b, b < n → RV k0 (T b)) (kk : K (nI (W_set (W_isR T) n)) H) : ∀ m b, b + m = n → pm_RW none (d + 1) M_Ha_lessonBits (pm_i K) 4 [(0, .ref 8), (1, .int (nI (W_set (W_isR T) b))), (2, .int (nI b))] [] H
  | 0, b, hb => by
    refine b_Ha_lessonBits_8_4 _ _ ?_
    have e : b = n := by omega
    rw [hn, i_le _ _ (by omega) (by omega)]
    first | refine bt (show n ≤ b by omega) ?_ | refine bf (show n ≤ b by omega) ?_ | refine nt (show n ≤ b by omega) ?_ | refine nf (show n ≤ b by omega) ?_
    rw [e]
    exact kk
  | m + 1, b, hb => by
    have ih := lp_bits_th (d := d) hn hn12 hT hV kk m
    refine b_Ha_lessonBits_8_4 _ _ ?_
    obtain ⟨h1, h2, h3⟩ := hT b (by omega)
    obtain ⟨v1, v2, v3⟩ := hV b (by omega)
    rw [hn, i_le _ _ (by omega) (by omega), nIc (by omega), h1, h2, lead_le v1 v2]
    have ea : nI b + (1 : Int32) = nI (b + 1) := nI_1 b
    first | refine bt (show ¬ n ≤ b by omega) ?_ | refine bf (show ¬ n ≤ b by omega) ?_ | refine nt (show ¬ n ≤ b by omega) ?_ | refine nf (show ¬ n ≤ b by omega) ?_
    refine ⟨vp_in_nI (by omega) (by decide), ?_⟩
    rw [ea, one_shl b (by omega), set_or (W_set_lt _ b)]
    have i1 := ih (b + 1) (by omega)
    unfold W_set at i1
    by_cases c : (T b).2.1 < (T b).1
    · rw [if_pos (show W_isR T b = true from decide_eq_true c)] at i1
      exact ⟨fun z => absurd c z, fun _ => i1⟩
    · rw [if_neg (show ¬ W_isR T b = true from fun z => c (of_decide_eq_true z)), Nat.add_zero] at i1
      exact ⟨fun _ => i1, fun z => absurd c z⟩
theorem c_bits_th {d n : Nat} {T : Nat → Row} {k0 : Nat} {K : Int32 → pmT → Prop} {H : pmT} (hn : H.1 8 0 = nI n) (hn12 : n ≤ 12) (hT : ∀ b, b < n → TR H b (T b)) (hV : ∀ b, b < n → RV k0 (T b)) (kk : K (nI (W_set (W_isR T) n)) H) : pm_R (d + 1) M_Ha_lessonBits [.ref 8] H (pm_i K) := by
  refine m_Ha_lessonBits_8 ?_
  exact lp_bits_th hn hn12 hT hV kk n 0 (by omega)
theorem c_count_th {d n : Nat} {T : Nat → Row} {k0 : Nat} {K : Int32 → pmT → Prop} {H : pmT} (hn : H.1 8 0 = nI n) (hn12 : n ≤ 12) (hT : ∀ b, b < n → TR H b (T b)) (hV : ∀ b, b < n → RV k0 (T b)) (kk : K (nI (W_cnt (W_isR T) n)) H) : pm_R (d + 2) M_Ha_lessonCount [.ref 8] H (pm_i K) := by
  refine m_Ha_lessonCount_8 ?_
  refine c_bits_th hn hn12 hT hV ?_
  have hlt := W_set_lt (W_isR T) n
  have h12 : 2 ^ n ≤ 2 ^ 12 := Nat.pow_le_pow_right (by decide) hn12
  refine c_bitCount (by omega) ?_
  rw [W_pop_set _ hn12]
  exact kk
theorem lp_bits_now {d n : Nat} {T : Nat → Row} {k0 : Nat} {K : Int32 → pmT → Prop} {H : pmT} (hn : H.1 2 0 = nI n) (hn12 : n ≤ 12) (hT : ∀ b, b < n → NR H b (T b)) (hV : ∀ b, b < n → RV k0 (T b)) (kk : K (nI (W_set (W_isR T) n)) H) : ∀ m b, b + m = n → pm_RW none (d + 1) M_Ha_lessonBits (pm_i K) 4 [(0, .ref 2), (1, .int (nI (W_set (W_isR T) b))), (2, .int (nI b))] [] H
  | 0, b, hb => by
    refine b_Ha_lessonBits_2_4 _ _ ?_
    have e : b = n := by omega
    rw [hn, i_le _ _ (by omega) (by omega)]
    first | refine bt (show n ≤ b by omega) ?_ | refine bf (show n ≤ b by omega) ?_ | refine nt (show n ≤ b by omega) ?_ | refine nf (show n ≤ b by omega) ?_
    rw [e]
    exact kk
  | m + 1, b, hb => by
    have ih := lp_bits_now (d := d) hn hn12 hT hV kk m
    refine b_Ha_lessonBits_2_4 _ _ ?_
    obtain ⟨h1, h2, h3⟩ := hT b (by omega)
    obtain ⟨v1, v2, v3⟩ := hV b (by omega)
    rw [hn, i_le _ _ (by omega) (by omega), nIc (by omega), h1, h2, lead_le v1 v2]
    have ea : nI b + (1 : Int32) = nI (b + 1) := nI_1 b
    first | refine bt (show ¬ n ≤ b by omega) ?_ | refine bf (show ¬ n ≤ b by omega) ?_ | refine nt (show ¬ n ≤ b by omega) ?_ | refine nf (show ¬ n ≤ b by omega) ?_
    refine ⟨vp_in_nI (by omega) (by decide), ?_⟩
    rw [ea, one_shl b (by omega), set_or (W_set_lt _ b)]
    have i1 := ih (b + 1) (by omega)
    unfold W_set at i1
    by_cases c : (T b).2.1 < (T b).1
    · rw [if_pos (show W_isR T b = true from decide_eq_true c)] at i1
      exact ⟨fun z => absurd c z, fun _ => i1⟩
    · rw [if_neg (show ¬ W_isR T b = true from fun z => c (of_decide_eq_true z)), Nat.add_zero] at i1
      exact ⟨fun _ => i1, fun z => absurd c z⟩
theorem c_bits_now {d n : Nat} {T : Nat → Row} {k0 : Nat} {K : Int32 → pmT → Prop} {H : pmT} (hn : H.1 2 0 = nI n) (hn12 : n ≤ 12) (hT : ∀ b, b < n → NR H b (T b)) (hV : ∀ b, b < n → RV k0 (T b)) (kk : K (nI (W_set (W_isR T) n)) H) : pm_R (d + 1) M_Ha_lessonBits [.ref 2] H (pm_i K) := by
  refine m_Ha_lessonBits_2 ?_
  exact lp_bits_now hn hn12 hT hV kk n 0 (by omega)
theorem c_count_now {d n : Nat} {T : Nat → Row} {k0 : Nat} {K : Int32 → pmT → Prop} {H : pmT} (hn : H.1 2 0 = nI n) (hn12 : n ≤ 12) (hT : ∀ b, b < n → NR H b (T b)) (hV : ∀ b, b < n → RV k0 (T b)) (kk : K (nI (W_cnt (W_isR T) n)) H) : pm_R (d + 2) M_Ha_lessonCount [.ref 2] H (pm_i K) := by
  refine m_Ha_lessonCount_2 ?_
  refine c_bits_now hn hn12 hT hV ?_
  have hlt := W_set_lt (W_isR T) n
  have h12 : 2 ^ n ≤ 2 ^ 12 := Nat.pow_le_pow_right (by decide) hn12
  refine c_bitCount (by omega) ?_
  rw [W_pop_set _ hn12]
  exact kk
/-- the first bar from b on that does not come right, of n; 2^32 - 2 stands for NOT -/
def W_slip (T : Nat → Row) : Nat → Nat → Int32
  | 0, _ => -2
  | m + 1, b => if (T b).2.1 < (T b).1 then W_slip T m (b + 1) else nI b
theorem lp_slip {d n : Nat} {T : Nat → Row} {k0 : Nat} {K : Int32 → pmT → Prop} {H : pmT} (hn : H.1 8 0 = nI n) (hn12 : n ≤ 12) (hT : ∀ b, b < n → TR H b (T b)) (hV : ∀ b, b < n → RV k0 (T b)) : ∀ m b, b + m = n → K (W_slip T m b) H → pm_RW none (d + 1) M_Ha_firstSlip (pm_i K) 2 [(0, .ref 8), (1, .int (nI b))] [] H
  | 0, b, hb, kk => by
    refine b_Ha_firstSlip_2 _ ?_
    rw [hn, i_le _ _ (by omega) (by omega)]
    first | refine bt (show n ≤ b by omega) ?_ | refine bf (show n ≤ b by omega) ?_ | refine nt (show n ≤ b by omega) ?_ | refine nf (show n ≤ b by omega) ?_
    exact kk
  | m + 1, b, hb, kk => by
    have ih := lp_slip (d := d) (K := K) hn hn12 hT hV m
    refine b_Ha_firstSlip_2 _ ?_
    obtain ⟨h1, h2, h3⟩ := hT b (by omega)
    obtain ⟨v1, v2, v3⟩ := hV b (by omega)
    rw [hn, i_le _ _ (by omega) (by omega), nIc (by omega), h1, h2, lead_gt v1 v2]
    have ea : nI b + (1 : Int32) = nI (b + 1) := nI_1 b
    first | refine bt (show ¬ n ≤ b by omega) ?_ | refine bf (show ¬ n ≤ b by omega) ?_ | refine nt (show ¬ n ≤ b by omega) ?_ | refine nf (show ¬ n ≤ b by omega) ?_
    refine ⟨vp_in_nI (by omega) (by decide), ?_⟩
    rw [ea]
    unfold W_slip at kk
    by_cases c : (T b).2.1 < (T b).1
    · rw [if_pos c] at kk
      first | refine bt c ?_ | refine bf c ?_ | refine nt c ?_ | refine nf c ?_
      exact ih (b + 1) (by omega) kk
    · rw [if_neg c] at kk
      first | refine bt c ?_ | refine bf c ?_ | refine nt c ?_ | refine nf c ?_
      exact kk
theorem c_slip {d n : Nat} {T : Nat → Row} {k0 : Nat} {K : Int32 → pmT → Prop} {H : pmT} (hn : H.1 8 0 = nI n) (hn12 : n ≤ 12) (hT : ∀ b, b < n → TR H b (T b)) (hV : ∀ b, b < n → RV k0 (T b)) (kk : K (W_slip T n 0) H) : pm_R (d + 1) M_Ha_firstSlip [.ref 8] H (pm_i K) := by
  refine m_Ha_firstSlip ?_
  exact lp_slip hn hn12 hT hV n 0 (by omega) kk
