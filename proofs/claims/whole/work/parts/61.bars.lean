/-! calls in pairs: bars off a shelf, what is kept -/
theorem sub32 (a b : Int32) (h : -2 ^ 30 ≤ a.toInt ∧ a.toInt < 2 ^ 30) (g : -2 ^ 30 ≤ b.toInt ∧ b.toInt < 2 ^ 30) : (a - b).toInt = a.toInt - b.toInt := by
  rw [Int32.toInt_sub]
  exact Int.bmod_eq_of_le (by omega) (by omega)
theorem sh_nin {S : List Nat} (h : nin S [4301, 4302, 4303, 4501, 4502, 4503, 4701, 4702, 4703, 4901, 4902, 4903, 5101, 5102, 5103, 5301, 5302, 5303] = true) {d k : Nat} (hd : d < 6) (hk : k < 3) : pm_has S (pm_cd (43 + 2 * d) k) = false := by
  rcases (show d = 0 ∨ d = 1 ∨ d = 2 ∨ d = 3 ∨ d = 4 ∨ d = 5 by omega) with e | e | e | e | e | e <;> subst e <;> rcases (show k = 0 ∨ k = 1 ∨ k = 2 by omega) with e | e | e <;> subst e <;> exact nin_of h (by decide)
def W_bs (n len k : Nat) (g : Nat → Int64) : Nat → Nat → Nat
  | 0, q => q
  | m + 1, q => if (k + 2 * q + 1 < len ∧ n + q < 12) ∧ (0 ≤ (g (k + 2 * q)).toInt ∧ (g (k + 2 * q)).toInt ≤ 999) ∧ (0 ≤ (g (k + 2 * q + 1)).toInt ∧ (g (k + 2 * q + 1)).toInt ≤ 999) then W_bs n len k g m (q + 1) else q
def W_bg (k : Nat) (g : Nat → Int64) (j : Nat) : Nat × Nat := ((g (k + 2 * j)).toInt.toNat, (g (k + 2 * j + 1)).toInt.toNat)
theorem W_bs_ok {n len k : Nat} {g : Nat → Int64} : ∀ (m q : Nat), n + q ≤ 12 → n + W_bs n len k g m q ≤ 12 ∧ ∀ j, q ≤ j → j < W_bs n len k g m q → (W_bg k g j).1 ≤ 999 ∧ (W_bg k g j).2 ≤ 999
  | 0, q, h => ⟨h, fun j h1 h2 => absurd (show j < q from h2) (by omega)⟩
  | m + 1, q, h => by
    unfold W_bs
    by_cases c : (k + 2 * q + 1 < len ∧ n + q < 12) ∧ (0 ≤ (g (k + 2 * q)).toInt ∧ (g (k + 2 * q)).toInt ≤ 999) ∧ (0 ≤ (g (k + 2 * q + 1)).toInt ∧ (g (k + 2 * q + 1)).toInt ≤ 999)
    · rw [if_pos c]
      obtain ⟨i1, i2⟩ := W_bs_ok (n := n) (len := len) (k := k) (g := g) m (q + 1) (by omega)
      refine ⟨i1, fun j h1 h2 => ?_⟩
      by_cases z : j = q
      · subst z
        exact ⟨by show (g (k + 2 * j)).toInt.toNat ≤ 999; omega, by show (g (k + 2 * j + 1)).toInt.toNat ≤ 999; omega⟩
      · exact i2 j (by omega) h2
    · rw [if_neg c]
      exact ⟨h, fun j h1 h2 => absurd h2 (by omega)⟩
theorem c_PWbar {d n : Nat} {H : pmT} {K : Int32 → pmT → Prop} (x y : Int32) (hn : H.1 2 0 = nI n) (hn12 : n ≤ 12) (bad : ∀ v : Int32, v < 0 → ¬ (n < 12 ∧ (0 ≤ x.toInt ∧ x.toInt ≤ 999) ∧ (0 ≤ y.toInt ∧ y.toInt ≤ 999)) → K v H) (ok : n < 12 → ∀ a b : Nat, a ≤ 999 → b ≤ 999 → x = nI a → y = nI b → x.toInt = a → y.toInt = b → K (nI n) (pm_up (pm_up (pm_up H.1 3 n (nI a)) 4 n (nI b)) 2 0 (nI (n + 1)), H.2)) : pm_R (d + 1) M_PW_bar [.ref 0, .int x, .int y] H (pm_i K) := by
  refine m_PW_bar _ _ ?_
  by_cases hok : (0 ≤ x.toInt ∧ x.toInt ≤ 999) ∧ (0 ≤ y.toInt ∧ y.toInt ≤ 999)
  · obtain ⟨⟨p1, p2⟩, p3, p4⟩ := id hok
    obtain ⟨v, _, rfl, ev⟩ := nI_tI x p1
    obtain ⟨s, _, rfl, es⟩ := nI_tI y p3
    have v0 : ¬ nI v < (0 : Int32) := nI_pos (by omega)
    have v1 : nI v ≤ (999 : Int32) := nI_le (show v ≤ 999 by omega) (by decide)
    have v2 : ¬ lg_cmp (nI v).toInt64 (0 : Int64) < 0 := l_0 (by omega)
    have v3 : ¬ 0 < lg_cmp (nI v).toInt64 (999 : Int64) := l_c (by omega) (by show (v : Int) ≤ 999; omega)
    have v4 : (nI v).toNatClampNeg = v := nIc (by omega)
    have s0 : ¬ nI s < (0 : Int32) := nI_pos (by omega)
    have s1 : nI s ≤ (999 : Int32) := nI_le (show s ≤ 999 by omega) (by decide)
    have s2 : ¬ lg_cmp (nI s).toInt64 (0 : Int64) < 0 := l_0 (by omega)
    have s3 : ¬ 0 < lg_cmp (nI s).toInt64 (999 : Int64) := l_c (by omega) (by show (s : Int) ≤ 999; omega)
    have s4 : (nI s).toNatClampNeg = s := nIc (by omega)
    repeat (first | with_reducible refine bt v0 ?_ | with_reducible refine bf v0 ?_ | with_reducible refine nt v0 ?_ | with_reducible refine nf v0 ?_ | with_reducible refine And.intro v0 ?_ | with_reducible refine bt v1 ?_ | with_reducible refine bf v1 ?_ | with_reducible refine nt v1 ?_ | with_reducible refine nf v1 ?_ | with_reducible refine And.intro v1 ?_ | with_reducible refine bt s0 ?_ | with_reducible refine bf s0 ?_ | with_reducible refine nt s0 ?_ | with_reducible refine nf s0 ?_ | with_reducible refine And.intro s0 ?_ | with_reducible refine bt s1 ?_ | with_reducible refine bf s1 ?_ | with_reducible refine nt s1 ?_ | with_reducible refine nf s1 ?_ | with_reducible refine And.intro s1 ?_)
    refine m_Ha_add _ _ ?_
    rw [hn]
    by_cases cf : n < 12
    · have z1 : nI n < (12 : Int32) := nI_lt cf (by decide)
      rw [nIc (show n < 2 ^ 31 by omega), nI_1 n]
      repeat (first | with_reducible refine bt z1 ?_ | with_reducible refine bf z1 ?_ | with_reducible refine nt z1 ?_ | with_reducible refine nf z1 ?_ | with_reducible refine And.intro z1 ?_)
      refine ⟨vp_in_nI cf (by decide), ?_⟩
      have e : nI (n + 1) - (1 : Int32) = nI n := i_s1 (t := n + 1) (by omega)
      rw [e]
      exact ok cf v s (by omega) (by omega) rfl rfl ev es
    · have z1 : ¬ nI n < (12 : Int32) := nI_nlt (a := n) (b := 12) (by omega) (by omega)
      repeat (first | with_reducible refine bt z1 ?_ | with_reducible refine bf z1 ?_ | with_reducible refine nt z1 ?_ | with_reducible refine nf z1 ?_ | with_reducible refine And.intro z1 ?_)
      exact bad _ (by decide) (fun z => cf z.1)
  · have b1 : K (-1) H := bad _ (by decide) (fun z => hok z.2)
    ((try (simp only [lgl, lgg, i2l_t, u32_0, u64_0, u32_1, u64_1, u32_2, u64_2, u32_3, u64_3, u32_4, u64_4, u32_5, u64_5, u32_7, u64_7, u32_12, u64_12, u32_24, u64_24, u32_30, u64_30, u32_49, u64_49, u32_60, u64_60, u32_99, u64_99, u32_255, u64_255, u32_999, u64_999, um1])); (try (simp only [t_lt, t_le, u32_0, u64_0, u32_1, u64_1, u32_2, u64_2, u32_3, u64_3, u32_4, u64_4, u32_5, u64_5, u32_7, u64_7, u32_12, u64_12, u32_24, u64_24, u32_30, u64_30, u32_49, u64_49, u32_60, u64_60, u32_99, u64_99, u32_255, u64_255, u32_999, u64_999, um1])); repeat' (first | with_reducible intro hh | with_reducible apply And.intro | exact vp_in_iff.mpr (by omega) | (exfalso; omega) | exact b1))
theorem lp_bsC {D d n len k c : Nat} {K : Int32 → pmT → Prop} {H0 : pmT} (hd : d < 6) (hn12 : n ≤ 12) (hc : c ≤ 12) (hl : H0.1 (43 + 2 * d) 2 = nI len) (hl60 : len ≤ 60) (hfit : ∀ j, j < len → (H0.2.1 (43 + 2 * d + 1) j).toInt = (H0.2.1 (43 + 2 * d + 1) j).toInt32.toInt) : ∀ (m q : Nat) (H : pmT), q + m = c → k + 2 * q < 2 ^ 31 → n + q ≤ 12 → AddC n q (W_bg k (H0.2.1 (43 + 2 * d + 1))) H0 H → (∀ H', AddC n (W_bs n len k (H0.2.1 (43 + 2 * d + 1)) m q) (W_bg k (H0.2.1 (43 + 2 * d + 1))) H0 H' → K (nI (W_bs n len k (H0.2.1 (43 + 2 * d + 1)) m q)) H') → pm_RW none (D + 2) M_PW_bars (pm_i K) 55 [(0, .ref 0), (3, .int (nI c)), (4, .ref (43 + 2 * d)), (5, .int (nI q)), (6, .int (nI (k + 2 * q)))] [] H
  | 0, q, H, hq, hk, hnq, hA, kk => by
    refine b_PW_bars_55 _ _ _ _ (pm_s0 hd) ?_
    first | refine bt (nI_le (show c ≤ q by omega) (by omega)) ?_ | refine bf (nI_le (show c ≤ q by omega) (by omega)) ?_ | refine nt (nI_le (show c ≤ q by omega) (by omega)) ?_ | refine nf (nI_le (show c ≤ q by omega) (by omega)) ?_
    exact kk H hA
  | m + 1, q, H, hq, hk, hnq, hA, kk => by
    have ih := lp_bsC (D := D) (k := k) (K := K) hd hn12 hc hl hl60 hfit m (q + 1)
    refine b_PW_bars_55 _ _ _ _ (pm_s0 hd) ?_
    have hl1 : H.1 (43 + 2 * d) 2 = nI len := (hA.1.1 _ _ (sh_nin rfl hd (by decide))).trans hl
    have hg1 : H.2 = H0.2 := hA.1.2
    rw [hl1]
    unfold W_bs at kk
    first | refine bt (nI_ge (show q < c by omega) (by omega)) ?_ | refine bf (nI_ge (show q < c by omega) (by omega)) ?_ | refine nt (nI_ge (show q < c by omega) (by omega)) ?_ | refine nf (nI_ge (show q < c by omega) (by omega)) ?_
    first | refine bt (nI_pos (show k + 2 * q < 2 ^ 31 by omega)) ?_ | refine bf (nI_pos (show k + 2 * q < 2 ^ 31 by omega)) ?_ | refine nt (nI_pos (show k + 2 * q < 2 ^ 31 by omega)) ?_ | refine nf (nI_pos (show k + 2 * q < 2 ^ 31 by omega)) ?_
    have e1 : (nI len - (1 : Int32) ≤ nI (k + 2 * q)) = (len ≤ k + 2 * q + 1) := by
      rw [t_le, nm1_t (by omega), nI_toInt (by omega)]
      apply propext
      omega
    rw [e1]
    by_cases c1 : k + 2 * q + 1 < len
    · first | refine bt (show ¬ len ≤ k + 2 * q + 1 by omega) ?_ | refine bf (show ¬ len ≤ k + 2 * q + 1 by omega) ?_ | refine nt (show ¬ len ≤ k + 2 * q + 1 by omega) ?_ | refine nf (show ¬ len ≤ k + 2 * q + 1 by omega) ?_
      refine c_at (pm_s0 hd) (pm_s1' hd) hl1 hl60 (show k + 2 * q < len by omega) ?_
      rw [nI_1 (k + 2 * q), show nI (k + 2 * q) + (2 : Int32) = nI (k + 2 * (q + 1)) from (nI_add (k + 2 * q) 2).trans (congrArg nI (by omega))]
      refine c_at (pm_s0 hd) (pm_s1' hd) hl1 hl60 (show k + 2 * q + 1 < len by omega) ?_
      rw [hg1]
      have f1 := hfit (k + 2 * q) (by omega)
      have f2 := hfit (k + 2 * q + 1) c1
      refine c_PWbar _ _ hA.2.1 hnq (fun v hv hbad => ?_) (fun cf a b ha hb ea eb ea' eb' => ?_)
      · first | refine bt (show ¬ (0 : Int32) ≤ v from fun z => by rw [t_lt] at hv; rw [t_le] at z; have : (0 : Int32).toInt = 0 := rfl; omega) ?_ | refine bf (show ¬ (0 : Int32) ≤ v from fun z => by rw [t_lt] at hv; rw [t_le] at z; have : (0 : Int32).toInt = 0 := rfl; omega) ?_ | refine nt (show ¬ (0 : Int32) ≤ v from fun z => by rw [t_lt] at hv; rw [t_le] at z; have : (0 : Int32).toInt = 0 := rfl; omega) ?_ | refine nf (show ¬ (0 : Int32) ≤ v from fun z => by rw [t_lt] at hv; rw [t_le] at z; have : (0 : Int32).toInt = 0 := rfl; omega) ?_
        rw [← f1, ← f2] at hbad
        rw [if_neg (fun z => hbad ⟨z.1.2, z.2.1, z.2.2⟩)] at kk
        exact kk H hA
      · first | refine bt (show (0 : Int32) ≤ nI (n + q) from nI_pos' (by omega)) ?_ | refine bf (show (0 : Int32) ≤ nI (n + q) from nI_pos' (by omega)) ?_ | refine nt (show (0 : Int32) ≤ nI (n + q) from nI_pos' (by omega)) ?_ | refine nf (show (0 : Int32) ≤ nI (n + q) from nI_pos' (by omega)) ?_
        rw [← f1] at ea'
        rw [← f2] at eb'
        rw [if_pos ⟨⟨c1, cf⟩, ⟨by omega, by omega⟩, ⟨by omega, by omega⟩⟩] at kk
        rw [nI_1 q]
        refine ih _ (by omega) (by omega) (by omega) (hA.s (N := n + q) rfl ?_) kk
        unfold W_bg
        rw [ea', eb']
        rfl
    · first | refine bt (show len ≤ k + 2 * q + 1 by omega) ?_ | refine bf (show len ≤ k + 2 * q + 1 by omega) ?_ | refine nt (show len ≤ k + 2 * q + 1 by omega) ?_ | refine nf (show len ≤ k + 2 * q + 1 by omega) ?_
      rw [if_neg (fun z => c1 z.1.1)] at kk
      exact kk H hA
theorem lp_bsM {D d n len k c : Nat} {g : Nat → Int64} {K : Int32 → pmT → Prop} {H0 : pmT} (hd : d < 6) (hn12 : n ≤ 12) (hc : c ≤ 12) (hl : H0.1 82 d = nI len) (hl60 : len ≤ 60) (hk31 : k < 2 ^ 31) (hg : ∀ j, j < len → H0.2.1 83 (60 * d + j) = g j) (hfit : ∀ j, j < len → (g j).toInt = (g j).toInt32.toInt) : ∀ (m q : Nat) (H : pmT), q + m = c → n + q ≤ 12 → AddM n q (W_bg k g) H0 H → (∀ H', AddM n (W_bs n len k g m q) (W_bg k g) H0 H' → K (nI (W_bs n len k g m q)) H') → pm_RW none (D + 2) M_Mo_bars (pm_i K) 69 [(0, .ref 55), (1, .int (nI d)), (2, .int (nI k)), (3, .int (nI c)), (4, .int (nI q)), (5, .int (1 : Int32))] [] H
  | 0, q, H, hq, hnq, hA, kk => by
    refine b_Mo_bars_69 _ _ _ _ _ ?_
    first | refine bt (show ¬ (1 : Int32) = 0 by decide) ?_ | refine bf (show ¬ (1 : Int32) = 0 by decide) ?_ | refine nt (show ¬ (1 : Int32) = 0 by decide) ?_ | refine nf (show ¬ (1 : Int32) = 0 by decide) ?_
    first | refine bt (nI_le (show c ≤ q by omega) (by omega)) ?_ | refine bf (nI_le (show c ≤ q by omega) (by omega)) ?_ | refine nt (nI_le (show c ≤ q by omega) (by omega)) ?_ | refine nf (nI_le (show c ≤ q by omega) (by omega)) ?_
    exact kk H hA
  | m + 1, q, H, hq, hnq, hA, kk => by
    have ih := lp_bsM (D := D) (k := k) (g := g) (K := K) hd hn12 hc hl hl60 hk31 hg hfit m (q + 1)
    refine b_Mo_bars_69 _ _ _ _ _ ?_
    have hl1 : H.1 82 d = nI len := (hA.1.1 82 d rfl).trans hl
    have hg1 : H.2 = H0.2 := hA.1.2
    have stop : ∀ (hs : W_bs n len k g (m + 1) q = q), pm_RW none (D + 2) M_Mo_bars (pm_i K) 69 [(0, .ref 55), (1, .int (nI d)), (2, .int (nI k)), (3, .int (nI c)), (4, .int (nI q)), (5, .int (0 : Int32))] [] H := fun hs => by
      refine b_Mo_bars_69 _ _ _ _ _ ?_
      first | refine bt (show (0 : Int32) = 0 from rfl) ?_ | refine bf (show (0 : Int32) = 0 from rfl) ?_ | refine nt (show (0 : Int32) = 0 from rfl) ?_ | refine nf (show (0 : Int32) = 0 from rfl) ?_
      rw [hs] at kk
      exact kk H hA
    rw [hA.2.1, nIc (show d < 2 ^ 31 by omega), hl1]
    unfold W_bs at kk stop
    first | refine bt (show ¬ (1 : Int32) = 0 by decide) ?_ | refine bf (show ¬ (1 : Int32) = 0 by decide) ?_ | refine nt (show ¬ (1 : Int32) = 0 by decide) ?_ | refine nf (show ¬ (1 : Int32) = 0 by decide) ?_
    first | refine bt (nI_ge (show q < c by omega) (by omega)) ?_ | refine bf (nI_ge (show q < c by omega) (by omega)) ?_ | refine nt (nI_ge (show q < c by omega) (by omega)) ?_ | refine nf (nI_ge (show q < c by omega) (by omega)) ?_
    refine ⟨vp_in_nI hd (by decide), ?_⟩
    have e1 : (nI len - (2 : Int32) - (2 : Int32) * nI q < nI k) = (len < k + 2 * q + 2) := by
      have e2 : (2 : Int32).toInt = 2 := rfl
      have e3 := nI_toInt (n := len) (by omega)
      have e4 := nI_toInt (n := 2 * q) (by omega)
      have s1 := sub32 (nI len) 2 (by omega) (by omega)
      rw [t_lt, nI_2 q, nI_toInt (n := k) hk31, sub32 _ _ (by omega) (by omega), s1, e3, e4, e2]
      apply propext
      omega
    rw [e1]
    by_cases c1 : k + 2 * q + 1 < len
    · first | refine bt (show ¬ len < k + 2 * q + 2 by omega) ?_ | refine bf (show ¬ len < k + 2 * q + 2 by omega) ?_ | refine nt (show ¬ len < k + 2 * q + 2 by omega) ?_ | refine nf (show ¬ len < k + 2 * q + 2 by omega) ?_
      have e12 : ((12 : Int32) ≤ nI (n + q)) = (12 ≤ n + q) := i_le 12 (n + q) (by decide) (by omega)
      rw [e12]
      by_cases cf : n + q < 12
      · first | refine bt (show ¬ 12 ≤ n + q by omega) ?_ | refine bf (show ¬ 12 ≤ n + q by omega) ?_ | refine nt (show ¬ 12 ≤ n + q by omega) ?_ | refine nf (show ¬ 12 ≤ n + q by omega) ?_
        have ei : (60 : Int32) * nI d + nI k + (2 : Int32) * nI q = nI (60 * d + (k + 2 * q)) := by
          rw [nI_2 q, show (60 : Int32) = nI 60 from rfl, pk_mul, nI_add, nI_add]
          congr 1
          omega
        rw [ei, nI_1 (60 * d + (k + 2 * q)), nIc (show 60 * d + (k + 2 * q) < 2 ^ 31 by omega), nIc (show 60 * d + (k + 2 * q) + 1 < 2 ^ 31 by omega), hg1, show 60 * d + (k + 2 * q) + 1 = 60 * d + (k + 2 * q + 1) by omega, hg (k + 2 * q) (by omega), hg (k + 2 * q + 1) c1]
        refine ⟨vp_in_nI (by omega) (by decide), vp_in_nI (by omega) (by decide), ?_⟩
        have f1 := hfit (k + 2 * q) (by omega)
        have f2 := hfit (k + 2 * q + 1) c1
        rw [lgl, lgg, lgl, lgg, show (0 : Int64).toInt = 0 from rfl, u64_999]
        by_cases c2 : (0 ≤ (g (k + 2 * q)).toInt ∧ (g (k + 2 * q)).toInt ≤ 999) ∧ (0 ≤ (g (k + 2 * q + 1)).toInt ∧ (g (k + 2 * q + 1)).toInt ≤ 999)
        · first | refine bt (show ¬ (g (k + 2 * q)).toInt < 0 by omega) ?_ | refine bf (show ¬ (g (k + 2 * q)).toInt < 0 by omega) ?_ | refine nt (show ¬ (g (k + 2 * q)).toInt < 0 by omega) ?_ | refine nf (show ¬ (g (k + 2 * q)).toInt < 0 by omega) ?_
          first | refine bt (show ¬ 999 < (g (k + 2 * q)).toInt by omega) ?_ | refine bf (show ¬ 999 < (g (k + 2 * q)).toInt by omega) ?_ | refine nt (show ¬ 999 < (g (k + 2 * q)).toInt by omega) ?_ | refine nf (show ¬ 999 < (g (k + 2 * q)).toInt by omega) ?_
          first | refine bt (show ¬ (g (k + 2 * q + 1)).toInt < 0 by omega) ?_ | refine bf (show ¬ (g (k + 2 * q + 1)).toInt < 0 by omega) ?_ | refine nt (show ¬ (g (k + 2 * q + 1)).toInt < 0 by omega) ?_ | refine nf (show ¬ (g (k + 2 * q + 1)).toInt < 0 by omega) ?_
          first | refine bt (show ¬ 999 < (g (k + 2 * q + 1)).toInt by omega) ?_ | refine bf (show ¬ 999 < (g (k + 2 * q + 1)).toInt by omega) ?_ | refine nt (show ¬ 999 < (g (k + 2 * q + 1)).toInt by omega) ?_ | refine nf (show ¬ 999 < (g (k + 2 * q + 1)).toInt by omega) ?_
          rw [if_pos ⟨⟨c1, cf⟩, c2⟩] at kk
          rw [f1, f2] at c2
          obtain ⟨a, _, ea, ea'⟩ := nI_tI _ c2.1.1
          obtain ⟨b, _, eb, eb'⟩ := nI_tI _ c2.2.1
          rw [← f1] at ea'
          rw [← f2] at eb'
          rw [ea, eb, nI12, show (24 : Int32) + nI (n + q) = nI (24 + (n + q)) from nI_pl 24, nIc (show n + q < 2 ^ 31 by omega), nIc (show 12 + (n + q) < 2 ^ 31 by omega), nIc (show 24 + (n + q) < 2 ^ 31 by omega), nI_1 (n + q), nI_1 q, ← hg1]
          refine ⟨vp_in_nI (by omega) (by decide), vp_in_nI (by omega) (by decide), vp_in_nI (by omega) (by decide), vp_in_nI (by omega) (by decide), ?_⟩
          refine ih _ (by omega) (by omega) (hA.s (N := n + q) rfl cf ?_) kk
          unfold W_bg
          rw [ea', eb']
          rfl
        · have st := stop (if_neg (fun z => c2 z.2))
          by_cases d1 : (g (k + 2 * q)).toInt < 0
          · first | refine bt d1 ?_ | refine bf d1 ?_ | refine nt d1 ?_ | refine nf d1 ?_
            exact st
          · first | refine bt d1 ?_ | refine bf d1 ?_ | refine nt d1 ?_ | refine nf d1 ?_
            by_cases d2 : 999 < (g (k + 2 * q)).toInt
            · first | refine bt d2 ?_ | refine bf d2 ?_ | refine nt d2 ?_ | refine nf d2 ?_
              exact st
            · first | refine bt d2 ?_ | refine bf d2 ?_ | refine nt d2 ?_ | refine nf d2 ?_
              by_cases d3 : (g (k + 2 * q + 1)).toInt < 0
              · first | refine bt d3 ?_ | refine bf d3 ?_ | refine nt d3 ?_ | refine nf d3 ?_
                exact st
              · first | refine bt d3 ?_ | refine bf d3 ?_ | refine nt d3 ?_ | refine nf d3 ?_
                first | refine bt (show 999 < (g (k + 2 * q + 1)).toInt by omega) ?_ | refine bf (show 999 < (g (k + 2 * q + 1)).toInt by omega) ?_ | refine nt (show 999 < (g (k + 2 * q + 1)).toInt by omega) ?_ | refine nf (show 999 < (g (k + 2 * q + 1)).toInt by omega) ?_
                exact st
      · first | refine bt (show 12 ≤ n + q by omega) ?_ | refine bf (show 12 ≤ n + q by omega) ?_ | refine nt (show 12 ≤ n + q by omega) ?_ | refine nf (show 12 ≤ n + q by omega) ?_
        exact stop (if_neg (fun z => cf z.1.2))
    · first | refine bt (show len < k + 2 * q + 2 by omega) ?_ | refine bf (show len < k + 2 * q + 2 by omega) ?_ | refine nt (show len < k + 2 * q + 2 by omega) ?_ | refine nf (show len < k + 2 * q + 2 by omega) ?_
      exact stop (if_neg (fun z => c1 z.1.1))
theorem p_bars {D t : Nat} {H : pmT} {K : Int32 → Int32 → pmT → Prop} (a1 a2 a3 : Int32) (hR : Rel t H) (ht : t ≤ 1000) (kk : ∀ x H', Rel (t + 1) H' → K x x H') : pm_R (D + 200) M_PW_bars [.ref 0, .int a1, .int a2, .int a3] H (pm_i fun x H1 => pm_R (D + 200) M_Mo_bars [.ref 55, .int a1, .int a2, .int a3] H1 (pm_i fun y H2 => K x y H2)) := by
  obtain ⟨hb, L, n, now, m, hN, hT, hD⟩ := id hR
  have hC := hN.cs ht
  have hM := hN.ms ht
  have hn12 := hC.2.2.1
  have hB := hT.2.2.2.1
  have hSh := hT.2.2.2.2.2.1
  have en : (nI n - (1 : Int32)).toInt = (n : Int) - 1 := nm1_t (by omega)
  have hR1 : Rel (t + 1) H := hR.mono (Nat.le_succ _)
  by_cases hok : (0 ≤ a1.toInt ∧ a1.toInt ≤ 5) ∧ (1 ≤ a3.toInt ∧ a3.toInt ≤ 12)
  · obtain ⟨⟨p1, p2⟩, p3, p4⟩ := hok
    obtain ⟨d, _, rfl, eb⟩ := nI_tI a1 p1
    obtain ⟨c, _, rfl, ec⟩ := nI_tI a3 (by omega)
    have hd : d < 6 := by omega
    have d0 : ¬ nI d < (0 : Int32) := nI_pos (by omega)
    have d1 : nI d ≤ (5 : Int32) := nI_le (show d ≤ 5 by omega) (by decide)
    have d2 : ¬ lg_cmp (nI d).toInt64 (0 : Int64) < 0 := l_0 (by omega)
    have d3 : ¬ 0 < lg_cmp (nI d).toInt64 (5 : Int64) := l_c (by omega) (by show (d : Int) ≤ 5; omega)
    have d4 : (nI d).toNatClampNeg = d := nIc (by omega)
    have c0 : ¬ nI c < (1 : Int32) := nI_nlt (a := c) (b := 1) (by omega) (by omega)
    have c1 : nI c ≤ (12 : Int32) := nI_le (show c ≤ 12 by omega) (by decide)
    have c2 : ¬ lg_cmp (nI c).toInt64 (1 : Int64) < 0 := by
      rw [lgl, i2l_t, nI_toInt (by omega), u64_1]; omega
    have c3 : ¬ 0 < lg_cmp (nI c).toInt64 (12 : Int64) := l_c (by omega) (by show (c : Int) ≤ 12; omega)
    have dv : vp_in (nI d) 6 := vp_in_nI hd (by decide)
    have n0 : ¬ (0 : Int32) ≤ -1 := by decide
    rcases hSh d hd with ⟨h1, h2, h3⟩ | ⟨w, hw, h1, h2, h3⟩ | ⟨so, len, hso, hlen, h1, h2, h3, h4, h5, h6, h7⟩
    · refine m_PW_bars _ _ _ ?_
      rw [d4, h1, h2]
      have x1 : (-1 : Int32) = -1 := rfl
      repeat (first | with_reducible refine bt d0 ?_ | with_reducible refine bf d0 ?_ | with_reducible refine nt d0 ?_ | with_reducible refine nf d0 ?_ | with_reducible refine And.intro d0 ?_ | with_reducible refine bt d1 ?_ | with_reducible refine bf d1 ?_ | with_reducible refine nt d1 ?_ | with_reducible refine nf d1 ?_ | with_reducible refine And.intro d1 ?_ | with_reducible refine bt c0 ?_ | with_reducible refine bf c0 ?_ | with_reducible refine nt c0 ?_ | with_reducible refine nf c0 ?_ | with_reducible refine And.intro c0 ?_ | with_reducible refine bt c1 ?_ | with_reducible refine bf c1 ?_ | with_reducible refine nt c1 ?_ | with_reducible refine nf c1 ?_ | with_reducible refine And.intro c1 ?_ | with_reducible refine bt dv ?_ | with_reducible refine bf dv ?_ | with_reducible refine nt dv ?_ | with_reducible refine nf dv ?_ | with_reducible refine And.intro dv ?_ | with_reducible refine bt n0 ?_ | with_reducible refine bf n0 ?_ | with_reducible refine nt n0 ?_ | with_reducible refine nf n0 ?_ | with_reducible refine And.intro n0 ?_ | with_reducible refine bt x1 ?_ | with_reducible refine bf x1 ?_ | with_reducible refine nt x1 ?_ | with_reducible refine nf x1 ?_ | with_reducible refine And.intro x1 ?_)
      refine m_Mo_bars _ _ _ ?_
      rw [d4, h3]
      have y0 : (-1 : Int32) < 0 := by decide
      have y1 : ¬ (-1 : Int32) = 51 := by decide
      repeat (first | with_reducible refine bt d2 ?_ | with_reducible refine bf d2 ?_ | with_reducible refine nt d2 ?_ | with_reducible refine nf d2 ?_ | with_reducible refine And.intro d2 ?_ | with_reducible refine bt d3 ?_ | with_reducible refine bf d3 ?_ | with_reducible refine nt d3 ?_ | with_reducible refine nf d3 ?_ | with_reducible refine And.intro d3 ?_ | with_reducible refine bt c2 ?_ | with_reducible refine bf c2 ?_ | with_reducible refine nt c2 ?_ | with_reducible refine nf c2 ?_ | with_reducible refine And.intro c2 ?_ | with_reducible refine bt c3 ?_ | with_reducible refine bf c3 ?_ | with_reducible refine nt c3 ?_ | with_reducible refine nf c3 ?_ | with_reducible refine And.intro c3 ?_ | with_reducible refine bt dv ?_ | with_reducible refine bf dv ?_ | with_reducible refine nt dv ?_ | with_reducible refine nf dv ?_ | with_reducible refine And.intro dv ?_ | with_reducible refine bt y0 ?_ | with_reducible refine bf y0 ?_ | with_reducible refine nt y0 ?_ | with_reducible refine nf y0 ?_ | with_reducible refine And.intro y0 ?_ | with_reducible refine bt y1 ?_ | with_reducible refine bf y1 ?_ | with_reducible refine nt y1 ?_ | with_reducible refine nf y1 ?_ | with_reducible refine And.intro y1 ?_)
      refine b_Mo_bars_69 _ _ _ _ _ ?_
      first | refine bt (show (0 : Int32) = 0 from rfl) ?_ | refine bf (show (0 : Int32) = 0 from rfl) ?_ | refine nt (show (0 : Int32) = 0 from rfl) ?_ | refine nf (show (0 : Int32) = 0 from rfl) ?_
      exact kk _ _ hR1
    · have hm50 := hB.1
      refine m_PW_bars _ _ _ ?_
      rw [d4, h1, h2]
      have x0 : (0 : Int32) ≤ nI w := nI_pos' (by omega)
      have x1 : (-1 : Int32) = -1 := rfl
      repeat (first | with_reducible refine bt d0 ?_ | with_reducible refine bf d0 ?_ | with_reducible refine nt d0 ?_ | with_reducible refine nf d0 ?_ | with_reducible refine And.intro d0 ?_ | with_reducible refine bt d1 ?_ | with_reducible refine bf d1 ?_ | with_reducible refine nt d1 ?_ | with_reducible refine nf d1 ?_ | with_reducible refine And.intro d1 ?_ | with_reducible refine bt c0 ?_ | with_reducible refine bf c0 ?_ | with_reducible refine nt c0 ?_ | with_reducible refine nf c0 ?_ | with_reducible refine And.intro c0 ?_ | with_reducible refine bt c1 ?_ | with_reducible refine bf c1 ?_ | with_reducible refine nt c1 ?_ | with_reducible refine nf c1 ?_ | with_reducible refine And.intro c1 ?_ | with_reducible refine bt dv ?_ | with_reducible refine bf dv ?_ | with_reducible refine nt dv ?_ | with_reducible refine nf dv ?_ | with_reducible refine And.intro dv ?_ | with_reducible refine bt x0 ?_ | with_reducible refine bf x0 ?_ | with_reducible refine nt x0 ?_ | with_reducible refine nf x0 ?_ | with_reducible refine And.intro x0 ?_ | with_reducible refine bt x1 ?_ | with_reducible refine bf x1 ?_ | with_reducible refine nt x1 ?_ | with_reducible refine nf x1 ?_ | with_reducible refine And.intro x1 ?_)
      refine m_Mo_bars _ _ _ ?_
      rw [d4, h3]
      have y0 : ¬ nI w < 0 := nI_pos (by omega)
      have y1 : ¬ nI w = (51 : Int32) := fun z => by
        have := (show (nI w = (51 : Int32)) = (w = 51) from i_eq w 51 (by omega) (by decide)).mp z
        omega
      repeat (first | with_reducible refine bt d2 ?_ | with_reducible refine bf d2 ?_ | with_reducible refine nt d2 ?_ | with_reducible refine nf d2 ?_ | with_reducible refine And.intro d2 ?_ | with_reducible refine bt d3 ?_ | with_reducible refine bf d3 ?_ | with_reducible refine nt d3 ?_ | with_reducible refine nf d3 ?_ | with_reducible refine And.intro d3 ?_ | with_reducible refine bt c2 ?_ | with_reducible refine bf c2 ?_ | with_reducible refine nt c2 ?_ | with_reducible refine nf c2 ?_ | with_reducible refine And.intro c2 ?_ | with_reducible refine bt c3 ?_ | with_reducible refine bf c3 ?_ | with_reducible refine nt c3 ?_ | with_reducible refine nf c3 ?_ | with_reducible refine And.intro c3 ?_ | with_reducible refine bt dv ?_ | with_reducible refine bf dv ?_ | with_reducible refine nt dv ?_ | with_reducible refine nf dv ?_ | with_reducible refine And.intro dv ?_ | with_reducible refine bt y0 ?_ | with_reducible refine bf y0 ?_ | with_reducible refine nt y0 ?_ | with_reducible refine nf y0 ?_ | with_reducible refine And.intro y0 ?_ | with_reducible refine bt y1 ?_ | with_reducible refine bf y1 ?_ | with_reducible refine nt y1 ?_ | with_reducible refine nf y1 ?_ | with_reducible refine And.intro y1 ?_)
      exact kk _ _ hR1
    · have e51 : (nI (50 + so) = (51 : Int32)) = (50 + so = 51) := i_eq (50 + so) 51 (by omega) (by decide)
      have e1 : (nI so = (1 : Int32)) = (so = 1) := i_eq so 1 (by omega) (by decide)
      have x1 : ¬ nI so = (-1 : Int32) := nI_nn (by omega) (by decide)
      have y0 : ¬ nI (50 + so) < 0 := nI_pos (by omega)
      by_cases s1 : so = 1
      · have x2 : nI so = (1 : Int32) := e1.mpr s1
        have y1 : nI (50 + so) = (51 : Int32) := e51.mpr (by omega)
        refine m_PW_bars _ _ _ ?_
        rw [d4, h1, h2]
        repeat (first | with_reducible refine bt d0 ?_ | with_reducible refine bf d0 ?_ | with_reducible refine nt d0 ?_ | with_reducible refine nf d0 ?_ | with_reducible refine And.intro d0 ?_ | with_reducible refine bt d1 ?_ | with_reducible refine bf d1 ?_ | with_reducible refine nt d1 ?_ | with_reducible refine nf d1 ?_ | with_reducible refine And.intro d1 ?_ | with_reducible refine bt c0 ?_ | with_reducible refine bf c0 ?_ | with_reducible refine nt c0 ?_ | with_reducible refine nf c0 ?_ | with_reducible refine And.intro c0 ?_ | with_reducible refine bt c1 ?_ | with_reducible refine bf c1 ?_ | with_reducible refine nt c1 ?_ | with_reducible refine nf c1 ?_ | with_reducible refine And.intro c1 ?_ | with_reducible refine bt dv ?_ | with_reducible refine bf dv ?_ | with_reducible refine nt dv ?_ | with_reducible refine nf dv ?_ | with_reducible refine And.intro dv ?_ | with_reducible refine bt n0 ?_ | with_reducible refine bf n0 ?_ | with_reducible refine nt n0 ?_ | with_reducible refine nf n0 ?_ | with_reducible refine And.intro n0 ?_ | with_reducible refine bt x1 ?_ | with_reducible refine bf x1 ?_ | with_reducible refine nt x1 ?_ | with_reducible refine nf x1 ?_ | with_reducible refine And.intro x1 ?_ | with_reducible refine bt x2 ?_ | with_reducible refine bf x2 ?_ | with_reducible refine nt x2 ?_ | with_reducible refine nf x2 ?_ | with_reducible refine And.intro x2 ?_)
        by_cases neg : a2 < 0
        · refine b_PW_bars_55 _ _ _ _ (pm_s0 hd) ?_
          first | refine bt (show ¬ nI c ≤ (0 : Int32) from nI_ge (a := 0) (b := c) (by omega) (by omega)) ?_ | refine bf (show ¬ nI c ≤ (0 : Int32) from nI_ge (a := 0) (b := c) (by omega) (by omega)) ?_ | refine nt (show ¬ nI c ≤ (0 : Int32) from nI_ge (a := 0) (b := c) (by omega) (by omega)) ?_ | refine nf (show ¬ nI c ≤ (0 : Int32) from nI_ge (a := 0) (b := c) (by omega) (by omega)) ?_
          first | refine bt neg ?_ | refine bf neg ?_ | refine nt neg ?_ | refine nf neg ?_
          refine m_Mo_bars _ _ _ ?_
          rw [d4, h3]
          repeat (first | with_reducible refine bt d2 ?_ | with_reducible refine bf d2 ?_ | with_reducible refine nt d2 ?_ | with_reducible refine nf d2 ?_ | with_reducible refine And.intro d2 ?_ | with_reducible refine bt d3 ?_ | with_reducible refine bf d3 ?_ | with_reducible refine nt d3 ?_ | with_reducible refine nf d3 ?_ | with_reducible refine And.intro d3 ?_ | with_reducible refine bt c2 ?_ | with_reducible refine bf c2 ?_ | with_reducible refine nt c2 ?_ | with_reducible refine nf c2 ?_ | with_reducible refine And.intro c2 ?_ | with_reducible refine bt c3 ?_ | with_reducible refine bf c3 ?_ | with_reducible refine nt c3 ?_ | with_reducible refine nf c3 ?_ | with_reducible refine And.intro c3 ?_ | with_reducible refine bt dv ?_ | with_reducible refine bf dv ?_ | with_reducible refine nt dv ?_ | with_reducible refine nf dv ?_ | with_reducible refine And.intro dv ?_ | with_reducible refine bt y0 ?_ | with_reducible refine bf y0 ?_ | with_reducible refine nt y0 ?_ | with_reducible refine nf y0 ?_ | with_reducible refine And.intro y0 ?_ | with_reducible refine bt y1 ?_ | with_reducible refine bf y1 ?_ | with_reducible refine nt y1 ?_ | with_reducible refine nf y1 ?_ | with_reducible refine And.intro y1 ?_ | with_reducible refine bt neg ?_ | with_reducible refine bf neg ?_ | with_reducible refine nt neg ?_ | with_reducible refine nf neg ?_ | with_reducible refine And.intro neg ?_)
          refine b_Mo_bars_69 _ _ _ _ _ ?_
          first | refine bt (show (0 : Int32) = 0 from rfl) ?_ | refine bf (show (0 : Int32) = 0 from rfl) ?_ | refine nt (show (0 : Int32) = 0 from rfl) ?_ | refine nf (show (0 : Int32) = 0 from rfl) ?_
          exact kk _ _ hR1
        · have neg' : 0 ≤ a2.toInt := by
            rw [t_lt] at neg
            have : (0 : Int32).toInt = 0 := rfl
            omega
          obtain ⟨k, hk31, rfl, ek⟩ := nI_tI a2 neg'
          have hfit : ∀ j, j < len → (H.2.1 (43 + 2 * d + 1) j).toInt = (H.2.1 (43 + 2 * d + 1) j).toInt32.toInt := fun j hj => by
            rw [h6 j hj]
            exact h7 (by omega) j hj
          obtain ⟨o1, o2⟩ := W_bs_ok (len := len) (k := k) (g := H.2.1 (43 + 2 * d + 1)) c 0 (show n + 0 ≤ 12 by omega)
          refine lp_bsC (D := D + 198) (k := k) hd hn12 (show c ≤ 12 by omega) h4 hlen hfit c 0 H (by omega) (by omega) (by omega) (AddC.z hC.2.1) (fun Hc hA => ?_)
          have hsh : ∀ S : List Nat, nin S [8100, 8200] = true → ∀ H', fr S H H' → H'.1 81 d = H.1 81 d ∧ H'.1 82 d = H.1 82 d := fun S hS H' f => ⟨f.1 81 d (nin_of hS (c := 8100) (by decide)), f.1 82 d (nin_of hS (c := 8200) (by decide))⟩
          obtain ⟨g1, g2⟩ := hsh _ rfl Hc hA.1
          refine m_Mo_bars _ _ _ ?_
          rw [d4, g1, h3]
          repeat (first | with_reducible refine bt d2 ?_ | with_reducible refine bf d2 ?_ | with_reducible refine nt d2 ?_ | with_reducible refine nf d2 ?_ | with_reducible refine And.intro d2 ?_ | with_reducible refine bt d3 ?_ | with_reducible refine bf d3 ?_ | with_reducible refine nt d3 ?_ | with_reducible refine nf d3 ?_ | with_reducible refine And.intro d3 ?_ | with_reducible refine bt c2 ?_ | with_reducible refine bf c2 ?_ | with_reducible refine nt c2 ?_ | with_reducible refine nf c2 ?_ | with_reducible refine And.intro c2 ?_ | with_reducible refine bt c3 ?_ | with_reducible refine bf c3 ?_ | with_reducible refine nt c3 ?_ | with_reducible refine nf c3 ?_ | with_reducible refine And.intro c3 ?_ | with_reducible refine bt dv ?_ | with_reducible refine bf dv ?_ | with_reducible refine nt dv ?_ | with_reducible refine nf dv ?_ | with_reducible refine And.intro dv ?_ | with_reducible refine bt y0 ?_ | with_reducible refine bf y0 ?_ | with_reducible refine nt y0 ?_ | with_reducible refine nf y0 ?_ | with_reducible refine And.intro y0 ?_ | with_reducible refine bt y1 ?_ | with_reducible refine bf y1 ?_ | with_reducible refine nt y1 ?_ | with_reducible refine nf y1 ?_ | with_reducible refine And.intro y1 ?_ | with_reducible refine bt neg ?_ | with_reducible refine bf neg ?_ | with_reducible refine nt neg ?_ | with_reducible refine nf neg ?_ | with_reducible refine And.intro neg ?_)
          refine lp_bsM (D := D + 198) (k := k) (g := H.2.1 (43 + 2 * d + 1)) hd hn12 (show c ≤ 12 by omega) (g2.trans h5) hlen hk31 (fun j hj => by rw [hA.1.2]; exact (h6 j hj).symm) hfit c 0 Hc (by omega) (by omega) (AddM.z ((hA.1.1 55 6 rfl).trans hM.2.1)) (fun Hm hB' => ?_)
          exact kk _ _ (Rel.adds hN hT hD o1 (fun j hj => o2 j (Nat.zero_le _) hj) hA hB')
      · have x2 : ¬ nI so = (1 : Int32) := fun z => s1 (e1.mp z)
        have y1 : ¬ nI (50 + so) = (51 : Int32) := fun z => by have := e51.mp z; omega
        refine m_PW_bars _ _ _ ?_
        rw [d4, h1, h2]
        repeat (first | with_reducible refine bt d0 ?_ | with_reducible refine bf d0 ?_ | with_reducible refine nt d0 ?_ | with_reducible refine nf d0 ?_ | with_reducible refine And.intro d0 ?_ | with_reducible refine bt d1 ?_ | with_reducible refine bf d1 ?_ | with_reducible refine nt d1 ?_ | with_reducible refine nf d1 ?_ | with_reducible refine And.intro d1 ?_ | with_reducible refine bt c0 ?_ | with_reducible refine bf c0 ?_ | with_reducible refine nt c0 ?_ | with_reducible refine nf c0 ?_ | with_reducible refine And.intro c0 ?_ | with_reducible refine bt c1 ?_ | with_reducible refine bf c1 ?_ | with_reducible refine nt c1 ?_ | with_reducible refine nf c1 ?_ | with_reducible refine And.intro c1 ?_ | with_reducible refine bt dv ?_ | with_reducible refine bf dv ?_ | with_reducible refine nt dv ?_ | with_reducible refine nf dv ?_ | with_reducible refine And.intro dv ?_ | with_reducible refine bt n0 ?_ | with_reducible refine bf n0 ?_ | with_reducible refine nt n0 ?_ | with_reducible refine nf n0 ?_ | with_reducible refine And.intro n0 ?_ | with_reducible refine bt x1 ?_ | with_reducible refine bf x1 ?_ | with_reducible refine nt x1 ?_ | with_reducible refine nf x1 ?_ | with_reducible refine And.intro x1 ?_ | with_reducible refine bt x2 ?_ | with_reducible refine bf x2 ?_ | with_reducible refine nt x2 ?_ | with_reducible refine nf x2 ?_ | with_reducible refine And.intro x2 ?_)
        refine m_Mo_bars _ _ _ ?_
        rw [d4, h3]
        repeat (first | with_reducible refine bt d2 ?_ | with_reducible refine bf d2 ?_ | with_reducible refine nt d2 ?_ | with_reducible refine nf d2 ?_ | with_reducible refine And.intro d2 ?_ | with_reducible refine bt d3 ?_ | with_reducible refine bf d3 ?_ | with_reducible refine nt d3 ?_ | with_reducible refine nf d3 ?_ | with_reducible refine And.intro d3 ?_ | with_reducible refine bt c2 ?_ | with_reducible refine bf c2 ?_ | with_reducible refine nt c2 ?_ | with_reducible refine nf c2 ?_ | with_reducible refine And.intro c2 ?_ | with_reducible refine bt c3 ?_ | with_reducible refine bf c3 ?_ | with_reducible refine nt c3 ?_ | with_reducible refine nf c3 ?_ | with_reducible refine And.intro c3 ?_ | with_reducible refine bt dv ?_ | with_reducible refine bf dv ?_ | with_reducible refine nt dv ?_ | with_reducible refine nf dv ?_ | with_reducible refine And.intro dv ?_ | with_reducible refine bt y0 ?_ | with_reducible refine bf y0 ?_ | with_reducible refine nt y0 ?_ | with_reducible refine nf y0 ?_ | with_reducible refine And.intro y0 ?_ | with_reducible refine bt y1 ?_ | with_reducible refine bf y1 ?_ | with_reducible refine nt y1 ?_ | with_reducible refine nf y1 ?_ | with_reducible refine And.intro y1 ?_)
        exact kk _ _ hR1
  · have hm : pm_R (D + 200) M_Mo_bars [.ref 55, .int a1, .int a2, .int a3] H (pm_i fun y H2 => K (-1) y H2) := by
      refine m_Mo_bars _ _ _ ?_
      try rw [hM.2.1]
      ((try (simp only [lgl, lgg, i2l_t, u32_0, u64_0, u32_1, u64_1, u32_2, u64_2, u32_3, u64_3, u32_4, u64_4, u32_5, u64_5, u32_7, u64_7, u32_12, u64_12, u32_24, u64_24, u32_30, u64_30, u32_49, u64_49, u32_60, u64_60, u32_99, u64_99, u32_255, u64_255, u32_999, u64_999, en])); (try (simp only [t_lt, t_le, u32_0, u64_0, u32_1, u64_1, u32_2, u64_2, u32_3, u64_3, u32_4, u64_4, u32_5, u64_5, u32_7, u64_7, u32_12, u64_12, u32_24, u64_24, u32_30, u64_30, u32_49, u64_49, u32_60, u64_60, u32_99, u64_99, u32_255, u64_255, u32_999, u64_999, en])); repeat' (first | with_reducible intro hh | with_reducible apply And.intro | exact vp_in_iff.mpr (by omega) | (exfalso; omega) | exact kk _ _ hR1))
    refine m_PW_bars _ _ _ ?_
    try rw [hC.2.1]
    ((try (simp only [lgl, lgg, i2l_t, u32_0, u64_0, u32_1, u64_1, u32_2, u64_2, u32_3, u64_3, u32_4, u64_4, u32_5, u64_5, u32_7, u64_7, u32_12, u64_12, u32_24, u64_24, u32_30, u64_30, u32_49, u64_49, u32_60, u64_60, u32_99, u64_99, u32_255, u64_255, u32_999, u64_999, en])); (try (simp only [t_lt, t_le, u32_0, u64_0, u32_1, u64_1, u32_2, u64_2, u32_3, u64_3, u32_4, u64_4, u32_5, u64_5, u32_7, u64_7, u32_12, u64_12, u32_24, u64_24, u32_30, u64_30, u32_49, u64_49, u32_60, u64_60, u32_99, u64_99, u32_255, u64_255, u32_999, u64_999, en])); repeat' (first | with_reducible intro hh | with_reducible apply And.intro | exact vp_in_iff.mpr (by omega) | (exfalso; omega) | exact hm))
