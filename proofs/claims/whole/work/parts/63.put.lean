/-! calls in pairs: rows on shelves, bodies taken -/
theorem subN {len : Nat} (x : Int32) (h : len ≤ 60) (hx : 0 ≤ x.toInt) : (nI len - x).toInt = (len : Int) - x.toInt := by
  rw [Int32.toInt_sub, nI_toInt (by omega)]
  have := Int32.toInt_lt x
  exact Int.bmod_eq_of_le (by omega) (by omega)
def W_ab (k : Nat) : Nat := ([0, 0, 0, 2, 1, 3, 0, 4] : List Nat).getD k 0
def W_dp (k : Nat) : Nat := ([0, 1, 1, 2, 2, 3, 1, 3] : List Nat).getD k 0
theorem W_ab_ok : ∀ k, k ≤ 7 → k ≠ 0 → W_ab k ≤ 7 ∧ W_dp (W_ab k) < W_dp k ∧ pm_AB k = nI (W_ab k) := by decide +kernel
def W_un (c : Nat) : Nat → Nat → Bool
  | 0, _ => false
  | f + 1, k => if k = c then true else if k = 0 then false else W_un c f (W_ab k)
theorem lp_under {d c : Nat} {H : pmT} {K : Int32 → pmT → Prop} (hc : c ≤ 7) : ∀ (f k i : Nat), i + f = 8 → W_dp k < f → k ≤ 7 → K (if W_un c f k = true then 1 else 0) H → pm_RW none (d + 1) M_Bo_isUnder (pm_i K) 4 [(1, .int (nI c)), (2, .int (nI k)), (3, .int (nI i))] [] H
  | 0, k, i, hi, hd, hk, kk => absurd hd (Nat.not_lt_zero _)
  | f + 1, k, i, hi, hd, hk, kk => by
    refine b_Bo_isUnder_4 _ _ _ ?_
    first | refine bt (nI_ge (a := i) (b := 8) (by omega) (by decide)) ?_ | refine bf (nI_ge (a := i) (b := 8) (by omega) (by decide)) ?_ | refine nt (nI_ge (a := i) (b := 8) (by omega) (by decide)) ?_ | refine nf (nI_ge (a := i) (b := 8) (by omega) (by decide)) ?_
    first | refine bt (nI_pos (show k < 2 ^ 31 by omega)) ?_ | refine bf (nI_pos (show k < 2 ^ 31 by omega)) ?_ | refine nt (nI_pos (show k < 2 ^ 31 by omega)) ?_ | refine nf (nI_pos (show k < 2 ^ 31 by omega)) ?_
    first | refine bt (nI_le (show k ≤ 7 from hk) (by decide)) ?_ | refine bf (nI_le (show k ≤ 7 from hk) (by decide)) ?_ | refine nt (nI_le (show k ≤ 7 from hk) (by decide)) ?_ | refine nf (nI_le (show k ≤ 7 from hk) (by decide)) ?_
    unfold W_un at kk
    rw [i_eq k c (by omega) (by omega)]
    by_cases e : k = c
    · first | refine bt e ?_ | refine bf e ?_ | refine nt e ?_ | refine nf e ?_
      rw [if_pos e] at kk
      exact kk
    · first | refine bt e ?_ | refine bf e ?_ | refine nt e ?_ | refine nf e ?_
      rw [if_neg e] at kk
      refine ⟨vp_in_nI (by omega) (by decide), ?_⟩
      rw [nIc (by omega), nI_1 i]
      by_cases z : k = 0
      · rw [if_pos z] at kk
        subst z
        refine b_Bo_isUnder_4 _ _ _ ?_
        by_cases c8 : (8 : Int32) ≤ nI (i + 1)
        · first | refine bt c8 ?_ | refine bf c8 ?_ | refine nt c8 ?_ | refine nf c8 ?_
          exact kk
        · first | refine bt c8 ?_ | refine bf c8 ?_ | refine nt c8 ?_ | refine nf c8 ?_
          first | refine bt (show pm_AB 0 < (0 : Int32) by decide) ?_ | refine bf (show pm_AB 0 < (0 : Int32) by decide) ?_ | refine nt (show pm_AB 0 < (0 : Int32) by decide) ?_ | refine nf (show pm_AB 0 < (0 : Int32) by decide) ?_
          exact kk
      · rw [if_neg z] at kk
        obtain ⟨q1, q2, q3⟩ := W_ab_ok k hk z
        rw [q3]
        exact lp_under hc f (W_ab k) (i + 1) (by omega) (by omega) q1 kk
theorem c_under {d c k : Nat} {H : pmT} {K : Int32 → pmT → Prop} (hc : c ≤ 7) (hk : k ≤ 7) (kk : K (if W_un c 8 k = true then 1 else 0) H) : pm_R (d + 1) M_Bo_isUnder [.int (nI k), .int (nI c)] H (pm_i K) := by
  refine m_Bo_isUnder _ _ ?_
  have hd : ∀ k, k ≤ 7 → W_dp k < 8 := by decide
  exact lp_under hc 8 k 0 (by omega) (hd k hk) hk kk
theorem c_under0 {d c : Nat} {H : pmT} {K : Int32 → pmT → Prop} (kk : K 0 H) : pm_R (d + 1) M_Bo_isUnder [.int (-1 : Int32), .int (nI c)] H (pm_i K) := by
  refine m_Bo_isUnder _ _ ?_
  refine b_Bo_isUnder_4 _ _ _ ?_
  first | refine bt (show ¬ (8 : Int32) ≤ 0 by decide) ?_ | refine bf (show ¬ (8 : Int32) ≤ 0 by decide) ?_ | refine nt (show ¬ (8 : Int32) ≤ 0 by decide) ?_ | refine nf (show ¬ (8 : Int32) ≤ 0 by decide) ?_
  first | refine bt (show (-1 : Int32) < (0 : Int32) by decide) ?_ | refine bf (show (-1 : Int32) < (0 : Int32) by decide) ?_ | refine nt (show (-1 : Int32) < (0 : Int32) by decide) ?_ | refine nf (show (-1 : Int32) < (0 : Int32) by decide) ?_
  exact kk
theorem c_above {d k : Nat} {H : pmT} {K : Int32 → pmT → Prop} (hk : k ≤ 7) (h0 : k ≠ 0) (kk : K (nI (W_ab k)) H) : pm_R d M_Mo_above [.int (nI k)] H (pm_i K) := by
  rcases (show k = 1 ∨ k = 2 ∨ k = 3 ∨ k = 4 ∨ k = 5 ∨ k = 6 ∨ k = 7 by omega) with e | e | e | e | e | e | e <;> subst e
  · refine m_Mo_above _ ?_
    first | refine bt (show ¬ nI 1 = (3 : Int32) by decide) ?_ | refine bf (show ¬ nI 1 = (3 : Int32) by decide) ?_ | refine nt (show ¬ nI 1 = (3 : Int32) by decide) ?_ | refine nf (show ¬ nI 1 = (3 : Int32) by decide) ?_
    first | refine bt (show ¬ nI 1 = (4 : Int32) by decide) ?_ | refine bf (show ¬ nI 1 = (4 : Int32) by decide) ?_ | refine nt (show ¬ nI 1 = (4 : Int32) by decide) ?_ | refine nf (show ¬ nI 1 = (4 : Int32) by decide) ?_
    first | refine bt (show ¬ nI 1 = (5 : Int32) by decide) ?_ | refine bf (show ¬ nI 1 = (5 : Int32) by decide) ?_ | refine nt (show ¬ nI 1 = (5 : Int32) by decide) ?_ | refine nf (show ¬ nI 1 = (5 : Int32) by decide) ?_
    first | refine bt (show ¬ nI 1 = (7 : Int32) by decide) ?_ | refine bf (show ¬ nI 1 = (7 : Int32) by decide) ?_ | refine nt (show ¬ nI 1 = (7 : Int32) by decide) ?_ | refine nf (show ¬ nI 1 = (7 : Int32) by decide) ?_
    exact kk
  · refine m_Mo_above _ ?_
    first | refine bt (show ¬ nI 2 = (3 : Int32) by decide) ?_ | refine bf (show ¬ nI 2 = (3 : Int32) by decide) ?_ | refine nt (show ¬ nI 2 = (3 : Int32) by decide) ?_ | refine nf (show ¬ nI 2 = (3 : Int32) by decide) ?_
    first | refine bt (show ¬ nI 2 = (4 : Int32) by decide) ?_ | refine bf (show ¬ nI 2 = (4 : Int32) by decide) ?_ | refine nt (show ¬ nI 2 = (4 : Int32) by decide) ?_ | refine nf (show ¬ nI 2 = (4 : Int32) by decide) ?_
    first | refine bt (show ¬ nI 2 = (5 : Int32) by decide) ?_ | refine bf (show ¬ nI 2 = (5 : Int32) by decide) ?_ | refine nt (show ¬ nI 2 = (5 : Int32) by decide) ?_ | refine nf (show ¬ nI 2 = (5 : Int32) by decide) ?_
    first | refine bt (show ¬ nI 2 = (7 : Int32) by decide) ?_ | refine bf (show ¬ nI 2 = (7 : Int32) by decide) ?_ | refine nt (show ¬ nI 2 = (7 : Int32) by decide) ?_ | refine nf (show ¬ nI 2 = (7 : Int32) by decide) ?_
    exact kk
  · refine m_Mo_above _ ?_
    first | refine bt (show nI 3 = (3 : Int32) from rfl) ?_ | refine bf (show nI 3 = (3 : Int32) from rfl) ?_ | refine nt (show nI 3 = (3 : Int32) from rfl) ?_ | refine nf (show nI 3 = (3 : Int32) from rfl) ?_
    exact kk
  · refine m_Mo_above _ ?_
    first | refine bt (show ¬ nI 4 = (3 : Int32) by decide) ?_ | refine bf (show ¬ nI 4 = (3 : Int32) by decide) ?_ | refine nt (show ¬ nI 4 = (3 : Int32) by decide) ?_ | refine nf (show ¬ nI 4 = (3 : Int32) by decide) ?_
    first | refine bt (show nI 4 = (4 : Int32) from rfl) ?_ | refine bf (show nI 4 = (4 : Int32) from rfl) ?_ | refine nt (show nI 4 = (4 : Int32) from rfl) ?_ | refine nf (show nI 4 = (4 : Int32) from rfl) ?_
    exact kk
  · refine m_Mo_above _ ?_
    first | refine bt (show ¬ nI 5 = (3 : Int32) by decide) ?_ | refine bf (show ¬ nI 5 = (3 : Int32) by decide) ?_ | refine nt (show ¬ nI 5 = (3 : Int32) by decide) ?_ | refine nf (show ¬ nI 5 = (3 : Int32) by decide) ?_
    first | refine bt (show ¬ nI 5 = (4 : Int32) by decide) ?_ | refine bf (show ¬ nI 5 = (4 : Int32) by decide) ?_ | refine nt (show ¬ nI 5 = (4 : Int32) by decide) ?_ | refine nf (show ¬ nI 5 = (4 : Int32) by decide) ?_
    first | refine bt (show nI 5 = (5 : Int32) from rfl) ?_ | refine bf (show nI 5 = (5 : Int32) from rfl) ?_ | refine nt (show nI 5 = (5 : Int32) from rfl) ?_ | refine nf (show nI 5 = (5 : Int32) from rfl) ?_
    exact kk
  · refine m_Mo_above _ ?_
    first | refine bt (show ¬ nI 6 = (3 : Int32) by decide) ?_ | refine bf (show ¬ nI 6 = (3 : Int32) by decide) ?_ | refine nt (show ¬ nI 6 = (3 : Int32) by decide) ?_ | refine nf (show ¬ nI 6 = (3 : Int32) by decide) ?_
    first | refine bt (show ¬ nI 6 = (4 : Int32) by decide) ?_ | refine bf (show ¬ nI 6 = (4 : Int32) by decide) ?_ | refine nt (show ¬ nI 6 = (4 : Int32) by decide) ?_ | refine nf (show ¬ nI 6 = (4 : Int32) by decide) ?_
    first | refine bt (show ¬ nI 6 = (5 : Int32) by decide) ?_ | refine bf (show ¬ nI 6 = (5 : Int32) by decide) ?_ | refine nt (show ¬ nI 6 = (5 : Int32) by decide) ?_ | refine nf (show ¬ nI 6 = (5 : Int32) by decide) ?_
    first | refine bt (show ¬ nI 6 = (7 : Int32) by decide) ?_ | refine bf (show ¬ nI 6 = (7 : Int32) by decide) ?_ | refine nt (show ¬ nI 6 = (7 : Int32) by decide) ?_ | refine nf (show ¬ nI 6 = (7 : Int32) by decide) ?_
    exact kk
  · refine m_Mo_above _ ?_
    first | refine bt (show ¬ nI 7 = (3 : Int32) by decide) ?_ | refine bf (show ¬ nI 7 = (3 : Int32) by decide) ?_ | refine nt (show ¬ nI 7 = (3 : Int32) by decide) ?_ | refine nf (show ¬ nI 7 = (3 : Int32) by decide) ?_
    first | refine bt (show ¬ nI 7 = (4 : Int32) by decide) ?_ | refine bf (show ¬ nI 7 = (4 : Int32) by decide) ?_ | refine nt (show ¬ nI 7 = (4 : Int32) by decide) ?_ | refine nf (show ¬ nI 7 = (4 : Int32) by decide) ?_
    first | refine bt (show ¬ nI 7 = (5 : Int32) by decide) ?_ | refine bf (show ¬ nI 7 = (5 : Int32) by decide) ?_ | refine nt (show ¬ nI 7 = (5 : Int32) by decide) ?_ | refine nf (show ¬ nI 7 = (5 : Int32) by decide) ?_
    first | refine bt (show nI 7 = (7 : Int32) from rfl) ?_ | refine bf (show nI 7 = (7 : Int32) from rfl) ?_ | refine nt (show nI 7 = (7 : Int32) from rfl) ?_ | refine nf (show nI 7 = (7 : Int32) from rfl) ?_
    exact kk
theorem lp_taken {D d c w : Nat} {H : pmT} {K : Int32 → pmT → Prop} (hd : d < 6) (hc : c ≤ 7) (hw : w < 50) (h81 : H.1 81 d = nI w) : ∀ (f k : Nat), W_dp k < f → k ≤ 7 → K (if W_un c f k = true then H.1 79 w else -12) H → pm_RW none (D + 2) M_Mo_taken (pm_i K) 58 [(0, .ref 55), (1, .int (nI d)), (2, .int (nI c)), (3, .int (nI k))] [] H
  | 0, k, hdp, hk, kk => absurd hdp (Nat.not_lt_zero _)
  | f + 1, k, hdp, hk, kk => by
    refine b_Mo_taken_58 _ _ _ ?_
    unfold W_un at kk
    rw [i_eq k c (by omega) (by omega), nIc (show d < 2 ^ 31 by omega), h81, nIc (show w < 2 ^ 31 by omega)]
    by_cases e : k = c
    · first | refine bt e ?_ | refine bf e ?_ | refine nt e ?_ | refine nf e ?_
      rw [if_pos e] at kk
      exact ⟨vp_in_nI hd (by decide), vp_in_nI hw (by decide), kk⟩
    · first | refine bt e ?_ | refine bf e ?_ | refine nt e ?_ | refine nf e ?_
      rw [if_neg e] at kk
      rw [show (nI k ≤ 0) = (k ≤ 0) from i_le k 0 (by omega) (by decide)]
      by_cases z : k = 0
      · first | refine bt (show k ≤ 0 by omega) ?_ | refine bf (show k ≤ 0 by omega) ?_ | refine nt (show k ≤ 0 by omega) ?_ | refine nf (show k ≤ 0 by omega) ?_
        rw [if_pos z] at kk
        exact kk
      · first | refine bt (show ¬ k ≤ 0 by omega) ?_ | refine bf (show ¬ k ≤ 0 by omega) ?_ | refine nt (show ¬ k ≤ 0 by omega) ?_ | refine nf (show ¬ k ≤ 0 by omega) ?_
        rw [if_neg z] at kk
        obtain ⟨q1, q2, q3⟩ := W_ab_ok k hk z
        refine c_above hk z ?_
        exact lp_taken hd hc hw h81 f (W_ab k) (by omega) q1 kk
theorem p_taken {D t : Nat} {H : pmT} {K : Int32 → Int32 → pmT → Prop} (a1 a2 : Int32) (hR : Rel t H) (ht : t ≤ 1000) (kk : ∀ x H', Rel (t + 1) H' → K x x H') : pm_R (D + 200) M_PW_taken [.ref 0, .int a1, .int a2] H (pm_i fun x H1 => pm_R (D + 200) M_Mo_taken [.ref 55, .int a1, .int a2] H1 (pm_i fun y H2 => K x y H2)) := by
  obtain ⟨hb, L, n, now, m, hN, hT, hD⟩ := id hR
  have hC := hN.cs ht
  have hM := hN.ms ht
  have hn12 := hC.2.2.1
  have hB := hT.2.2.2.1
  have hSh := hT.2.2.2.2.2.1
  have en : (nI n - (1 : Int32)).toInt = (n : Int) - 1 := nm1_t (by omega)
  have hR1 : Rel (t + 1) H := hR.mono (Nat.le_succ _)
  by_cases hok : (0 ≤ a1.toInt ∧ a1.toInt ≤ 5) ∧ (0 ≤ a2.toInt ∧ a2.toInt ≤ 7)
  · obtain ⟨⟨p1, p2⟩, p3, p4⟩ := hok
    obtain ⟨d, _, rfl, eb⟩ := nI_tI a1 p1
    obtain ⟨c, _, rfl, ec⟩ := nI_tI a2 p3
    have hd : d < 6 := by omega
    have hc7 : c ≤ 7 := by omega
    have d0 : ¬ nI d < (0 : Int32) := nI_pos (by omega)
    have d1 : nI d ≤ (5 : Int32) := nI_le (show d ≤ 5 by omega) (by decide)
    have d2 : ¬ lg_cmp (nI d).toInt64 (0 : Int64) < 0 := l_0 (by omega)
    have d3 : ¬ 0 < lg_cmp (nI d).toInt64 (5 : Int64) := l_c (by omega) (by show (d : Int) ≤ 5; omega)
    have d4 : (nI d).toNatClampNeg = d := nIc (by omega)
    have c0 : ¬ nI c < (0 : Int32) := nI_pos (by omega)
    have c1 : nI c ≤ (7 : Int32) := nI_le (show c ≤ 7 by omega) (by decide)
    have c2 : ¬ lg_cmp (nI c).toInt64 (0 : Int64) < 0 := l_0 (by omega)
    have c3 : ¬ 0 < lg_cmp (nI c).toInt64 (7 : Int64) := l_c (by omega) (by show (c : Int) ≤ 7; omega)
    have c4 : (nI c).toNatClampNeg = c := nIc (by omega)
    have dv : vp_in (nI d) 6 := vp_in_nI hd (by decide)
    rcases row_cases hB.1 (hSh d hd) with ⟨x0, x1, y0, _⟩ | ⟨w, hw, x0, x1, y0, _, _, y1, h1, h2⟩ | ⟨so, len, hso, hlen, x0, x1, y0, _, _, y1, h1, h2, h3, h4, h5, h6, h7⟩
    · refine m_PW_taken _ _ ?_
      rw [d4]
      repeat (first | with_reducible refine bt d0 ?_ | with_reducible refine bf d0 ?_ | with_reducible refine nt d0 ?_ | with_reducible refine nf d0 ?_ | with_reducible refine And.intro d0 ?_ | with_reducible refine bt d1 ?_ | with_reducible refine bf d1 ?_ | with_reducible refine nt d1 ?_ | with_reducible refine nf d1 ?_ | with_reducible refine And.intro d1 ?_ | with_reducible refine bt c0 ?_ | with_reducible refine bf c0 ?_ | with_reducible refine nt c0 ?_ | with_reducible refine nf c0 ?_ | with_reducible refine And.intro c0 ?_ | with_reducible refine bt c1 ?_ | with_reducible refine bf c1 ?_ | with_reducible refine nt c1 ?_ | with_reducible refine nf c1 ?_ | with_reducible refine And.intro c1 ?_ | with_reducible refine bt dv ?_ | with_reducible refine bf dv ?_ | with_reducible refine nt dv ?_ | with_reducible refine nf dv ?_ | with_reducible refine And.intro dv ?_ | with_reducible refine bt x0 ?_ | with_reducible refine bf x0 ?_ | with_reducible refine nt x0 ?_ | with_reducible refine nf x0 ?_ | with_reducible refine And.intro x0 ?_ | with_reducible refine bt x1 ?_ | with_reducible refine bf x1 ?_ | with_reducible refine nt x1 ?_ | with_reducible refine nf x1 ?_ | with_reducible refine And.intro x1 ?_)
      refine m_Mo_taken _ _ ?_
      rw [d4]
      repeat (first | with_reducible refine bt d2 ?_ | with_reducible refine bf d2 ?_ | with_reducible refine nt d2 ?_ | with_reducible refine nf d2 ?_ | with_reducible refine And.intro d2 ?_ | with_reducible refine bt d3 ?_ | with_reducible refine bf d3 ?_ | with_reducible refine nt d3 ?_ | with_reducible refine nf d3 ?_ | with_reducible refine And.intro d3 ?_ | with_reducible refine bt c2 ?_ | with_reducible refine bf c2 ?_ | with_reducible refine nt c2 ?_ | with_reducible refine nf c2 ?_ | with_reducible refine And.intro c2 ?_ | with_reducible refine bt c3 ?_ | with_reducible refine bf c3 ?_ | with_reducible refine nt c3 ?_ | with_reducible refine nf c3 ?_ | with_reducible refine And.intro c3 ?_ | with_reducible refine bt dv ?_ | with_reducible refine bf dv ?_ | with_reducible refine nt dv ?_ | with_reducible refine nf dv ?_ | with_reducible refine And.intro dv ?_ | with_reducible refine bt y0 ?_ | with_reducible refine bf y0 ?_ | with_reducible refine nt y0 ?_ | with_reducible refine nf y0 ?_ | with_reducible refine And.intro y0 ?_)
      exact kk _ _ hR1
    · obtain ⟨b1, b2, b3, b4⟩ := hB
      obtain ⟨kd, k1, k2, k3⟩ := b4 w hw
      have v0 : ¬ nI w < (0 : Int32) := nI_pos (by omega)
      have v1 : nI w ≤ nI m - (1 : Int32) := le_pred hw (by omega)
      have v5 : vp_in (nI w) 50 := vp_in_nI (by omega) (by decide)
      have x1' : (-1 : Int32) = -1 := rfl
      have x0' : (0 : Int32) ≤ nI w := nI_pos' (by omega)
      refine m_PW_taken _ _ ?_
      rw [d4, h1, x1, b2, nIc (show w < 2 ^ 31 by omega), k2]
      repeat (first | with_reducible refine bt d0 ?_ | with_reducible refine bf d0 ?_ | with_reducible refine nt d0 ?_ | with_reducible refine nf d0 ?_ | with_reducible refine And.intro d0 ?_ | with_reducible refine bt d1 ?_ | with_reducible refine bf d1 ?_ | with_reducible refine nt d1 ?_ | with_reducible refine nf d1 ?_ | with_reducible refine And.intro d1 ?_ | with_reducible refine bt c0 ?_ | with_reducible refine bf c0 ?_ | with_reducible refine nt c0 ?_ | with_reducible refine nf c0 ?_ | with_reducible refine And.intro c0 ?_ | with_reducible refine bt c1 ?_ | with_reducible refine bf c1 ?_ | with_reducible refine nt c1 ?_ | with_reducible refine nf c1 ?_ | with_reducible refine And.intro c1 ?_ | with_reducible refine bt dv ?_ | with_reducible refine bf dv ?_ | with_reducible refine nt dv ?_ | with_reducible refine nf dv ?_ | with_reducible refine And.intro dv ?_ | with_reducible refine bt x0' ?_ | with_reducible refine bf x0' ?_ | with_reducible refine nt x0' ?_ | with_reducible refine nf x0' ?_ | with_reducible refine And.intro x0' ?_ | with_reducible refine bt x1' ?_ | with_reducible refine bf x1' ?_ | with_reducible refine nt x1' ?_ | with_reducible refine nf x1' ?_ | with_reducible refine And.intro x1' ?_ | with_reducible refine bt v0 ?_ | with_reducible refine bf v0 ?_ | with_reducible refine nt v0 ?_ | with_reducible refine nf v0 ?_ | with_reducible refine And.intro v0 ?_ | with_reducible refine bt v1 ?_ | with_reducible refine bf v1 ?_ | with_reducible refine nt v1 ?_ | with_reducible refine nf v1 ?_ | with_reducible refine And.intro v1 ?_ | with_reducible refine bt v5 ?_ | with_reducible refine bf v5 ?_ | with_reducible refine nt v5 ?_ | with_reducible refine nf v5 ?_ | with_reducible refine And.intro v5 ?_)
      refine c_under hc7 k1 ?_
      have ref : pm_R (D + 200) M_Mo_taken [.ref 55, .int (nI d), .int (nI c)] H (pm_i fun y H2 => K (if W_un c 8 kd = true then nI kd else -12) y H2) := by
        refine m_Mo_taken _ _ ?_
        have w0 : (0 : Int32) ≤ nI w := nI_pos' (by omega)
        have w1 : nI w < (50 : Int32) := nI_lt (show w < 50 by omega) (by decide)
        rw [d4, h2, nIc (show w < 2 ^ 31 by omega), k3]
        repeat (first | with_reducible refine bt d2 ?_ | with_reducible refine bf d2 ?_ | with_reducible refine nt d2 ?_ | with_reducible refine nf d2 ?_ | with_reducible refine And.intro d2 ?_ | with_reducible refine bt d3 ?_ | with_reducible refine bf d3 ?_ | with_reducible refine nt d3 ?_ | with_reducible refine nf d3 ?_ | with_reducible refine And.intro d3 ?_ | with_reducible refine bt c2 ?_ | with_reducible refine bf c2 ?_ | with_reducible refine nt c2 ?_ | with_reducible refine nf c2 ?_ | with_reducible refine And.intro c2 ?_ | with_reducible refine bt c3 ?_ | with_reducible refine bf c3 ?_ | with_reducible refine nt c3 ?_ | with_reducible refine nf c3 ?_ | with_reducible refine And.intro c3 ?_ | with_reducible refine bt dv ?_ | with_reducible refine bf dv ?_ | with_reducible refine nt dv ?_ | with_reducible refine nf dv ?_ | with_reducible refine And.intro dv ?_ | with_reducible refine bt w0 ?_ | with_reducible refine bf w0 ?_ | with_reducible refine nt w0 ?_ | with_reducible refine nf w0 ?_ | with_reducible refine And.intro w0 ?_ | with_reducible refine bt w1 ?_ | with_reducible refine bf w1 ?_ | with_reducible refine nt w1 ?_ | with_reducible refine nf w1 ?_ | with_reducible refine And.intro w1 ?_ | with_reducible refine bt v5 ?_ | with_reducible refine bf v5 ?_ | with_reducible refine nt v5 ?_ | with_reducible refine nf v5 ?_ | with_reducible refine And.intro v5 ?_)
        have hdp : ∀ k, k ≤ 7 → W_dp k < 8 := by decide
        refine lp_taken (D := D + 198) hd hc7 (by omega) h2 8 kd (hdp kd k1) k1 ?_
        rw [k3]
        exact kk _ _ hR1
      by_cases cu : W_un c 8 kd = true
      · rw [if_pos cu] at ref ⊢
        first | refine bt (show ¬ (1 : Int32) = 0 by decide) ?_ | refine bf (show ¬ (1 : Int32) = 0 by decide) ?_ | refine nt (show ¬ (1 : Int32) = 0 by decide) ?_ | refine nf (show ¬ (1 : Int32) = 0 by decide) ?_
        exact ref
      · rw [if_neg cu] at ref ⊢
        first | refine bt (show (0 : Int32) = 0 from rfl) ?_ | refine bf (show (0 : Int32) = 0 from rfl) ?_ | refine nt (show (0 : Int32) = 0 from rfl) ?_ | refine nf (show (0 : Int32) = 0 from rfl) ?_
        exact ref
    · refine m_PW_taken _ _ ?_
      rw [d4]
      repeat (first | with_reducible refine bt d0 ?_ | with_reducible refine bf d0 ?_ | with_reducible refine nt d0 ?_ | with_reducible refine nf d0 ?_ | with_reducible refine And.intro d0 ?_ | with_reducible refine bt d1 ?_ | with_reducible refine bf d1 ?_ | with_reducible refine nt d1 ?_ | with_reducible refine nf d1 ?_ | with_reducible refine And.intro d1 ?_ | with_reducible refine bt c0 ?_ | with_reducible refine bf c0 ?_ | with_reducible refine nt c0 ?_ | with_reducible refine nf c0 ?_ | with_reducible refine And.intro c0 ?_ | with_reducible refine bt c1 ?_ | with_reducible refine bf c1 ?_ | with_reducible refine nt c1 ?_ | with_reducible refine nf c1 ?_ | with_reducible refine And.intro c1 ?_ | with_reducible refine bt dv ?_ | with_reducible refine bf dv ?_ | with_reducible refine nt dv ?_ | with_reducible refine nf dv ?_ | with_reducible refine And.intro dv ?_ | with_reducible refine bt x0 ?_ | with_reducible refine bf x0 ?_ | with_reducible refine nt x0 ?_ | with_reducible refine nf x0 ?_ | with_reducible refine And.intro x0 ?_ | with_reducible refine bt x1 ?_ | with_reducible refine bf x1 ?_ | with_reducible refine nt x1 ?_ | with_reducible refine nf x1 ?_ | with_reducible refine And.intro x1 ?_)
      refine c_under0 ?_
      first | refine bt (show (0 : Int32) = 0 from rfl) ?_ | refine bf (show (0 : Int32) = 0 from rfl) ?_ | refine nt (show (0 : Int32) = 0 from rfl) ?_ | refine nf (show (0 : Int32) = 0 from rfl) ?_
      refine m_Mo_taken _ _ ?_
      rw [d4]
      repeat (first | with_reducible refine bt d2 ?_ | with_reducible refine bf d2 ?_ | with_reducible refine nt d2 ?_ | with_reducible refine nf d2 ?_ | with_reducible refine And.intro d2 ?_ | with_reducible refine bt d3 ?_ | with_reducible refine bf d3 ?_ | with_reducible refine nt d3 ?_ | with_reducible refine nf d3 ?_ | with_reducible refine And.intro d3 ?_ | with_reducible refine bt c2 ?_ | with_reducible refine bf c2 ?_ | with_reducible refine nt c2 ?_ | with_reducible refine nf c2 ?_ | with_reducible refine And.intro c2 ?_ | with_reducible refine bt c3 ?_ | with_reducible refine bf c3 ?_ | with_reducible refine nt c3 ?_ | with_reducible refine nf c3 ?_ | with_reducible refine And.intro c3 ?_ | with_reducible refine bt dv ?_ | with_reducible refine bf dv ?_ | with_reducible refine nt dv ?_ | with_reducible refine nf dv ?_ | with_reducible refine And.intro dv ?_ | with_reducible refine bt y0 ?_ | with_reducible refine bf y0 ?_ | with_reducible refine nt y0 ?_ | with_reducible refine nf y0 ?_ | with_reducible refine And.intro y0 ?_ | with_reducible refine bt y1 ?_ | with_reducible refine bf y1 ?_ | with_reducible refine nt y1 ?_ | with_reducible refine nf y1 ?_ | with_reducible refine And.intro y1 ?_)
      exact kk _ _ hR1
  · have hm : pm_R (D + 200) M_Mo_taken [.ref 55, .int a1, .int a2] H (pm_i fun y H2 => K (-1) y H2) := by
      refine m_Mo_taken _ _ ?_
      try rw [hM.2.1]
      ((try (simp only [lgl, lgg, i2l_t, u32_0, u64_0, u32_1, u64_1, u32_2, u64_2, u32_3, u64_3, u32_4, u64_4, u32_5, u64_5, u32_7, u64_7, u32_12, u64_12, u32_24, u64_24, u32_30, u64_30, u32_49, u64_49, u32_60, u64_60, u32_99, u64_99, u32_255, u64_255, u32_999, u64_999, en])); (try (simp only [t_lt, t_le, u32_0, u64_0, u32_1, u64_1, u32_2, u64_2, u32_3, u64_3, u32_4, u64_4, u32_5, u64_5, u32_7, u64_7, u32_12, u64_12, u32_24, u64_24, u32_30, u64_30, u32_49, u64_49, u32_60, u64_60, u32_99, u64_99, u32_255, u64_255, u32_999, u64_999, en])); repeat' (first | with_reducible intro hh | with_reducible apply And.intro | exact vp_in_iff.mpr (by omega) | (exfalso; omega) | exact kk _ _ hR1))
    refine m_PW_taken _ _ ?_
    try rw [hC.2.1]
    ((try (simp only [lgl, lgg, i2l_t, u32_0, u64_0, u32_1, u64_1, u32_2, u64_2, u32_3, u64_3, u32_4, u64_4, u32_5, u64_5, u32_7, u64_7, u32_12, u64_12, u32_24, u64_24, u32_30, u64_30, u32_49, u64_49, u32_60, u64_60, u32_99, u64_99, u32_255, u64_255, u32_999, u64_999, en])); (try (simp only [t_lt, t_le, u32_0, u64_0, u32_1, u64_1, u32_2, u64_2, u32_3, u64_3, u32_4, u64_4, u32_5, u64_5, u32_7, u64_7, u32_12, u64_12, u32_24, u64_24, u32_30, u64_30, u32_49, u64_49, u32_60, u64_60, u32_99, u64_99, u32_255, u64_255, u32_999, u64_999, en])); repeat' (first | with_reducible intro hh | with_reducible apply And.intro | exact vp_in_iff.mpr (by omega) | (exfalso; omega) | exact hm))
theorem p_put {D t : Nat} {H : pmT} {K : Int32 → Int32 → pmT → Prop} (a1 a2 : Int32) (a3 : Int64) (hR : Rel t H) (ht : t ≤ 1000) (kk : ∀ x H', Rel (t + 1) H' → K x x H') : pm_R (D + 200) M_PW_put [.ref 0, .int a1, .int a2, .long a3] H (pm_i fun x H1 => pm_R (D + 200) M_Mo_put [.ref 55, .int a1, .int a2, .long a3] H1 (pm_i fun y H2 => K x y H2)) := by
  obtain ⟨hb, L, n, now, m, hN, hT, hD⟩ := id hR
  have hC := hN.cs ht
  have hM := hN.ms ht
  have hn12 := hC.2.2.1
  have hB := hT.2.2.2.1
  have hSh := hT.2.2.2.2.2.1
  have en : (nI n - (1 : Int32)).toInt = (n : Int) - 1 := nm1_t (by omega)
  have hR1 : Rel (t + 1) H := hR.mono (Nat.le_succ _)
  by_cases hok : 0 ≤ a1.toInt ∧ a1.toInt ≤ 5
  · obtain ⟨p1, p2⟩ := hok
    obtain ⟨d, _, rfl, eb⟩ := nI_tI a1 p1
    have hd : d < 6 := by omega
    have d0 : ¬ nI d < (0 : Int32) := nI_pos (by omega)
    have d1 : nI d ≤ (5 : Int32) := nI_le (show d ≤ 5 by omega) (by decide)
    have d2 : ¬ lg_cmp (nI d).toInt64 (0 : Int64) < 0 := l_0 (by omega)
    have d3 : ¬ 0 < lg_cmp (nI d).toInt64 (5 : Int64) := l_c (by omega) (by show (d : Int) ≤ 5; omega)
    have d4 : (nI d).toNatClampNeg = d := nIc (by omega)
    have dv : vp_in (nI d) 6 := vp_in_nI hd (by decide)
    rcases row_cases hB.1 (hSh d hd) with ⟨x0, x1, y0, _⟩ | ⟨w, hw, x0, x1, y0, _, y1, _, _, _⟩ | ⟨so, len, hso, hlen, x0, x1, y0, _, y1, _, h1, h2, h3, h4, h5, h6, h7⟩
    · refine m_PW_put _ _ _ ?_
      rw [d4]
      repeat (first | with_reducible refine bt d0 ?_ | with_reducible refine bf d0 ?_ | with_reducible refine nt d0 ?_ | with_reducible refine nf d0 ?_ | with_reducible refine And.intro d0 ?_ | with_reducible refine bt d1 ?_ | with_reducible refine bf d1 ?_ | with_reducible refine nt d1 ?_ | with_reducible refine nf d1 ?_ | with_reducible refine And.intro d1 ?_ | with_reducible refine bt dv ?_ | with_reducible refine bf dv ?_ | with_reducible refine nt dv ?_ | with_reducible refine nf dv ?_ | with_reducible refine And.intro dv ?_ | with_reducible refine bt x0 ?_ | with_reducible refine bf x0 ?_ | with_reducible refine nt x0 ?_ | with_reducible refine nf x0 ?_ | with_reducible refine And.intro x0 ?_ | with_reducible refine bt x1 ?_ | with_reducible refine bf x1 ?_ | with_reducible refine nt x1 ?_ | with_reducible refine nf x1 ?_ | with_reducible refine And.intro x1 ?_)
      refine m_Mo_put _ _ _ ?_
      rw [d4]
      repeat (first | with_reducible refine bt d2 ?_ | with_reducible refine bf d2 ?_ | with_reducible refine nt d2 ?_ | with_reducible refine nf d2 ?_ | with_reducible refine And.intro d2 ?_ | with_reducible refine bt d3 ?_ | with_reducible refine bf d3 ?_ | with_reducible refine nt d3 ?_ | with_reducible refine nf d3 ?_ | with_reducible refine And.intro d3 ?_ | with_reducible refine bt dv ?_ | with_reducible refine bf dv ?_ | with_reducible refine nt dv ?_ | with_reducible refine nf dv ?_ | with_reducible refine And.intro dv ?_ | with_reducible refine bt y0 ?_ | with_reducible refine bf y0 ?_ | with_reducible refine nt y0 ?_ | with_reducible refine nf y0 ?_ | with_reducible refine And.intro y0 ?_)
      exact kk _ _ hR1
    · refine m_PW_put _ _ _ ?_
      rw [d4]
      repeat (first | with_reducible refine bt d0 ?_ | with_reducible refine bf d0 ?_ | with_reducible refine nt d0 ?_ | with_reducible refine nf d0 ?_ | with_reducible refine And.intro d0 ?_ | with_reducible refine bt d1 ?_ | with_reducible refine bf d1 ?_ | with_reducible refine nt d1 ?_ | with_reducible refine nf d1 ?_ | with_reducible refine And.intro d1 ?_ | with_reducible refine bt dv ?_ | with_reducible refine bf dv ?_ | with_reducible refine nt dv ?_ | with_reducible refine nf dv ?_ | with_reducible refine And.intro dv ?_ | with_reducible refine bt x0 ?_ | with_reducible refine bf x0 ?_ | with_reducible refine nt x0 ?_ | with_reducible refine nf x0 ?_ | with_reducible refine And.intro x0 ?_ | with_reducible refine bt x1 ?_ | with_reducible refine bf x1 ?_ | with_reducible refine nt x1 ?_ | with_reducible refine nf x1 ?_ | with_reducible refine And.intro x1 ?_)
      refine m_Mo_put _ _ _ ?_
      rw [d4]
      repeat (first | with_reducible refine bt d2 ?_ | with_reducible refine bf d2 ?_ | with_reducible refine nt d2 ?_ | with_reducible refine nf d2 ?_ | with_reducible refine And.intro d2 ?_ | with_reducible refine bt d3 ?_ | with_reducible refine bf d3 ?_ | with_reducible refine nt d3 ?_ | with_reducible refine nf d3 ?_ | with_reducible refine And.intro d3 ?_ | with_reducible refine bt dv ?_ | with_reducible refine bf dv ?_ | with_reducible refine nt dv ?_ | with_reducible refine nf dv ?_ | with_reducible refine And.intro dv ?_ | with_reducible refine bt y0 ?_ | with_reducible refine bf y0 ?_ | with_reducible refine nt y0 ?_ | with_reducible refine nf y0 ?_ | with_reducible refine And.intro y0 ?_ | with_reducible refine bt y1 ?_ | with_reducible refine bf y1 ?_ | with_reducible refine nt y1 ?_ | with_reducible refine nf y1 ?_ | with_reducible refine And.intro y1 ?_)
      exact kk _ _ hR1
    · rw [h2] at x1
      rw [h3] at y0 y1
      refine m_PW_put _ _ _ ?_
      rw [d4, h2, h4]
      repeat (first | with_reducible refine bt d0 ?_ | with_reducible refine bf d0 ?_ | with_reducible refine nt d0 ?_ | with_reducible refine nf d0 ?_ | with_reducible refine And.intro d0 ?_ | with_reducible refine bt d1 ?_ | with_reducible refine bf d1 ?_ | with_reducible refine nt d1 ?_ | with_reducible refine nf d1 ?_ | with_reducible refine And.intro d1 ?_ | with_reducible refine bt dv ?_ | with_reducible refine bf dv ?_ | with_reducible refine nt dv ?_ | with_reducible refine nf dv ?_ | with_reducible refine And.intro dv ?_ | with_reducible refine bt x0 ?_ | with_reducible refine bf x0 ?_ | with_reducible refine nt x0 ?_ | with_reducible refine nf x0 ?_ | with_reducible refine And.intro x0 ?_ | with_reducible refine bt x1 ?_ | with_reducible refine bf x1 ?_ | with_reducible refine nt x1 ?_ | with_reducible refine nf x1 ?_ | with_reducible refine And.intro x1 ?_)
      by_cases neg : a2 < 0
      · repeat (first | with_reducible refine bt neg ?_ | with_reducible refine bf neg ?_ | with_reducible refine nt neg ?_ | with_reducible refine nf neg ?_ | with_reducible refine And.intro neg ?_)
        refine m_Mo_put _ _ _ ?_
        rw [d4, h3]
        repeat (first | with_reducible refine bt d2 ?_ | with_reducible refine bf d2 ?_ | with_reducible refine nt d2 ?_ | with_reducible refine nf d2 ?_ | with_reducible refine And.intro d2 ?_ | with_reducible refine bt d3 ?_ | with_reducible refine bf d3 ?_ | with_reducible refine nt d3 ?_ | with_reducible refine nf d3 ?_ | with_reducible refine And.intro d3 ?_ | with_reducible refine bt dv ?_ | with_reducible refine bf dv ?_ | with_reducible refine nt dv ?_ | with_reducible refine nf dv ?_ | with_reducible refine And.intro dv ?_ | with_reducible refine bt y0 ?_ | with_reducible refine bf y0 ?_ | with_reducible refine nt y0 ?_ | with_reducible refine nf y0 ?_ | with_reducible refine And.intro y0 ?_ | with_reducible refine bt y1 ?_ | with_reducible refine bf y1 ?_ | with_reducible refine nt y1 ?_ | with_reducible refine nf y1 ?_ | with_reducible refine And.intro y1 ?_ | with_reducible refine bt neg ?_ | with_reducible refine bf neg ?_ | with_reducible refine nt neg ?_ | with_reducible refine nf neg ?_ | with_reducible refine And.intro neg ?_)
        exact kk _ _ hR1
      · have neg' : 0 ≤ a2.toInt := by
          rw [t_lt] at neg
          have : (0 : Int32).toInt = 0 := rfl
          omega
        obtain ⟨j, hj31, rfl, ej⟩ := nI_tI a2 neg'
        repeat (first | with_reducible refine bt neg ?_ | with_reducible refine bf neg ?_ | with_reducible refine nt neg ?_ | with_reducible refine nf neg ?_ | with_reducible refine And.intro neg ?_)
        rw [i_lt len j (by omega) hj31]
        have e1 : ((1 : Int32) ≤ nI len - nI j) = (j < len) := by
          rw [t_le, subN (nI j) hlen (by omega), u32_1]
          apply propext
          omega
        have out : ¬ j < len → pm_R (D + 200) M_Mo_put [.ref 55, .int (nI d), .int (nI j), .long a3] H (pm_i fun y H2 => K (-13) y H2) := fun hj => by
          refine m_Mo_put _ _ _ ?_
          rw [d4, h3, h5]
          repeat (first | with_reducible refine bt d2 ?_ | with_reducible refine bf d2 ?_ | with_reducible refine nt d2 ?_ | with_reducible refine nf d2 ?_ | with_reducible refine And.intro d2 ?_ | with_reducible refine bt d3 ?_ | with_reducible refine bf d3 ?_ | with_reducible refine nt d3 ?_ | with_reducible refine nf d3 ?_ | with_reducible refine And.intro d3 ?_ | with_reducible refine bt dv ?_ | with_reducible refine bf dv ?_ | with_reducible refine nt dv ?_ | with_reducible refine nf dv ?_ | with_reducible refine And.intro dv ?_ | with_reducible refine bt y0 ?_ | with_reducible refine bf y0 ?_ | with_reducible refine nt y0 ?_ | with_reducible refine nf y0 ?_ | with_reducible refine And.intro y0 ?_ | with_reducible refine bt y1 ?_ | with_reducible refine bf y1 ?_ | with_reducible refine nt y1 ?_ | with_reducible refine nf y1 ?_ | with_reducible refine And.intro y1 ?_ | with_reducible refine bt neg ?_ | with_reducible refine bf neg ?_ | with_reducible refine nt neg ?_ | with_reducible refine nf neg ?_ | with_reducible refine And.intro neg ?_)
          first | refine bt (nI_le (show len ≤ j by omega) hj31) ?_ | refine bf (nI_le (show len ≤ j by omega) hj31) ?_ | refine nt (nI_le (show len ≤ j by omega) hj31) ?_ | refine nf (nI_le (show len ≤ j by omega) hj31) ?_
          exact kk _ _ hR1
        rw [e1]
        by_cases c2 : j < len
        · have c1 : ¬ len < j := by omega
          have u1 : nI j ≤ nI len - (1 : Int32) := le_pred c2 (by omega)
          have m1 : ¬ nI len ≤ nI j := nI_ge c2 (by omega)
          have ei : (60 : Int32) * nI d + nI j = nI (60 * d + j) := by rw [show (60 : Int32) = nI 60 from rfl, pk_mul, nI_add]
          have em : nI (50 + so) - (50 : Int32) = nI so := (pk_sub (a := 50 + so) (b := 50) (by omega)).trans (congrArg nI (by omega))
          repeat (first | with_reducible refine bt c1 ?_ | with_reducible refine bf c1 ?_ | with_reducible refine nt c1 ?_ | with_reducible refine nf c1 ?_ | with_reducible refine And.intro c1 ?_ | with_reducible refine bt c2 ?_ | with_reducible refine bf c2 ?_ | with_reducible refine nt c2 ?_ | with_reducible refine nf c2 ?_ | with_reducible refine And.intro c2 ?_ | with_reducible refine bt neg ?_ | with_reducible refine bf neg ?_ | with_reducible refine nt neg ?_ | with_reducible refine nf neg ?_ | with_reducible refine And.intro neg ?_ | with_reducible refine bt u1 ?_ | with_reducible refine bf u1 ?_ | with_reducible refine nt u1 ?_ | with_reducible refine nf u1 ?_ | with_reducible refine And.intro u1 ?_)
          have fin : ∀ v : Int64, (¬ so = 3 → v.toInt = v.toInt32.toInt) → K 1 1 (H.1, pm_upL (pm_upL H.2.1 (43 + 2 * d + 1) j v) 83 (60 * d + j) v, H.2.2) := by
            intro v hv
            have eo : ∀ o, o ≠ 83 → pm_upL (pm_upL H.2.1 (43 + 2 * d + 1) j v) 83 (60 * d + j) v o = pm_upL H.2.1 (43 + 2 * d + 1) j v o := fun o ho => pm_upL_ne _ _ _ ho
            have e83 : ∀ k, pm_upL (pm_upL H.2.1 (43 + 2 * d + 1) j v) 83 (60 * d + j) v 83 k = vp_updL (H.2.1 83) (60 * d + j) v k := fun k => by
              rw [pm_upL_self, pm_upL_ne _ _ _ (by omega)]
            refine kk _ _ (Rel.sh hN hT hD (fun o k h => rfl) rfl (fun d' hd' => ?_))
            by_cases z : d' = d
            · subst z
              refine Or.inr (Or.inr ⟨so, len, hso, hlen, h1, h2, h3, h4, h5, fun k hk => ?_, fun c k hk => ?_⟩)
              · show pm_upL (pm_upL H.2.1 (43 + 2 * d' + 1) j v) 83 (60 * d' + j) v (43 + 2 * d' + 1) k = pm_upL (pm_upL H.2.1 (43 + 2 * d' + 1) j v) 83 (60 * d' + j) v 83 (60 * d' + k)
                rw [eo _ (by omega), pm_upL_self, e83]
                by_cases y : k = j
                · rw [y, pk_uLs, pk_uLs]
                · rw [pk_uLn y, pk_uLn (by omega)]; exact h6 k hk
              · show (pm_upL (pm_upL H.2.1 (43 + 2 * d' + 1) j v) 83 (60 * d' + j) v 83 (60 * d' + k)).toInt = (pm_upL (pm_upL H.2.1 (43 + 2 * d' + 1) j v) 83 (60 * d' + j) v 83 (60 * d' + k)).toInt32.toInt
                rw [e83]
                by_cases y : k = j
                · rw [y, pk_uLs]; exact hv c
                · rw [pk_uLn (by omega)]; exact h7 c k hk
            · refine (hSh d' hd').oth (fun k _ => rfl) rfl rfl (fun k hk => ?_) (fun k hk => ?_)
              · show pm_upL (pm_upL H.2.1 (43 + 2 * d + 1) j v) 83 (60 * d + j) v (43 + 2 * d' + 1) k = _
                rw [eo _ (by omega), pm_upL_ne _ _ _ (by omega)]
              · exact (e83 _).trans (pk_uLn (by omega))
          rcases (show so = 0 ∨ so = 1 ∨ so = 2 ∨ so = 3 ∨ so = 4 by omega) with e | e | e | e | e <;> subst e
          · have z0 : nI 0 = (0 : Int32) := by decide
            have z1 : ¬ nI 0 = (1 : Int32) := by decide
            have z2 : ¬ nI 0 = (2 : Int32) := by decide
            have z3 : ¬ nI 0 = (3 : Int32) := by decide
            have z4 : ¬ nI 0 = (4 : Int32) := by decide
            repeat (first | with_reducible refine bt z0 ?_ | with_reducible refine bf z0 ?_ | with_reducible refine nt z0 ?_ | with_reducible refine nf z0 ?_ | with_reducible refine And.intro z0 ?_ | with_reducible refine bt z1 ?_ | with_reducible refine bf z1 ?_ | with_reducible refine nt z1 ?_ | with_reducible refine nf z1 ?_ | with_reducible refine And.intro z1 ?_ | with_reducible refine bt z2 ?_ | with_reducible refine bf z2 ?_ | with_reducible refine nt z2 ?_ | with_reducible refine nf z2 ?_ | with_reducible refine And.intro z2 ?_ | with_reducible refine bt z3 ?_ | with_reducible refine bf z3 ?_ | with_reducible refine nt z3 ?_ | with_reducible refine nf z3 ?_ | with_reducible refine And.intro z3 ?_ | with_reducible refine bt z4 ?_ | with_reducible refine bf z4 ?_ | with_reducible refine nt z4 ?_ | with_reducible refine nf z4 ?_ | with_reducible refine And.intro z4 ?_)
            refine ⟨vp_in_nI (by omega) (by decide), ?_⟩
            rw [nIc hj31]
            refine m_Mo_put _ _ _ ?_
            rw [d4, h3, h5, ei, em, nIc (show 60 * d + j < 2 ^ 31 by omega)]
            repeat (first | with_reducible refine bt d2 ?_ | with_reducible refine bf d2 ?_ | with_reducible refine nt d2 ?_ | with_reducible refine nf d2 ?_ | with_reducible refine And.intro d2 ?_ | with_reducible refine bt d3 ?_ | with_reducible refine bf d3 ?_ | with_reducible refine nt d3 ?_ | with_reducible refine nf d3 ?_ | with_reducible refine And.intro d3 ?_ | with_reducible refine bt dv ?_ | with_reducible refine bf dv ?_ | with_reducible refine nt dv ?_ | with_reducible refine nf dv ?_ | with_reducible refine And.intro dv ?_ | with_reducible refine bt y0 ?_ | with_reducible refine bf y0 ?_ | with_reducible refine nt y0 ?_ | with_reducible refine nf y0 ?_ | with_reducible refine And.intro y0 ?_ | with_reducible refine bt y1 ?_ | with_reducible refine bf y1 ?_ | with_reducible refine nt y1 ?_ | with_reducible refine nf y1 ?_ | with_reducible refine And.intro y1 ?_ | with_reducible refine bt neg ?_ | with_reducible refine bf neg ?_ | with_reducible refine nt neg ?_ | with_reducible refine nf neg ?_ | with_reducible refine And.intro neg ?_ | with_reducible refine bt m1 ?_ | with_reducible refine bf m1 ?_ | with_reducible refine nt m1 ?_ | with_reducible refine nf m1 ?_ | with_reducible refine And.intro m1 ?_ | with_reducible refine bt z0 ?_ | with_reducible refine bf z0 ?_ | with_reducible refine nt z0 ?_ | with_reducible refine nf z0 ?_ | with_reducible refine And.intro z0 ?_ | with_reducible refine bt z1 ?_ | with_reducible refine bf z1 ?_ | with_reducible refine nt z1 ?_ | with_reducible refine nf z1 ?_ | with_reducible refine And.intro z1 ?_ | with_reducible refine bt z2 ?_ | with_reducible refine bf z2 ?_ | with_reducible refine nt z2 ?_ | with_reducible refine nf z2 ?_ | with_reducible refine And.intro z2 ?_ | with_reducible refine bt z3 ?_ | with_reducible refine bf z3 ?_ | with_reducible refine nt z3 ?_ | with_reducible refine nf z3 ?_ | with_reducible refine And.intro z3 ?_ | with_reducible refine bt z4 ?_ | with_reducible refine bf z4 ?_ | with_reducible refine nt z4 ?_ | with_reducible refine nf z4 ?_ | with_reducible refine And.intro z4 ?_)
            refine ⟨vp_in_nI (by omega) (by decide), ?_⟩
            exact fin _ (fun _ => by rw [i2l_t, Int32.toInt32_toInt64])
          · have z0 : ¬ nI 1 = (0 : Int32) := by decide
            have z1 : nI 1 = (1 : Int32) := by decide
            have z2 : ¬ nI 1 = (2 : Int32) := by decide
            have z3 : ¬ nI 1 = (3 : Int32) := by decide
            have z4 : ¬ nI 1 = (4 : Int32) := by decide
            repeat (first | with_reducible refine bt z0 ?_ | with_reducible refine bf z0 ?_ | with_reducible refine nt z0 ?_ | with_reducible refine nf z0 ?_ | with_reducible refine And.intro z0 ?_ | with_reducible refine bt z1 ?_ | with_reducible refine bf z1 ?_ | with_reducible refine nt z1 ?_ | with_reducible refine nf z1 ?_ | with_reducible refine And.intro z1 ?_ | with_reducible refine bt z2 ?_ | with_reducible refine bf z2 ?_ | with_reducible refine nt z2 ?_ | with_reducible refine nf z2 ?_ | with_reducible refine And.intro z2 ?_ | with_reducible refine bt z3 ?_ | with_reducible refine bf z3 ?_ | with_reducible refine nt z3 ?_ | with_reducible refine nf z3 ?_ | with_reducible refine And.intro z3 ?_ | with_reducible refine bt z4 ?_ | with_reducible refine bf z4 ?_ | with_reducible refine nt z4 ?_ | with_reducible refine nf z4 ?_ | with_reducible refine And.intro z4 ?_)
            refine ⟨vp_in_nI (by omega) (by decide), ?_⟩
            rw [nIc hj31]
            refine m_Mo_put _ _ _ ?_
            rw [d4, h3, h5, ei, em, nIc (show 60 * d + j < 2 ^ 31 by omega)]
            repeat (first | with_reducible refine bt d2 ?_ | with_reducible refine bf d2 ?_ | with_reducible refine nt d2 ?_ | with_reducible refine nf d2 ?_ | with_reducible refine And.intro d2 ?_ | with_reducible refine bt d3 ?_ | with_reducible refine bf d3 ?_ | with_reducible refine nt d3 ?_ | with_reducible refine nf d3 ?_ | with_reducible refine And.intro d3 ?_ | with_reducible refine bt dv ?_ | with_reducible refine bf dv ?_ | with_reducible refine nt dv ?_ | with_reducible refine nf dv ?_ | with_reducible refine And.intro dv ?_ | with_reducible refine bt y0 ?_ | with_reducible refine bf y0 ?_ | with_reducible refine nt y0 ?_ | with_reducible refine nf y0 ?_ | with_reducible refine And.intro y0 ?_ | with_reducible refine bt y1 ?_ | with_reducible refine bf y1 ?_ | with_reducible refine nt y1 ?_ | with_reducible refine nf y1 ?_ | with_reducible refine And.intro y1 ?_ | with_reducible refine bt neg ?_ | with_reducible refine bf neg ?_ | with_reducible refine nt neg ?_ | with_reducible refine nf neg ?_ | with_reducible refine And.intro neg ?_ | with_reducible refine bt m1 ?_ | with_reducible refine bf m1 ?_ | with_reducible refine nt m1 ?_ | with_reducible refine nf m1 ?_ | with_reducible refine And.intro m1 ?_ | with_reducible refine bt z0 ?_ | with_reducible refine bf z0 ?_ | with_reducible refine nt z0 ?_ | with_reducible refine nf z0 ?_ | with_reducible refine And.intro z0 ?_ | with_reducible refine bt z1 ?_ | with_reducible refine bf z1 ?_ | with_reducible refine nt z1 ?_ | with_reducible refine nf z1 ?_ | with_reducible refine And.intro z1 ?_ | with_reducible refine bt z2 ?_ | with_reducible refine bf z2 ?_ | with_reducible refine nt z2 ?_ | with_reducible refine nf z2 ?_ | with_reducible refine And.intro z2 ?_ | with_reducible refine bt z3 ?_ | with_reducible refine bf z3 ?_ | with_reducible refine nt z3 ?_ | with_reducible refine nf z3 ?_ | with_reducible refine And.intro z3 ?_ | with_reducible refine bt z4 ?_ | with_reducible refine bf z4 ?_ | with_reducible refine nt z4 ?_ | with_reducible refine nf z4 ?_ | with_reducible refine And.intro z4 ?_)
            refine ⟨vp_in_nI (by omega) (by decide), ?_⟩
            exact fin _ (fun _ => by rw [i2l_t, Int32.toInt32_toInt64])
          · have z0 : ¬ nI 2 = (0 : Int32) := by decide
            have z1 : ¬ nI 2 = (1 : Int32) := by decide
            have z2 : nI 2 = (2 : Int32) := by decide
            have z3 : ¬ nI 2 = (3 : Int32) := by decide
            have z4 : ¬ nI 2 = (4 : Int32) := by decide
            repeat (first | with_reducible refine bt z0 ?_ | with_reducible refine bf z0 ?_ | with_reducible refine nt z0 ?_ | with_reducible refine nf z0 ?_ | with_reducible refine And.intro z0 ?_ | with_reducible refine bt z1 ?_ | with_reducible refine bf z1 ?_ | with_reducible refine nt z1 ?_ | with_reducible refine nf z1 ?_ | with_reducible refine And.intro z1 ?_ | with_reducible refine bt z2 ?_ | with_reducible refine bf z2 ?_ | with_reducible refine nt z2 ?_ | with_reducible refine nf z2 ?_ | with_reducible refine And.intro z2 ?_ | with_reducible refine bt z3 ?_ | with_reducible refine bf z3 ?_ | with_reducible refine nt z3 ?_ | with_reducible refine nf z3 ?_ | with_reducible refine And.intro z3 ?_ | with_reducible refine bt z4 ?_ | with_reducible refine bf z4 ?_ | with_reducible refine nt z4 ?_ | with_reducible refine nf z4 ?_ | with_reducible refine And.intro z4 ?_)
            refine ⟨vp_in_nI (by omega) (by decide), ?_⟩
            rw [nIc hj31]
            refine m_Mo_put _ _ _ ?_
            rw [d4, h3, h5, ei, em, nIc (show 60 * d + j < 2 ^ 31 by omega)]
            repeat (first | with_reducible refine bt d2 ?_ | with_reducible refine bf d2 ?_ | with_reducible refine nt d2 ?_ | with_reducible refine nf d2 ?_ | with_reducible refine And.intro d2 ?_ | with_reducible refine bt d3 ?_ | with_reducible refine bf d3 ?_ | with_reducible refine nt d3 ?_ | with_reducible refine nf d3 ?_ | with_reducible refine And.intro d3 ?_ | with_reducible refine bt dv ?_ | with_reducible refine bf dv ?_ | with_reducible refine nt dv ?_ | with_reducible refine nf dv ?_ | with_reducible refine And.intro dv ?_ | with_reducible refine bt y0 ?_ | with_reducible refine bf y0 ?_ | with_reducible refine nt y0 ?_ | with_reducible refine nf y0 ?_ | with_reducible refine And.intro y0 ?_ | with_reducible refine bt y1 ?_ | with_reducible refine bf y1 ?_ | with_reducible refine nt y1 ?_ | with_reducible refine nf y1 ?_ | with_reducible refine And.intro y1 ?_ | with_reducible refine bt neg ?_ | with_reducible refine bf neg ?_ | with_reducible refine nt neg ?_ | with_reducible refine nf neg ?_ | with_reducible refine And.intro neg ?_ | with_reducible refine bt m1 ?_ | with_reducible refine bf m1 ?_ | with_reducible refine nt m1 ?_ | with_reducible refine nf m1 ?_ | with_reducible refine And.intro m1 ?_ | with_reducible refine bt z0 ?_ | with_reducible refine bf z0 ?_ | with_reducible refine nt z0 ?_ | with_reducible refine nf z0 ?_ | with_reducible refine And.intro z0 ?_ | with_reducible refine bt z1 ?_ | with_reducible refine bf z1 ?_ | with_reducible refine nt z1 ?_ | with_reducible refine nf z1 ?_ | with_reducible refine And.intro z1 ?_ | with_reducible refine bt z2 ?_ | with_reducible refine bf z2 ?_ | with_reducible refine nt z2 ?_ | with_reducible refine nf z2 ?_ | with_reducible refine And.intro z2 ?_ | with_reducible refine bt z3 ?_ | with_reducible refine bf z3 ?_ | with_reducible refine nt z3 ?_ | with_reducible refine nf z3 ?_ | with_reducible refine And.intro z3 ?_ | with_reducible refine bt z4 ?_ | with_reducible refine bf z4 ?_ | with_reducible refine nt z4 ?_ | with_reducible refine nf z4 ?_ | with_reducible refine And.intro z4 ?_)
            refine ⟨vp_in_nI (by omega) (by decide), ?_⟩
            exact fin _ (fun _ => by rw [i2l_t, Int32.toInt32_toInt64])
          · have z0 : ¬ nI 3 = (0 : Int32) := by decide
            have z1 : ¬ nI 3 = (1 : Int32) := by decide
            have z2 : ¬ nI 3 = (2 : Int32) := by decide
            have z3 : nI 3 = (3 : Int32) := by decide
            have z4 : ¬ nI 3 = (4 : Int32) := by decide
            repeat (first | with_reducible refine bt z0 ?_ | with_reducible refine bf z0 ?_ | with_reducible refine nt z0 ?_ | with_reducible refine nf z0 ?_ | with_reducible refine And.intro z0 ?_ | with_reducible refine bt z1 ?_ | with_reducible refine bf z1 ?_ | with_reducible refine nt z1 ?_ | with_reducible refine nf z1 ?_ | with_reducible refine And.intro z1 ?_ | with_reducible refine bt z2 ?_ | with_reducible refine bf z2 ?_ | with_reducible refine nt z2 ?_ | with_reducible refine nf z2 ?_ | with_reducible refine And.intro z2 ?_ | with_reducible refine bt z3 ?_ | with_reducible refine bf z3 ?_ | with_reducible refine nt z3 ?_ | with_reducible refine nf z3 ?_ | with_reducible refine And.intro z3 ?_ | with_reducible refine bt z4 ?_ | with_reducible refine bf z4 ?_ | with_reducible refine nt z4 ?_ | with_reducible refine nf z4 ?_ | with_reducible refine And.intro z4 ?_)
            refine ⟨vp_in_nI (by omega) (by decide), ?_⟩
            rw [nIc hj31]
            refine m_Mo_put _ _ _ ?_
            rw [d4, h3, h5, ei, em, nIc (show 60 * d + j < 2 ^ 31 by omega)]
            repeat (first | with_reducible refine bt d2 ?_ | with_reducible refine bf d2 ?_ | with_reducible refine nt d2 ?_ | with_reducible refine nf d2 ?_ | with_reducible refine And.intro d2 ?_ | with_reducible refine bt d3 ?_ | with_reducible refine bf d3 ?_ | with_reducible refine nt d3 ?_ | with_reducible refine nf d3 ?_ | with_reducible refine And.intro d3 ?_ | with_reducible refine bt dv ?_ | with_reducible refine bf dv ?_ | with_reducible refine nt dv ?_ | with_reducible refine nf dv ?_ | with_reducible refine And.intro dv ?_ | with_reducible refine bt y0 ?_ | with_reducible refine bf y0 ?_ | with_reducible refine nt y0 ?_ | with_reducible refine nf y0 ?_ | with_reducible refine And.intro y0 ?_ | with_reducible refine bt y1 ?_ | with_reducible refine bf y1 ?_ | with_reducible refine nt y1 ?_ | with_reducible refine nf y1 ?_ | with_reducible refine And.intro y1 ?_ | with_reducible refine bt neg ?_ | with_reducible refine bf neg ?_ | with_reducible refine nt neg ?_ | with_reducible refine nf neg ?_ | with_reducible refine And.intro neg ?_ | with_reducible refine bt m1 ?_ | with_reducible refine bf m1 ?_ | with_reducible refine nt m1 ?_ | with_reducible refine nf m1 ?_ | with_reducible refine And.intro m1 ?_ | with_reducible refine bt z0 ?_ | with_reducible refine bf z0 ?_ | with_reducible refine nt z0 ?_ | with_reducible refine nf z0 ?_ | with_reducible refine And.intro z0 ?_ | with_reducible refine bt z1 ?_ | with_reducible refine bf z1 ?_ | with_reducible refine nt z1 ?_ | with_reducible refine nf z1 ?_ | with_reducible refine And.intro z1 ?_ | with_reducible refine bt z2 ?_ | with_reducible refine bf z2 ?_ | with_reducible refine nt z2 ?_ | with_reducible refine nf z2 ?_ | with_reducible refine And.intro z2 ?_ | with_reducible refine bt z3 ?_ | with_reducible refine bf z3 ?_ | with_reducible refine nt z3 ?_ | with_reducible refine nf z3 ?_ | with_reducible refine And.intro z3 ?_ | with_reducible refine bt z4 ?_ | with_reducible refine bf z4 ?_ | with_reducible refine nt z4 ?_ | with_reducible refine nf z4 ?_ | with_reducible refine And.intro z4 ?_)
            refine ⟨vp_in_nI (by omega) (by decide), ?_⟩
            exact fin _ (fun c => absurd rfl c)
          · have z0 : ¬ nI 4 = (0 : Int32) := by decide
            have z1 : ¬ nI 4 = (1 : Int32) := by decide
            have z2 : ¬ nI 4 = (2 : Int32) := by decide
            have z3 : ¬ nI 4 = (3 : Int32) := by decide
            have z4 : nI 4 = (4 : Int32) := by decide
            by_cases cz : lg_cmp a3 (0 : Int64) = 0
            · repeat (first | with_reducible refine bt z0 ?_ | with_reducible refine bf z0 ?_ | with_reducible refine nt z0 ?_ | with_reducible refine nf z0 ?_ | with_reducible refine And.intro z0 ?_ | with_reducible refine bt z1 ?_ | with_reducible refine bf z1 ?_ | with_reducible refine nt z1 ?_ | with_reducible refine nf z1 ?_ | with_reducible refine And.intro z1 ?_ | with_reducible refine bt z2 ?_ | with_reducible refine bf z2 ?_ | with_reducible refine nt z2 ?_ | with_reducible refine nf z2 ?_ | with_reducible refine And.intro z2 ?_ | with_reducible refine bt z3 ?_ | with_reducible refine bf z3 ?_ | with_reducible refine nt z3 ?_ | with_reducible refine nf z3 ?_ | with_reducible refine And.intro z3 ?_ | with_reducible refine bt z4 ?_ | with_reducible refine bf z4 ?_ | with_reducible refine nt z4 ?_ | with_reducible refine nf z4 ?_ | with_reducible refine And.intro z4 ?_ | with_reducible refine bt cz ?_ | with_reducible refine bf cz ?_ | with_reducible refine nt cz ?_ | with_reducible refine nf cz ?_ | with_reducible refine And.intro cz ?_)
              refine ⟨vp_in_nI (by omega) (by decide), ?_⟩
              rw [nIc hj31]
              refine m_Mo_put _ _ _ ?_
              rw [d4, h3, h5, ei, em, nIc (show 60 * d + j < 2 ^ 31 by omega)]
              repeat (first | with_reducible refine bt d2 ?_ | with_reducible refine bf d2 ?_ | with_reducible refine nt d2 ?_ | with_reducible refine nf d2 ?_ | with_reducible refine And.intro d2 ?_ | with_reducible refine bt d3 ?_ | with_reducible refine bf d3 ?_ | with_reducible refine nt d3 ?_ | with_reducible refine nf d3 ?_ | with_reducible refine And.intro d3 ?_ | with_reducible refine bt dv ?_ | with_reducible refine bf dv ?_ | with_reducible refine nt dv ?_ | with_reducible refine nf dv ?_ | with_reducible refine And.intro dv ?_ | with_reducible refine bt y0 ?_ | with_reducible refine bf y0 ?_ | with_reducible refine nt y0 ?_ | with_reducible refine nf y0 ?_ | with_reducible refine And.intro y0 ?_ | with_reducible refine bt y1 ?_ | with_reducible refine bf y1 ?_ | with_reducible refine nt y1 ?_ | with_reducible refine nf y1 ?_ | with_reducible refine And.intro y1 ?_ | with_reducible refine bt neg ?_ | with_reducible refine bf neg ?_ | with_reducible refine nt neg ?_ | with_reducible refine nf neg ?_ | with_reducible refine And.intro neg ?_ | with_reducible refine bt m1 ?_ | with_reducible refine bf m1 ?_ | with_reducible refine nt m1 ?_ | with_reducible refine nf m1 ?_ | with_reducible refine And.intro m1 ?_ | with_reducible refine bt z0 ?_ | with_reducible refine bf z0 ?_ | with_reducible refine nt z0 ?_ | with_reducible refine nf z0 ?_ | with_reducible refine And.intro z0 ?_ | with_reducible refine bt z1 ?_ | with_reducible refine bf z1 ?_ | with_reducible refine nt z1 ?_ | with_reducible refine nf z1 ?_ | with_reducible refine And.intro z1 ?_ | with_reducible refine bt z2 ?_ | with_reducible refine bf z2 ?_ | with_reducible refine nt z2 ?_ | with_reducible refine nf z2 ?_ | with_reducible refine And.intro z2 ?_ | with_reducible refine bt z3 ?_ | with_reducible refine bf z3 ?_ | with_reducible refine nt z3 ?_ | with_reducible refine nf z3 ?_ | with_reducible refine And.intro z3 ?_ | with_reducible refine bt z4 ?_ | with_reducible refine bf z4 ?_ | with_reducible refine nt z4 ?_ | with_reducible refine nf z4 ?_ | with_reducible refine And.intro z4 ?_ | with_reducible refine bt cz ?_ | with_reducible refine bf cz ?_ | with_reducible refine nt cz ?_ | with_reducible refine nf cz ?_ | with_reducible refine And.intro cz ?_)
              refine ⟨vp_in_nI (by omega) (by decide), ?_⟩
              exact fin 0 (fun _ => by decide)
            · repeat (first | with_reducible refine bt z0 ?_ | with_reducible refine bf z0 ?_ | with_reducible refine nt z0 ?_ | with_reducible refine nf z0 ?_ | with_reducible refine And.intro z0 ?_ | with_reducible refine bt z1 ?_ | with_reducible refine bf z1 ?_ | with_reducible refine nt z1 ?_ | with_reducible refine nf z1 ?_ | with_reducible refine And.intro z1 ?_ | with_reducible refine bt z2 ?_ | with_reducible refine bf z2 ?_ | with_reducible refine nt z2 ?_ | with_reducible refine nf z2 ?_ | with_reducible refine And.intro z2 ?_ | with_reducible refine bt z3 ?_ | with_reducible refine bf z3 ?_ | with_reducible refine nt z3 ?_ | with_reducible refine nf z3 ?_ | with_reducible refine And.intro z3 ?_ | with_reducible refine bt z4 ?_ | with_reducible refine bf z4 ?_ | with_reducible refine nt z4 ?_ | with_reducible refine nf z4 ?_ | with_reducible refine And.intro z4 ?_ | with_reducible refine bt cz ?_ | with_reducible refine bf cz ?_ | with_reducible refine nt cz ?_ | with_reducible refine nf cz ?_ | with_reducible refine And.intro cz ?_)
              refine ⟨vp_in_nI (by omega) (by decide), ?_⟩
              rw [nIc hj31]
              refine m_Mo_put _ _ _ ?_
              rw [d4, h3, h5, ei, em, nIc (show 60 * d + j < 2 ^ 31 by omega)]
              repeat (first | with_reducible refine bt d2 ?_ | with_reducible refine bf d2 ?_ | with_reducible refine nt d2 ?_ | with_reducible refine nf d2 ?_ | with_reducible refine And.intro d2 ?_ | with_reducible refine bt d3 ?_ | with_reducible refine bf d3 ?_ | with_reducible refine nt d3 ?_ | with_reducible refine nf d3 ?_ | with_reducible refine And.intro d3 ?_ | with_reducible refine bt dv ?_ | with_reducible refine bf dv ?_ | with_reducible refine nt dv ?_ | with_reducible refine nf dv ?_ | with_reducible refine And.intro dv ?_ | with_reducible refine bt y0 ?_ | with_reducible refine bf y0 ?_ | with_reducible refine nt y0 ?_ | with_reducible refine nf y0 ?_ | with_reducible refine And.intro y0 ?_ | with_reducible refine bt y1 ?_ | with_reducible refine bf y1 ?_ | with_reducible refine nt y1 ?_ | with_reducible refine nf y1 ?_ | with_reducible refine And.intro y1 ?_ | with_reducible refine bt neg ?_ | with_reducible refine bf neg ?_ | with_reducible refine nt neg ?_ | with_reducible refine nf neg ?_ | with_reducible refine And.intro neg ?_ | with_reducible refine bt m1 ?_ | with_reducible refine bf m1 ?_ | with_reducible refine nt m1 ?_ | with_reducible refine nf m1 ?_ | with_reducible refine And.intro m1 ?_ | with_reducible refine bt z0 ?_ | with_reducible refine bf z0 ?_ | with_reducible refine nt z0 ?_ | with_reducible refine nf z0 ?_ | with_reducible refine And.intro z0 ?_ | with_reducible refine bt z1 ?_ | with_reducible refine bf z1 ?_ | with_reducible refine nt z1 ?_ | with_reducible refine nf z1 ?_ | with_reducible refine And.intro z1 ?_ | with_reducible refine bt z2 ?_ | with_reducible refine bf z2 ?_ | with_reducible refine nt z2 ?_ | with_reducible refine nf z2 ?_ | with_reducible refine And.intro z2 ?_ | with_reducible refine bt z3 ?_ | with_reducible refine bf z3 ?_ | with_reducible refine nt z3 ?_ | with_reducible refine nf z3 ?_ | with_reducible refine And.intro z3 ?_ | with_reducible refine bt z4 ?_ | with_reducible refine bf z4 ?_ | with_reducible refine nt z4 ?_ | with_reducible refine nf z4 ?_ | with_reducible refine And.intro z4 ?_ | with_reducible refine bt cz ?_ | with_reducible refine bf cz ?_ | with_reducible refine nt cz ?_ | with_reducible refine nf cz ?_ | with_reducible refine And.intro cz ?_)
              refine ⟨vp_in_nI (by omega) (by decide), ?_⟩
              exact fin 1 (fun _ => by decide)
        · by_cases c1 : len < j
          · repeat (first | with_reducible refine bt c1 ?_ | with_reducible refine bf c1 ?_ | with_reducible refine nt c1 ?_ | with_reducible refine nf c1 ?_ | with_reducible refine And.intro c1 ?_)
            exact out c2
          · repeat (first | with_reducible refine bt c1 ?_ | with_reducible refine bf c1 ?_ | with_reducible refine nt c1 ?_ | with_reducible refine nf c1 ?_ | with_reducible refine And.intro c1 ?_ | with_reducible refine bt c2 ?_ | with_reducible refine bf c2 ?_ | with_reducible refine nt c2 ?_ | with_reducible refine nf c2 ?_ | with_reducible refine And.intro c2 ?_)
            exact out c2
  · have hm : pm_R (D + 200) M_Mo_put [.ref 55, .int a1, .int a2, .long a3] H (pm_i fun y H2 => K (-1) y H2) := by
      refine m_Mo_put _ _ _ ?_
      try rw [hM.2.1]
      ((try (simp only [lgl, lgg, i2l_t, u32_0, u64_0, u32_1, u64_1, u32_2, u64_2, u32_3, u64_3, u32_4, u64_4, u32_5, u64_5, u32_7, u64_7, u32_12, u64_12, u32_24, u64_24, u32_30, u64_30, u32_49, u64_49, u32_60, u64_60, u32_99, u64_99, u32_255, u64_255, u32_999, u64_999, en])); (try (simp only [t_lt, t_le, u32_0, u64_0, u32_1, u64_1, u32_2, u64_2, u32_3, u64_3, u32_4, u64_4, u32_5, u64_5, u32_7, u64_7, u32_12, u64_12, u32_24, u64_24, u32_30, u64_30, u32_49, u64_49, u32_60, u64_60, u32_99, u64_99, u32_255, u64_255, u32_999, u64_999, en])); repeat' (first | with_reducible intro hh | with_reducible apply And.intro | exact vp_in_iff.mpr (by omega) | (exfalso; omega) | exact kk _ _ hR1))
    refine m_PW_put _ _ _ ?_
    try rw [hC.2.1]
    ((try (simp only [lgl, lgg, i2l_t, u32_0, u64_0, u32_1, u64_1, u32_2, u64_2, u32_3, u64_3, u32_4, u64_4, u32_5, u64_5, u32_7, u64_7, u32_12, u64_12, u32_24, u64_24, u32_30, u64_30, u32_49, u64_49, u32_60, u64_60, u32_99, u64_99, u32_255, u64_255, u32_999, u64_999, en])); (try (simp only [t_lt, t_le, u32_0, u64_0, u32_1, u64_1, u32_2, u64_2, u32_3, u64_3, u32_4, u64_4, u32_5, u64_5, u32_7, u64_7, u32_12, u64_12, u32_24, u64_24, u32_30, u64_30, u32_49, u64_49, u32_60, u64_60, u32_99, u64_99, u32_255, u64_255, u32_999, u64_999, en])); repeat' (first | with_reducible intro hh | with_reducible apply And.intro | exact vp_in_iff.mpr (by omega) | (exfalso; omega) | exact hm))
