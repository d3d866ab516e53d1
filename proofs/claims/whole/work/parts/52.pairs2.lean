/-! calls in pairs: plans, what was heard -/
theorem W_pln_min {n : Nat} {g : Nat → Int} : ∀ (m k m' : Nat), m ≤ m' → W_pln n g m k = min m (W_pln n g m' k)
  | 0, k, m', h => by rw [Nat.zero_min]; rfl
  | m + 1, k, m' + 1, h => by
    have ih := W_pln_min (n := n) (g := g) m (k + 1) m' (by omega)
    unfold W_pln
    by_cases c : W_ok n (g k) = true
    · rw [if_pos c, if_pos c, ih]; omega
    · rw [if_neg c, if_neg c]; omega
theorem min60 {len : Nat} (h : len ≤ 60) : min len 60 = len := by omega
theorem ok0 {n len : Nat} {g : Nat → Int} : ∀ j, j < W_pln n g len 0 → W_ok n (g j) = true := fun j hj => by
  have := W_pln_ok (n := n) (g := g) len 0 j hj
  rw [Nat.zero_add] at this
  exact this
theorem p_plan {D t : Nat} {H : pmT} {K : Int32 → Int32 → pmT → Prop} (a1 a2 a3 : Int32) (hR : Rel t H) (ht : t ≤ 1000) (kk : ∀ x H', Rel (t + 1) H' → K x x H') : pm_R (D + 200) M_PW_plan [.ref 0, .int a1, .int a2, .int a3] H (pm_i fun x H1 => pm_R (D + 200) M_Mo_plan [.ref 55, .int a1, .int a2, .int a3] H1 (pm_i fun y H2 => K x y H2)) := by
  obtain ⟨hb, L, n, now, m, hN, hT, hD⟩ := id hR
  have hC := hN.cs ht
  have hM := hN.ms ht
  have hn12 := hC.2.2.1
  have hB := hT.2.2.2.1
  have hSh := hT.2.2.2.2.2.1
  have en : (nI n - (1 : Int32)).toInt = (n : Int) - 1 := nm1_t (by omega)
  have hR1 : Rel (t + 1) H := hR.mono (Nat.le_succ _)
  by_cases hok : (0 ≤ a1.toInt ∧ a1.toInt ≤ 5) ∧ (0 ≤ a2.toInt ∧ a2.toInt < n) ∧ (0 ≤ a3.toInt ∧ a3.toInt ≤ 1)
  · obtain ⟨⟨p1, p2⟩, ⟨p3, p4⟩, p5, p6⟩ := hok
    obtain ⟨d, _, rfl, ed⟩ := nI_tI a1 p1
    obtain ⟨b, _, rfl, eb⟩ := nI_tI a2 p3
    obtain ⟨w, _, rfl, ew⟩ := nI_tI a3 p5
    have hd : d < 6 := by omega
    have hbb : b < n := by omega
    have d0 : ¬ nI d < (0 : Int32) := nI_pos (by omega)
    have d1 : nI d ≤ (5 : Int32) := nI_le (show d ≤ 5 by omega) (by decide)
    have d2 : ¬ lg_cmp (nI d).toInt64 (0 : Int64) < 0 := l_0 (by omega)
    have d3 : ¬ 0 < lg_cmp (nI d).toInt64 (5 : Int64) := l_c (by omega) (by show (d : Int) ≤ 5; omega)
    have d4 : (nI d).toNatClampNeg = d := nIc (by omega)
    have b0 : ¬ nI b < (0 : Int32) := nI_pos (by omega)
    have b1 : nI b ≤ nI n - (1 : Int32) := le_pred hbb (by omega)
    have b2 : ¬ lg_cmp (nI b).toInt64 (0 : Int64) < 0 := l_0 (by omega)
    have b3 : ¬ 0 < lg_cmp (nI b).toInt64 ((nI n - (1 : Int32)).toInt64) := l_n hbb (by omega)
    have b4 : (nI b).toNatClampNeg = b := nIc (by omega)
    have b5 : vp_in (nI b) 12 := vp_in_nI (by omega) (by decide)
    have w0 : ¬ nI w < (0 : Int32) := nI_pos (by omega)
    have w1 : nI w ≤ (1 : Int32) := nI_le (show w ≤ 1 by omega) (by decide)
    have w2 : ¬ lg_cmp (nI w).toInt64 (0 : Int64) < 0 := l_0 (by omega)
    have w3 : ¬ 0 < lg_cmp (nI w).toInt64 (1 : Int64) := l_c (by omega) (by show (w : Int) ≤ 1; omega)
    have w4 : (nI w).toNatClampNeg = w := nIc (by omega)
    have ew0 : (nI w = (0 : Int32)) = (w = 0) := i_eq w 0 (by omega) (by decide)
    have dv : vp_in (nI d) 6 := vp_in_nI hd (by decide)
    rcases bytes_cases hB.1 hd (hSh d hd) with ⟨x0, x1, y0⟩ | ⟨x0, x1, y0, y1⟩ | ⟨x0, x1, x2, y0, y1⟩ | ⟨x0, x1, x2, y0, y1, len, hG, hG'⟩
    · refine m_PW_plan _ _ _ ?_
      rw [d4]
      try rw [hC.2.1]
      repeat (first | with_reducible refine bt b0 ?_ | with_reducible refine bf b0 ?_ | with_reducible refine nt b0 ?_ | with_reducible refine nf b0 ?_ | with_reducible refine And.intro b0 ?_ | with_reducible refine bt b1 ?_ | with_reducible refine bf b1 ?_ | with_reducible refine nt b1 ?_ | with_reducible refine nf b1 ?_ | with_reducible refine And.intro b1 ?_ | with_reducible refine bt w0 ?_ | with_reducible refine bf w0 ?_ | with_reducible refine nt w0 ?_ | with_reducible refine nf w0 ?_ | with_reducible refine And.intro w0 ?_ | with_reducible refine bt w1 ?_ | with_reducible refine bf w1 ?_ | with_reducible refine nt w1 ?_ | with_reducible refine nf w1 ?_ | with_reducible refine And.intro w1 ?_ | with_reducible refine bt b2 ?_ | with_reducible refine bf b2 ?_ | with_reducible refine nt b2 ?_ | with_reducible refine nf b2 ?_ | with_reducible refine And.intro b2 ?_ | with_reducible refine bt b3 ?_ | with_reducible refine bf b3 ?_ | with_reducible refine nt b3 ?_ | with_reducible refine nf b3 ?_ | with_reducible refine And.intro b3 ?_ | with_reducible refine bt w2 ?_ | with_reducible refine bf w2 ?_ | with_reducible refine nt w2 ?_ | with_reducible refine nf w2 ?_ | with_reducible refine And.intro w2 ?_ | with_reducible refine bt w3 ?_ | with_reducible refine bf w3 ?_ | with_reducible refine nt w3 ?_ | with_reducible refine nf w3 ?_ | with_reducible refine And.intro w3 ?_ | with_reducible refine bt d0 ?_ | with_reducible refine bf d0 ?_ | with_reducible refine nt d0 ?_ | with_reducible refine nf d0 ?_ | with_reducible refine And.intro d0 ?_ | with_reducible refine bt d1 ?_ | with_reducible refine bf d1 ?_ | with_reducible refine nt d1 ?_ | with_reducible refine nf d1 ?_ | with_reducible refine And.intro d1 ?_ | with_reducible refine bt dv ?_ | with_reducible refine bf dv ?_ | with_reducible refine nt dv ?_ | with_reducible refine nf dv ?_ | with_reducible refine And.intro dv ?_ | with_reducible refine bt x0 ?_ | with_reducible refine bf x0 ?_ | with_reducible refine nt x0 ?_ | with_reducible refine nf x0 ?_ | with_reducible refine And.intro x0 ?_ | with_reducible refine bt x1 ?_ | with_reducible refine bf x1 ?_ | with_reducible refine nt x1 ?_ | with_reducible refine nf x1 ?_ | with_reducible refine And.intro x1 ?_ | with_reducible refine bt x2 ?_ | with_reducible refine bf x2 ?_ | with_reducible refine nt x2 ?_ | with_reducible refine nf x2 ?_ | with_reducible refine And.intro x2 ?_)
      refine m_Mo_plan _ _ _ ?_
      rw [d4]
      try rw [hM.2.1]
      repeat (first | with_reducible refine bt b0 ?_ | with_reducible refine bf b0 ?_ | with_reducible refine nt b0 ?_ | with_reducible refine nf b0 ?_ | with_reducible refine And.intro b0 ?_ | with_reducible refine bt b1 ?_ | with_reducible refine bf b1 ?_ | with_reducible refine nt b1 ?_ | with_reducible refine nf b1 ?_ | with_reducible refine And.intro b1 ?_ | with_reducible refine bt w0 ?_ | with_reducible refine bf w0 ?_ | with_reducible refine nt w0 ?_ | with_reducible refine nf w0 ?_ | with_reducible refine And.intro w0 ?_ | with_reducible refine bt w1 ?_ | with_reducible refine bf w1 ?_ | with_reducible refine nt w1 ?_ | with_reducible refine nf w1 ?_ | with_reducible refine And.intro w1 ?_ | with_reducible refine bt b2 ?_ | with_reducible refine bf b2 ?_ | with_reducible refine nt b2 ?_ | with_reducible refine nf b2 ?_ | with_reducible refine And.intro b2 ?_ | with_reducible refine bt b3 ?_ | with_reducible refine bf b3 ?_ | with_reducible refine nt b3 ?_ | with_reducible refine nf b3 ?_ | with_reducible refine And.intro b3 ?_ | with_reducible refine bt w2 ?_ | with_reducible refine bf w2 ?_ | with_reducible refine nt w2 ?_ | with_reducible refine nf w2 ?_ | with_reducible refine And.intro w2 ?_ | with_reducible refine bt w3 ?_ | with_reducible refine bf w3 ?_ | with_reducible refine nt w3 ?_ | with_reducible refine nf w3 ?_ | with_reducible refine And.intro w3 ?_ | with_reducible refine bt d2 ?_ | with_reducible refine bf d2 ?_ | with_reducible refine nt d2 ?_ | with_reducible refine nf d2 ?_ | with_reducible refine And.intro d2 ?_ | with_reducible refine bt d3 ?_ | with_reducible refine bf d3 ?_ | with_reducible refine nt d3 ?_ | with_reducible refine nf d3 ?_ | with_reducible refine And.intro d3 ?_ | with_reducible refine bt dv ?_ | with_reducible refine bf dv ?_ | with_reducible refine nt dv ?_ | with_reducible refine nf dv ?_ | with_reducible refine And.intro dv ?_ | with_reducible refine bt y0 ?_ | with_reducible refine bf y0 ?_ | with_reducible refine nt y0 ?_ | with_reducible refine nf y0 ?_ | with_reducible refine And.intro y0 ?_ | with_reducible refine bt y1 ?_ | with_reducible refine bf y1 ?_ | with_reducible refine nt y1 ?_ | with_reducible refine nf y1 ?_ | with_reducible refine And.intro y1 ?_)
      exact kk _ _ hR1
    · refine m_PW_plan _ _ _ ?_
      rw [d4]
      try rw [hC.2.1]
      repeat (first | with_reducible refine bt b0 ?_ | with_reducible refine bf b0 ?_ | with_reducible refine nt b0 ?_ | with_reducible refine nf b0 ?_ | with_reducible refine And.intro b0 ?_ | with_reducible refine bt b1 ?_ | with_reducible refine bf b1 ?_ | with_reducible refine nt b1 ?_ | with_reducible refine nf b1 ?_ | with_reducible refine And.intro b1 ?_ | with_reducible refine bt w0 ?_ | with_reducible refine bf w0 ?_ | with_reducible refine nt w0 ?_ | with_reducible refine nf w0 ?_ | with_reducible refine And.intro w0 ?_ | with_reducible refine bt w1 ?_ | with_reducible refine bf w1 ?_ | with_reducible refine nt w1 ?_ | with_reducible refine nf w1 ?_ | with_reducible refine And.intro w1 ?_ | with_reducible refine bt b2 ?_ | with_reducible refine bf b2 ?_ | with_reducible refine nt b2 ?_ | with_reducible refine nf b2 ?_ | with_reducible refine And.intro b2 ?_ | with_reducible refine bt b3 ?_ | with_reducible refine bf b3 ?_ | with_reducible refine nt b3 ?_ | with_reducible refine nf b3 ?_ | with_reducible refine And.intro b3 ?_ | with_reducible refine bt w2 ?_ | with_reducible refine bf w2 ?_ | with_reducible refine nt w2 ?_ | with_reducible refine nf w2 ?_ | with_reducible refine And.intro w2 ?_ | with_reducible refine bt w3 ?_ | with_reducible refine bf w3 ?_ | with_reducible refine nt w3 ?_ | with_reducible refine nf w3 ?_ | with_reducible refine And.intro w3 ?_ | with_reducible refine bt d0 ?_ | with_reducible refine bf d0 ?_ | with_reducible refine nt d0 ?_ | with_reducible refine nf d0 ?_ | with_reducible refine And.intro d0 ?_ | with_reducible refine bt d1 ?_ | with_reducible refine bf d1 ?_ | with_reducible refine nt d1 ?_ | with_reducible refine nf d1 ?_ | with_reducible refine And.intro d1 ?_ | with_reducible refine bt dv ?_ | with_reducible refine bf dv ?_ | with_reducible refine nt dv ?_ | with_reducible refine nf dv ?_ | with_reducible refine And.intro dv ?_ | with_reducible refine bt x0 ?_ | with_reducible refine bf x0 ?_ | with_reducible refine nt x0 ?_ | with_reducible refine nf x0 ?_ | with_reducible refine And.intro x0 ?_ | with_reducible refine bt x1 ?_ | with_reducible refine bf x1 ?_ | with_reducible refine nt x1 ?_ | with_reducible refine nf x1 ?_ | with_reducible refine And.intro x1 ?_ | with_reducible refine bt x2 ?_ | with_reducible refine bf x2 ?_ | with_reducible refine nt x2 ?_ | with_reducible refine nf x2 ?_ | with_reducible refine And.intro x2 ?_)
      refine m_Mo_plan _ _ _ ?_
      rw [d4]
      try rw [hM.2.1]
      repeat (first | with_reducible refine bt b0 ?_ | with_reducible refine bf b0 ?_ | with_reducible refine nt b0 ?_ | with_reducible refine nf b0 ?_ | with_reducible refine And.intro b0 ?_ | with_reducible refine bt b1 ?_ | with_reducible refine bf b1 ?_ | with_reducible refine nt b1 ?_ | with_reducible refine nf b1 ?_ | with_reducible refine And.intro b1 ?_ | with_reducible refine bt w0 ?_ | with_reducible refine bf w0 ?_ | with_reducible refine nt w0 ?_ | with_reducible refine nf w0 ?_ | with_reducible refine And.intro w0 ?_ | with_reducible refine bt w1 ?_ | with_reducible refine bf w1 ?_ | with_reducible refine nt w1 ?_ | with_reducible refine nf w1 ?_ | with_reducible refine And.intro w1 ?_ | with_reducible refine bt b2 ?_ | with_reducible refine bf b2 ?_ | with_reducible refine nt b2 ?_ | with_reducible refine nf b2 ?_ | with_reducible refine And.intro b2 ?_ | with_reducible refine bt b3 ?_ | with_reducible refine bf b3 ?_ | with_reducible refine nt b3 ?_ | with_reducible refine nf b3 ?_ | with_reducible refine And.intro b3 ?_ | with_reducible refine bt w2 ?_ | with_reducible refine bf w2 ?_ | with_reducible refine nt w2 ?_ | with_reducible refine nf w2 ?_ | with_reducible refine And.intro w2 ?_ | with_reducible refine bt w3 ?_ | with_reducible refine bf w3 ?_ | with_reducible refine nt w3 ?_ | with_reducible refine nf w3 ?_ | with_reducible refine And.intro w3 ?_ | with_reducible refine bt d2 ?_ | with_reducible refine bf d2 ?_ | with_reducible refine nt d2 ?_ | with_reducible refine nf d2 ?_ | with_reducible refine And.intro d2 ?_ | with_reducible refine bt d3 ?_ | with_reducible refine bf d3 ?_ | with_reducible refine nt d3 ?_ | with_reducible refine nf d3 ?_ | with_reducible refine And.intro d3 ?_ | with_reducible refine bt dv ?_ | with_reducible refine bf dv ?_ | with_reducible refine nt dv ?_ | with_reducible refine nf dv ?_ | with_reducible refine And.intro dv ?_ | with_reducible refine bt y0 ?_ | with_reducible refine bf y0 ?_ | with_reducible refine nt y0 ?_ | with_reducible refine nf y0 ?_ | with_reducible refine And.intro y0 ?_ | with_reducible refine bt y1 ?_ | with_reducible refine bf y1 ?_ | with_reducible refine nt y1 ?_ | with_reducible refine nf y1 ?_ | with_reducible refine And.intro y1 ?_)
      exact kk _ _ hR1
    · refine m_PW_plan _ _ _ ?_
      rw [d4]
      try rw [hC.2.1]
      repeat (first | with_reducible refine bt b0 ?_ | with_reducible refine bf b0 ?_ | with_reducible refine nt b0 ?_ | with_reducible refine nf b0 ?_ | with_reducible refine And.intro b0 ?_ | with_reducible refine bt b1 ?_ | with_reducible refine bf b1 ?_ | with_reducible refine nt b1 ?_ | with_reducible refine nf b1 ?_ | with_reducible refine And.intro b1 ?_ | with_reducible refine bt w0 ?_ | with_reducible refine bf w0 ?_ | with_reducible refine nt w0 ?_ | with_reducible refine nf w0 ?_ | with_reducible refine And.intro w0 ?_ | with_reducible refine bt w1 ?_ | with_reducible refine bf w1 ?_ | with_reducible refine nt w1 ?_ | with_reducible refine nf w1 ?_ | with_reducible refine And.intro w1 ?_ | with_reducible refine bt b2 ?_ | with_reducible refine bf b2 ?_ | with_reducible refine nt b2 ?_ | with_reducible refine nf b2 ?_ | with_reducible refine And.intro b2 ?_ | with_reducible refine bt b3 ?_ | with_reducible refine bf b3 ?_ | with_reducible refine nt b3 ?_ | with_reducible refine nf b3 ?_ | with_reducible refine And.intro b3 ?_ | with_reducible refine bt w2 ?_ | with_reducible refine bf w2 ?_ | with_reducible refine nt w2 ?_ | with_reducible refine nf w2 ?_ | with_reducible refine And.intro w2 ?_ | with_reducible refine bt w3 ?_ | with_reducible refine bf w3 ?_ | with_reducible refine nt w3 ?_ | with_reducible refine nf w3 ?_ | with_reducible refine And.intro w3 ?_ | with_reducible refine bt d0 ?_ | with_reducible refine bf d0 ?_ | with_reducible refine nt d0 ?_ | with_reducible refine nf d0 ?_ | with_reducible refine And.intro d0 ?_ | with_reducible refine bt d1 ?_ | with_reducible refine bf d1 ?_ | with_reducible refine nt d1 ?_ | with_reducible refine nf d1 ?_ | with_reducible refine And.intro d1 ?_ | with_reducible refine bt dv ?_ | with_reducible refine bf dv ?_ | with_reducible refine nt dv ?_ | with_reducible refine nf dv ?_ | with_reducible refine And.intro dv ?_ | with_reducible refine bt x0 ?_ | with_reducible refine bf x0 ?_ | with_reducible refine nt x0 ?_ | with_reducible refine nf x0 ?_ | with_reducible refine And.intro x0 ?_ | with_reducible refine bt x1 ?_ | with_reducible refine bf x1 ?_ | with_reducible refine nt x1 ?_ | with_reducible refine nf x1 ?_ | with_reducible refine And.intro x1 ?_ | with_reducible refine bt x2 ?_ | with_reducible refine bf x2 ?_ | with_reducible refine nt x2 ?_ | with_reducible refine nf x2 ?_ | with_reducible refine And.intro x2 ?_)
      refine m_Mo_plan _ _ _ ?_
      rw [d4]
      try rw [hM.2.1]
      repeat (first | with_reducible refine bt b0 ?_ | with_reducible refine bf b0 ?_ | with_reducible refine nt b0 ?_ | with_reducible refine nf b0 ?_ | with_reducible refine And.intro b0 ?_ | with_reducible refine bt b1 ?_ | with_reducible refine bf b1 ?_ | with_reducible refine nt b1 ?_ | with_reducible refine nf b1 ?_ | with_reducible refine And.intro b1 ?_ | with_reducible refine bt w0 ?_ | with_reducible refine bf w0 ?_ | with_reducible refine nt w0 ?_ | with_reducible refine nf w0 ?_ | with_reducible refine And.intro w0 ?_ | with_reducible refine bt w1 ?_ | with_reducible refine bf w1 ?_ | with_reducible refine nt w1 ?_ | with_reducible refine nf w1 ?_ | with_reducible refine And.intro w1 ?_ | with_reducible refine bt b2 ?_ | with_reducible refine bf b2 ?_ | with_reducible refine nt b2 ?_ | with_reducible refine nf b2 ?_ | with_reducible refine And.intro b2 ?_ | with_reducible refine bt b3 ?_ | with_reducible refine bf b3 ?_ | with_reducible refine nt b3 ?_ | with_reducible refine nf b3 ?_ | with_reducible refine And.intro b3 ?_ | with_reducible refine bt w2 ?_ | with_reducible refine bf w2 ?_ | with_reducible refine nt w2 ?_ | with_reducible refine nf w2 ?_ | with_reducible refine And.intro w2 ?_ | with_reducible refine bt w3 ?_ | with_reducible refine bf w3 ?_ | with_reducible refine nt w3 ?_ | with_reducible refine nf w3 ?_ | with_reducible refine And.intro w3 ?_ | with_reducible refine bt d2 ?_ | with_reducible refine bf d2 ?_ | with_reducible refine nt d2 ?_ | with_reducible refine nf d2 ?_ | with_reducible refine And.intro d2 ?_ | with_reducible refine bt d3 ?_ | with_reducible refine bf d3 ?_ | with_reducible refine nt d3 ?_ | with_reducible refine nf d3 ?_ | with_reducible refine And.intro d3 ?_ | with_reducible refine bt dv ?_ | with_reducible refine bf dv ?_ | with_reducible refine nt dv ?_ | with_reducible refine nf dv ?_ | with_reducible refine And.intro dv ?_ | with_reducible refine bt y0 ?_ | with_reducible refine bf y0 ?_ | with_reducible refine nt y0 ?_ | with_reducible refine nf y0 ?_ | with_reducible refine And.intro y0 ?_ | with_reducible refine bt y1 ?_ | with_reducible refine bf y1 ?_ | with_reducible refine nt y1 ?_ | with_reducible refine nf y1 ?_ | with_reducible refine And.intro y1 ?_)
      exact kk _ _ hR1
    · refine m_PW_plan _ _ _ ?_
      rw [d4, hC.2.1]
      repeat (first | with_reducible refine bt d0 ?_ | with_reducible refine bf d0 ?_ | with_reducible refine nt d0 ?_ | with_reducible refine nf d0 ?_ | with_reducible refine And.intro d0 ?_ | with_reducible refine bt d1 ?_ | with_reducible refine bf d1 ?_ | with_reducible refine nt d1 ?_ | with_reducible refine nf d1 ?_ | with_reducible refine And.intro d1 ?_ | with_reducible refine bt dv ?_ | with_reducible refine bf dv ?_ | with_reducible refine nt dv ?_ | with_reducible refine nf dv ?_ | with_reducible refine And.intro dv ?_ | with_reducible refine bt b0 ?_ | with_reducible refine bf b0 ?_ | with_reducible refine nt b0 ?_ | with_reducible refine nf b0 ?_ | with_reducible refine And.intro b0 ?_ | with_reducible refine bt b1 ?_ | with_reducible refine bf b1 ?_ | with_reducible refine nt b1 ?_ | with_reducible refine nf b1 ?_ | with_reducible refine And.intro b1 ?_ | with_reducible refine bt w0 ?_ | with_reducible refine bf w0 ?_ | with_reducible refine nt w0 ?_ | with_reducible refine nf w0 ?_ | with_reducible refine And.intro w0 ?_ | with_reducible refine bt w1 ?_ | with_reducible refine bf w1 ?_ | with_reducible refine nt w1 ?_ | with_reducible refine nf w1 ?_ | with_reducible refine And.intro w1 ?_ | with_reducible refine bt x0 ?_ | with_reducible refine bf x0 ?_ | with_reducible refine nt x0 ?_ | with_reducible refine nf x0 ?_ | with_reducible refine And.intro x0 ?_ | with_reducible refine bt x1 ?_ | with_reducible refine bf x1 ?_ | with_reducible refine nt x1 ?_ | with_reducible refine nf x1 ?_ | with_reducible refine And.intro x1 ?_ | with_reducible refine bt x2 ?_ | with_reducible refine bf x2 ?_ | with_reducible refine nt x2 ?_ | with_reducible refine nf x2 ?_ | with_reducible refine And.intro x2 ?_)
      have hl := hG'.2.2.1
      have hwk := (W_walk_pln (hb := hb) (L := L) (n := n) (f := hb 2) (g := W_int (H.2.1 (43 + 2 * d + 1))) len 0 0 (-2) now).1
      refine c_walk (most := 60) (d := D + 194) (by decide) hC hG (fun H1 f1 e8 e0 e1 e2 hT1 => ?_)
      rw [min60 hl, hwk] at hT1
      have ref0 : ∀ x : Int32, (∀ (T : Nat → Row), (W_walk hb L n (hb 2) (W_int (H.2.1 (43 + 2 * d + 1))) (W_pln n (W_int (H.2.1 (43 + 2 * d + 1))) len 0) 0 now 0 (-2)).2.2.2 = T → x = if w = 0 then nI (T b).1 else nI (T b).2.1) → pm_R (D + 200) M_Mo_plan [.ref 55, .int (nI d), .int (nI b), .int (nI w)] H1 (pm_i fun y H2 => K x y H2) := by
        intro x hx
        have hM1 := (hN.c f1).ms ht
        refine m_Mo_plan _ _ _ ?_
        rw [d4, show H1.1 81 d = H.1 81 d from f1.1 81 d rfl, hM1.2.1]
        repeat (first | with_reducible refine bt d2 ?_ | with_reducible refine bf d2 ?_ | with_reducible refine nt d2 ?_ | with_reducible refine nf d2 ?_ | with_reducible refine And.intro d2 ?_ | with_reducible refine bt d3 ?_ | with_reducible refine bf d3 ?_ | with_reducible refine nt d3 ?_ | with_reducible refine nf d3 ?_ | with_reducible refine And.intro d3 ?_ | with_reducible refine bt dv ?_ | with_reducible refine bf dv ?_ | with_reducible refine nt dv ?_ | with_reducible refine nf dv ?_ | with_reducible refine And.intro dv ?_ | with_reducible refine bt b2 ?_ | with_reducible refine bf b2 ?_ | with_reducible refine nt b2 ?_ | with_reducible refine nf b2 ?_ | with_reducible refine And.intro b2 ?_ | with_reducible refine bt b3 ?_ | with_reducible refine bf b3 ?_ | with_reducible refine nt b3 ?_ | with_reducible refine nf b3 ?_ | with_reducible refine And.intro b3 ?_ | with_reducible refine bt w2 ?_ | with_reducible refine bf w2 ?_ | with_reducible refine nt w2 ?_ | with_reducible refine nf w2 ?_ | with_reducible refine And.intro w2 ?_ | with_reducible refine bt w3 ?_ | with_reducible refine bf w3 ?_ | with_reducible refine nt w3 ?_ | with_reducible refine nf w3 ?_ | with_reducible refine And.intro w3 ?_ | with_reducible refine bt y0 ?_ | with_reducible refine bf y0 ?_ | with_reducible refine nt y0 ?_ | with_reducible refine nf y0 ?_ | with_reducible refine And.intro y0 ?_ | with_reducible refine bt y1 ?_ | with_reducible refine bf y1 ?_ | with_reducible refine nt y1 ?_ | with_reducible refine nf y1 ?_ | with_reducible refine And.intro y1 ?_)
        refine c_planM (d := D + 196) hM1.2.1 hM1.2.2.1 (hG'.fr f1 rfl) ?_
        refine c_doesP (d := D + 125) hM1 (hG'.fr f1 rfl) (W_pln_le _ _) ok0 (fun H2 f2 ef hT2 => ?_)
        have hx := hx _ rfl
        have k1 := kk x H2 (hR.z f1 f2)
        obtain ⟨z1, z2, z3⟩ := hT2 b hbb
        rw [b4, z1, z2, ew0]
        by_cases cw : w = 0
        · first | refine bt cw ?_ | refine bf cw ?_ | refine nt cw ?_ | refine nf cw ?_
          rw [if_pos cw] at hx
          rw [← hx]
          exact ⟨b5, k1⟩
        · first | refine bt cw ?_ | refine bf cw ?_ | refine nt cw ?_ | refine nf cw ?_
          rw [if_neg cw] at hx
          rw [← hx]
          exact ⟨b5, k1⟩
      obtain ⟨z1, z2, z3⟩ := hT1 b hbb
      rw [b4, z1, z2, ew0]
      by_cases cw : w = 0
      · first | refine bt cw ?_ | refine bf cw ?_ | refine nt cw ?_ | refine nf cw ?_
        exact ⟨b5, ref0 _ (fun T eT => by rw [if_pos cw, eT])⟩
      · first | refine bt cw ?_ | refine bf cw ?_ | refine nt cw ?_ | refine nf cw ?_
        exact ⟨b5, ref0 _ (fun T eT => by rw [if_neg cw, eT])⟩
  · have hm : pm_R (D + 200) M_Mo_plan [.ref 55, .int a1, .int a2, .int a3] H (pm_i fun y H2 => K (-1) y H2) := by
      refine m_Mo_plan _ _ _ ?_
      try rw [hM.2.1]
      ((try (simp only [lgl, lgg, i2l_t, u32_0, u64_0, u32_1, u64_1, u32_2, u64_2, u32_3, u64_3, u32_4, u64_4, u32_5, u64_5, u32_7, u64_7, u32_12, u64_12, u32_24, u64_24, u32_30, u64_30, u32_49, u64_49, u32_60, u64_60, u32_99, u64_99, u32_255, u64_255, u32_999, u64_999, en])); (try (simp only [t_lt, t_le, u32_0, u64_0, u32_1, u64_1, u32_2, u64_2, u32_3, u64_3, u32_4, u64_4, u32_5, u64_5, u32_7, u64_7, u32_12, u64_12, u32_24, u64_24, u32_30, u64_30, u32_49, u64_49, u32_60, u64_60, u32_99, u64_99, u32_255, u64_255, u32_999, u64_999, en])); repeat' (first | with_reducible intro hh | with_reducible apply And.intro | exact vp_in_iff.mpr (by omega) | (exfalso; omega) | exact kk _ _ hR1))
    refine m_PW_plan _ _ _ ?_
    try rw [hC.2.1]
    ((try (simp only [lgl, lgg, i2l_t, u32_0, u64_0, u32_1, u64_1, u32_2, u64_2, u32_3, u64_3, u32_4, u64_4, u32_5, u64_5, u32_7, u64_7, u32_12, u64_12, u32_24, u64_24, u32_30, u64_30, u32_49, u64_49, u32_60, u64_60, u32_99, u64_99, u32_255, u64_255, u32_999, u64_999, en])); (try (simp only [t_lt, t_le, u32_0, u64_0, u32_1, u64_1, u32_2, u64_2, u32_3, u64_3, u32_4, u64_4, u32_5, u64_5, u32_7, u64_7, u32_12, u64_12, u32_24, u64_24, u32_30, u64_30, u32_49, u64_49, u32_60, u64_60, u32_99, u64_99, u32_255, u64_255, u32_999, u64_999, en])); repeat' (first | with_reducible intro hh | with_reducible apply And.intro | exact vp_in_iff.mpr (by omega) | (exfalso; omega) | exact hm))
theorem p_came {D t : Nat} {H : pmT} {K : Int32 → Int32 → pmT → Prop} (a1 a2 : Int32) (hR : Rel t H) (ht : t ≤ 1000) (kk : ∀ x H', Rel (t + 1) H' → K x x H') : pm_R (D + 200) M_PW_came [.ref 0, .int a1, .int a2] H (pm_i fun x H1 => pm_R (D + 200) M_Mo_came [.ref 55, .int a1, .int a2] H1 (pm_i fun y H2 => K x y H2)) := by
  obtain ⟨hb, L, n, now, m, hN, hT, hD⟩ := id hR
  have hC := hN.cs ht
  have hM := hN.ms ht
  have hn12 := hC.2.2.1
  have hB := hT.2.2.2.1
  have hSh := hT.2.2.2.2.2.1
  have en : (nI n - (1 : Int32)).toInt = (n : Int) - 1 := nm1_t (by omega)
  have hR1 : Rel (t + 1) H := hR.mono (Nat.le_succ _)
  by_cases hok : (0 ≤ a1.toInt ∧ a1.toInt ≤ 5) ∧ (0 ≤ a2.toInt)
  · obtain ⟨⟨p1, p2⟩, p3⟩ := hok
    obtain ⟨d, _, rfl, ed⟩ := nI_tI a1 p1
    obtain ⟨k, hk31, rfl, ek⟩ := nI_tI a2 p3
    have hd : d < 6 := by omega
    have d0 : ¬ nI d < (0 : Int32) := nI_pos (by omega)
    have d1 : nI d ≤ (5 : Int32) := nI_le (show d ≤ 5 by omega) (by decide)
    have d2 : ¬ lg_cmp (nI d).toInt64 (0 : Int64) < 0 := l_0 (by omega)
    have d3 : ¬ 0 < lg_cmp (nI d).toInt64 (5 : Int64) := l_c (by omega) (by show (d : Int) ≤ 5; omega)
    have d4 : (nI d).toNatClampNeg = d := nIc (by omega)
    have k0 : 0 ≤ nI k := nI_pos' hk31
    have dv : vp_in (nI d) 6 := vp_in_nI hd (by decide)
    rcases bytes_cases hB.1 hd (hSh d hd) with ⟨x0, x1, y0⟩ | ⟨x0, x1, y0, y1⟩ | ⟨x0, x1, x2, y0, y1⟩ | ⟨x0, x1, x2, y0, y1, len, hG, hG'⟩
    · refine m_PW_came _ _ ?_
      rw [d4]
      try rw [hC.2.1]
      repeat (first | with_reducible refine bt k0 ?_ | with_reducible refine bf k0 ?_ | with_reducible refine nt k0 ?_ | with_reducible refine nf k0 ?_ | with_reducible refine And.intro k0 ?_ | with_reducible refine bt d0 ?_ | with_reducible refine bf d0 ?_ | with_reducible refine nt d0 ?_ | with_reducible refine nf d0 ?_ | with_reducible refine And.intro d0 ?_ | with_reducible refine bt d1 ?_ | with_reducible refine bf d1 ?_ | with_reducible refine nt d1 ?_ | with_reducible refine nf d1 ?_ | with_reducible refine And.intro d1 ?_ | with_reducible refine bt dv ?_ | with_reducible refine bf dv ?_ | with_reducible refine nt dv ?_ | with_reducible refine nf dv ?_ | with_reducible refine And.intro dv ?_ | with_reducible refine bt x0 ?_ | with_reducible refine bf x0 ?_ | with_reducible refine nt x0 ?_ | with_reducible refine nf x0 ?_ | with_reducible refine And.intro x0 ?_ | with_reducible refine bt x1 ?_ | with_reducible refine bf x1 ?_ | with_reducible refine nt x1 ?_ | with_reducible refine nf x1 ?_ | with_reducible refine And.intro x1 ?_ | with_reducible refine bt x2 ?_ | with_reducible refine bf x2 ?_ | with_reducible refine nt x2 ?_ | with_reducible refine nf x2 ?_ | with_reducible refine And.intro x2 ?_)
      refine m_Mo_came _ _ ?_
      rw [d4]
      try rw [hM.2.1]
      repeat (first | with_reducible refine bt k0 ?_ | with_reducible refine bf k0 ?_ | with_reducible refine nt k0 ?_ | with_reducible refine nf k0 ?_ | with_reducible refine And.intro k0 ?_ | with_reducible refine bt d2 ?_ | with_reducible refine bf d2 ?_ | with_reducible refine nt d2 ?_ | with_reducible refine nf d2 ?_ | with_reducible refine And.intro d2 ?_ | with_reducible refine bt d3 ?_ | with_reducible refine bf d3 ?_ | with_reducible refine nt d3 ?_ | with_reducible refine nf d3 ?_ | with_reducible refine And.intro d3 ?_ | with_reducible refine bt dv ?_ | with_reducible refine bf dv ?_ | with_reducible refine nt dv ?_ | with_reducible refine nf dv ?_ | with_reducible refine And.intro dv ?_ | with_reducible refine bt y0 ?_ | with_reducible refine bf y0 ?_ | with_reducible refine nt y0 ?_ | with_reducible refine nf y0 ?_ | with_reducible refine And.intro y0 ?_ | with_reducible refine bt y1 ?_ | with_reducible refine bf y1 ?_ | with_reducible refine nt y1 ?_ | with_reducible refine nf y1 ?_ | with_reducible refine And.intro y1 ?_)
      exact kk _ _ hR1
    · refine m_PW_came _ _ ?_
      rw [d4]
      try rw [hC.2.1]
      repeat (first | with_reducible refine bt k0 ?_ | with_reducible refine bf k0 ?_ | with_reducible refine nt k0 ?_ | with_reducible refine nf k0 ?_ | with_reducible refine And.intro k0 ?_ | with_reducible refine bt d0 ?_ | with_reducible refine bf d0 ?_ | with_reducible refine nt d0 ?_ | with_reducible refine nf d0 ?_ | with_reducible refine And.intro d0 ?_ | with_reducible refine bt d1 ?_ | with_reducible refine bf d1 ?_ | with_reducible refine nt d1 ?_ | with_reducible refine nf d1 ?_ | with_reducible refine And.intro d1 ?_ | with_reducible refine bt dv ?_ | with_reducible refine bf dv ?_ | with_reducible refine nt dv ?_ | with_reducible refine nf dv ?_ | with_reducible refine And.intro dv ?_ | with_reducible refine bt x0 ?_ | with_reducible refine bf x0 ?_ | with_reducible refine nt x0 ?_ | with_reducible refine nf x0 ?_ | with_reducible refine And.intro x0 ?_ | with_reducible refine bt x1 ?_ | with_reducible refine bf x1 ?_ | with_reducible refine nt x1 ?_ | with_reducible refine nf x1 ?_ | with_reducible refine And.intro x1 ?_ | with_reducible refine bt x2 ?_ | with_reducible refine bf x2 ?_ | with_reducible refine nt x2 ?_ | with_reducible refine nf x2 ?_ | with_reducible refine And.intro x2 ?_)
      refine m_Mo_came _ _ ?_
      rw [d4]
      try rw [hM.2.1]
      repeat (first | with_reducible refine bt k0 ?_ | with_reducible refine bf k0 ?_ | with_reducible refine nt k0 ?_ | with_reducible refine nf k0 ?_ | with_reducible refine And.intro k0 ?_ | with_reducible refine bt d2 ?_ | with_reducible refine bf d2 ?_ | with_reducible refine nt d2 ?_ | with_reducible refine nf d2 ?_ | with_reducible refine And.intro d2 ?_ | with_reducible refine bt d3 ?_ | with_reducible refine bf d3 ?_ | with_reducible refine nt d3 ?_ | with_reducible refine nf d3 ?_ | with_reducible refine And.intro d3 ?_ | with_reducible refine bt dv ?_ | with_reducible refine bf dv ?_ | with_reducible refine nt dv ?_ | with_reducible refine nf dv ?_ | with_reducible refine And.intro dv ?_ | with_reducible refine bt y0 ?_ | with_reducible refine bf y0 ?_ | with_reducible refine nt y0 ?_ | with_reducible refine nf y0 ?_ | with_reducible refine And.intro y0 ?_ | with_reducible refine bt y1 ?_ | with_reducible refine bf y1 ?_ | with_reducible refine nt y1 ?_ | with_reducible refine nf y1 ?_ | with_reducible refine And.intro y1 ?_)
      exact kk _ _ hR1
    · refine m_PW_came _ _ ?_
      rw [d4]
      try rw [hC.2.1]
      repeat (first | with_reducible refine bt k0 ?_ | with_reducible refine bf k0 ?_ | with_reducible refine nt k0 ?_ | with_reducible refine nf k0 ?_ | with_reducible refine And.intro k0 ?_ | with_reducible refine bt d0 ?_ | with_reducible refine bf d0 ?_ | with_reducible refine nt d0 ?_ | with_reducible refine nf d0 ?_ | with_reducible refine And.intro d0 ?_ | with_reducible refine bt d1 ?_ | with_reducible refine bf d1 ?_ | with_reducible refine nt d1 ?_ | with_reducible refine nf d1 ?_ | with_reducible refine And.intro d1 ?_ | with_reducible refine bt dv ?_ | with_reducible refine bf dv ?_ | with_reducible refine nt dv ?_ | with_reducible refine nf dv ?_ | with_reducible refine And.intro dv ?_ | with_reducible refine bt x0 ?_ | with_reducible refine bf x0 ?_ | with_reducible refine nt x0 ?_ | with_reducible refine nf x0 ?_ | with_reducible refine And.intro x0 ?_ | with_reducible refine bt x1 ?_ | with_reducible refine bf x1 ?_ | with_reducible refine nt x1 ?_ | with_reducible refine nf x1 ?_ | with_reducible refine And.intro x1 ?_ | with_reducible refine bt x2 ?_ | with_reducible refine bf x2 ?_ | with_reducible refine nt x2 ?_ | with_reducible refine nf x2 ?_ | with_reducible refine And.intro x2 ?_)
      refine m_Mo_came _ _ ?_
      rw [d4]
      try rw [hM.2.1]
      repeat (first | with_reducible refine bt k0 ?_ | with_reducible refine bf k0 ?_ | with_reducible refine nt k0 ?_ | with_reducible refine nf k0 ?_ | with_reducible refine And.intro k0 ?_ | with_reducible refine bt d2 ?_ | with_reducible refine bf d2 ?_ | with_reducible refine nt d2 ?_ | with_reducible refine nf d2 ?_ | with_reducible refine And.intro d2 ?_ | with_reducible refine bt d3 ?_ | with_reducible refine bf d3 ?_ | with_reducible refine nt d3 ?_ | with_reducible refine nf d3 ?_ | with_reducible refine And.intro d3 ?_ | with_reducible refine bt dv ?_ | with_reducible refine bf dv ?_ | with_reducible refine nt dv ?_ | with_reducible refine nf dv ?_ | with_reducible refine And.intro dv ?_ | with_reducible refine bt y0 ?_ | with_reducible refine bf y0 ?_ | with_reducible refine nt y0 ?_ | with_reducible refine nf y0 ?_ | with_reducible refine And.intro y0 ?_ | with_reducible refine bt y1 ?_ | with_reducible refine bf y1 ?_ | with_reducible refine nt y1 ?_ | with_reducible refine nf y1 ?_ | with_reducible refine And.intro y1 ?_)
      exact kk _ _ hR1
    · have hl := hG'.2.2.1
      have el : H.1 (43 + 2 * d) 2 = nI len := hG.2.2.1
      have elt : (nI k < nI len) = (k < len) := i_lt k len hk31 (by omega)
      generalize hP : W_pln n (W_int (H.2.1 (43 + 2 * d + 1))) len 0 = P
      have hPl : P ≤ len := by rw [← hP]; exact W_pln_le _ _
      have refN : ∀ (H1 : pmT), fr JC H H1 → ¬ k < P → pm_R (D + 200) M_Mo_came [.ref 55, .int (nI d), .int (nI k)] H1 (pm_i fun y H2 => K (-2) y H2) := by
        intro H1 f1 hkP
        have hM1 := (hN.c f1).ms ht
        refine m_Mo_came _ _ ?_
        rw [d4, show H1.1 81 d = H.1 81 d from f1.1 81 d rfl]
        repeat (first | with_reducible refine bt d2 ?_ | with_reducible refine bf d2 ?_ | with_reducible refine nt d2 ?_ | with_reducible refine nf d2 ?_ | with_reducible refine And.intro d2 ?_ | with_reducible refine bt d3 ?_ | with_reducible refine bf d3 ?_ | with_reducible refine nt d3 ?_ | with_reducible refine nf d3 ?_ | with_reducible refine And.intro d3 ?_ | with_reducible refine bt dv ?_ | with_reducible refine bf dv ?_ | with_reducible refine nt dv ?_ | with_reducible refine nf dv ?_ | with_reducible refine And.intro dv ?_ | with_reducible refine bt k0 ?_ | with_reducible refine bf k0 ?_ | with_reducible refine nt k0 ?_ | with_reducible refine nf k0 ?_ | with_reducible refine And.intro k0 ?_ | with_reducible refine bt y0 ?_ | with_reducible refine bf y0 ?_ | with_reducible refine nt y0 ?_ | with_reducible refine nf y0 ?_ | with_reducible refine And.intro y0 ?_ | with_reducible refine bt y1 ?_ | with_reducible refine bf y1 ?_ | with_reducible refine nt y1 ?_ | with_reducible refine nf y1 ?_ | with_reducible refine And.intro y1 ?_)
        refine c_planM (d := D + 196) hM1.2.1 hM1.2.2.1 (hG'.fr f1 rfl) ?_
        rw [hP]
        first | refine bt (fun z => hkP ((nI_ltI hk31 (by omega)).mp z)) ?_ | refine bf (fun z => hkP ((nI_ltI hk31 (by omega)).mp z)) ?_ | refine nt (fun z => hkP ((nI_ltI hk31 (by omega)).mp z)) ?_ | refine nf (fun z => hkP ((nI_ltI hk31 (by omega)).mp z)) ?_
        exact kk _ _ (hR.z f1 fr.rf)
      refine m_PW_came _ _ ?_
      rw [d4, el, elt]
      repeat (first | with_reducible refine bt d0 ?_ | with_reducible refine bf d0 ?_ | with_reducible refine nt d0 ?_ | with_reducible refine nf d0 ?_ | with_reducible refine And.intro d0 ?_ | with_reducible refine bt d1 ?_ | with_reducible refine bf d1 ?_ | with_reducible refine nt d1 ?_ | with_reducible refine nf d1 ?_ | with_reducible refine And.intro d1 ?_ | with_reducible refine bt dv ?_ | with_reducible refine bf dv ?_ | with_reducible refine nt dv ?_ | with_reducible refine nf dv ?_ | with_reducible refine And.intro dv ?_ | with_reducible refine bt k0 ?_ | with_reducible refine bf k0 ?_ | with_reducible refine nt k0 ?_ | with_reducible refine nf k0 ?_ | with_reducible refine And.intro k0 ?_ | with_reducible refine bt x0 ?_ | with_reducible refine bf x0 ?_ | with_reducible refine nt x0 ?_ | with_reducible refine nf x0 ?_ | with_reducible refine And.intro x0 ?_ | with_reducible refine bt x1 ?_ | with_reducible refine bf x1 ?_ | with_reducible refine nt x1 ?_ | with_reducible refine nf x1 ?_ | with_reducible refine And.intro x1 ?_ | with_reducible refine bt x2 ?_ | with_reducible refine bf x2 ?_ | with_reducible refine nt x2 ?_ | with_reducible refine nf x2 ?_ | with_reducible refine And.intro x2 ?_)
      by_cases ckl : k < len
      · first | refine bt ckl ?_ | refine bf ckl ?_ | refine nt ckl ?_ | refine nf ckl ?_
        rw [show nI k + (1 : Int32) = nI (k + 1) from nI_1 k]
        refine c_walk (most := k + 1) (d := D + 194) (by omega) hC hG (fun H1 f1 e8 e0 e1 e2 hT1 => ?_)
        have em : min len (k + 1) = k + 1 := by omega
        rw [em] at e0 e2
        have hwk := (W_walk_pln (hb := hb) (L := L) (n := n) (f := hb 2) (g := W_int (H.2.1 (43 + 2 * d + 1))) (k + 1) 0 0 (-2) now).2
        have hmin := W_pln_min (n := n) (g := W_int (H.2.1 (43 + 2 * d + 1))) (k + 1) 0 len (by omega)
        rw [hP] at hmin
        rw [hwk, hmin, Nat.zero_add] at e0
        rw [e0, i_le _ _ (by omega) hk31]
        by_cases ckP : k < P
        · first | refine bt (show ¬ min (k + 1) P ≤ k by omega) ?_ | refine bf (show ¬ min (k + 1) P ≤ k by omega) ?_ | refine nt (show ¬ min (k + 1) P ≤ k by omega) ?_ | refine nf (show ¬ min (k + 1) P ≤ k by omega) ?_
          have hM1 := (hN.c f1).ms ht
          have hG1 := hG'.fr f1 rfl
          have hokk : W_ok n (W_int (H.2.1 (43 + 2 * d + 1)) k) = true := ok0 (len := len) k (by rw [hP]; exact ckP)
          have hokj : ∀ j, j < k → W_ok n (W_int (H.2.1 (43 + 2 * d + 1)) j) = true := fun j hj => ok0 (len := len) j (by rw [hP]; omega)
          refine m_Mo_came _ _ ?_
          rw [d4, show H1.1 81 d = H.1 81 d from f1.1 81 d rfl]
          repeat (first | with_reducible refine bt d2 ?_ | with_reducible refine bf d2 ?_ | with_reducible refine nt d2 ?_ | with_reducible refine nf d2 ?_ | with_reducible refine And.intro d2 ?_ | with_reducible refine bt d3 ?_ | with_reducible refine bf d3 ?_ | with_reducible refine nt d3 ?_ | with_reducible refine nf d3 ?_ | with_reducible refine And.intro d3 ?_ | with_reducible refine bt dv ?_ | with_reducible refine bf dv ?_ | with_reducible refine nt dv ?_ | with_reducible refine nf dv ?_ | with_reducible refine And.intro dv ?_ | with_reducible refine bt k0 ?_ | with_reducible refine bf k0 ?_ | with_reducible refine nt k0 ?_ | with_reducible refine nf k0 ?_ | with_reducible refine And.intro k0 ?_ | with_reducible refine bt y0 ?_ | with_reducible refine bf y0 ?_ | with_reducible refine nt y0 ?_ | with_reducible refine nf y0 ?_ | with_reducible refine And.intro y0 ?_ | with_reducible refine bt y1 ?_ | with_reducible refine bf y1 ?_ | with_reducible refine nt y1 ?_ | with_reducible refine nf y1 ?_ | with_reducible refine And.intro y1 ?_)
          refine c_planM (d := D + 196) hM1.2.1 hM1.2.2.1 hG1 ?_
          rw [hP]
          first | refine bt (nI_lt ckP (show P < 2 ^ 31 by omega)) ?_ | refine bf (nI_lt ckP (show P < 2 ^ 31 by omega)) ?_ | refine nt (nI_lt ckP (show P < 2 ^ 31 by omega)) ?_ | refine nf (nI_lt ckP (show P < 2 ^ 31 by omega)) ?_
          refine c_doesP (d := D + 125) hM1 hG1 (show k ≤ len by omega) hokj (fun H2 f2 ef hT2 => ?_)
          have hM2 := hM1.fr f2
          obtain ⟨w1, w2, w3, w4⟩ := (hG1.fr f2 rfl).at ckl
          rw [w2]
          refine ⟨w1, ?_⟩
          have hVk : ∀ b, b < n → RV 1100 ((W_walk hb L n (hb 2) (W_int (H.2.1 (43 + 2 * d + 1))) k 0 now 0 (-2)).2.2.2 b) := fun b hb0 => (RV_walk (hb := hb) (L := L) (n := n) (f := hb 2) (g := W_int (H.2.1 (43 + 2 * d + 1))) k 0 0 1000 (-2) now hM2.2.2.2.2 b hb0).mono (by omega)
          refine c_does (d := D + 126) _ hM2.2.2.1 hM2.1.2.1.2.2.1 (show 1100 < 2 ^ 20 by decide) hM2.1 ef hM2.2.1 hT2 hVk hokk (fun c T' ed H3 f3 hT3 => ?_)
          have es := W_walk_snoc (hb := hb) (L := L) (n := n) (f := hb 2) (g := W_int (H.2.1 (43 + 2 * d + 1))) k 0 0 (-2) now c T' (fun j hj => by rw [Nat.zero_add]; exact hokj j hj) (by rw [Nat.zero_add]; exact ed)
          rw [e2, es]
          exact kk _ _ (hR.z f1 (f2.tr (f3.mono rfl)))
        · first | refine bt (show min (k + 1) P ≤ k by omega) ?_ | refine bf (show min (k + 1) P ≤ k by omega) ?_ | refine nt (show min (k + 1) P ≤ k by omega) ?_ | refine nf (show min (k + 1) P ≤ k by omega) ?_
          exact refN H1 f1 ckP
      · first | refine bt ckl ?_ | refine bf ckl ?_ | refine nt ckl ?_ | refine nf ckl ?_
        exact refN H fr.rf (by omega)
  · have hm : pm_R (D + 200) M_Mo_came [.ref 55, .int a1, .int a2] H (pm_i fun y H2 => K (-1) y H2) := by
      refine m_Mo_came _ _ ?_
      try rw [hM.2.1]
      ((try (simp only [lgl, lgg, i2l_t, u32_0, u64_0, u32_1, u64_1, u32_2, u64_2, u32_3, u64_3, u32_4, u64_4, u32_5, u64_5, u32_7, u64_7, u32_12, u64_12, u32_24, u64_24, u32_30, u64_30, u32_49, u64_49, u32_60, u64_60, u32_99, u64_99, u32_255, u64_255, u32_999, u64_999, en])); (try (simp only [t_lt, t_le, u32_0, u64_0, u32_1, u64_1, u32_2, u64_2, u32_3, u64_3, u32_4, u64_4, u32_5, u64_5, u32_7, u64_7, u32_12, u64_12, u32_24, u64_24, u32_30, u64_30, u32_49, u64_49, u32_60, u64_60, u32_99, u64_99, u32_255, u64_255, u32_999, u64_999, en])); repeat' (first | with_reducible intro hh | with_reducible apply And.intro | exact vp_in_iff.mpr (by omega) | (exfalso; omega) | exact kk _ _ hR1))
    refine m_PW_came _ _ ?_
    try rw [hC.2.1]
    ((try (simp only [lgl, lgg, i2l_t, u32_0, u64_0, u32_1, u64_1, u32_2, u64_2, u32_3, u64_3, u32_4, u64_4, u32_5, u64_5, u32_7, u64_7, u32_12, u64_12, u32_24, u64_24, u32_30, u64_30, u32_49, u64_49, u32_60, u64_60, u32_99, u64_99, u32_255, u64_255, u32_999, u64_999, en])); (try (simp only [t_lt, t_le, u32_0, u64_0, u32_1, u64_1, u32_2, u64_2, u32_3, u64_3, u32_4, u64_4, u32_5, u64_5, u32_7, u64_7, u32_12, u64_12, u32_24, u64_24, u32_30, u64_30, u32_49, u64_49, u32_60, u64_60, u32_99, u64_99, u32_255, u64_255, u32_999, u64_999, en])); repeat' (first | with_reducible intro hh | with_reducible apply And.intro | exact vp_in_iff.mpr (by omega) | (exfalso; omega) | exact hm))
theorem p_lesson {D t : Nat} {H : pmT} {K : Int32 → Int32 → pmT → Prop} (a1 a2 : Int32) (hR : Rel t H) (ht : t ≤ 1000) (kk : ∀ x H', Rel (t + 1) H' → K x x H') : pm_R (D + 200) M_PW_lesson [.ref 0, .int a1, .int a2] H (pm_i fun x H1 => pm_R (D + 200) M_Mo_lesson [.ref 55, .int a1, .int a2] H1 (pm_i fun y H2 => K x y H2)) := by
  obtain ⟨hb, L, n, now, m, hN, hT, hD⟩ := id hR
  have hC := hN.cs ht
  have hM := hN.ms ht
  have hn12 := hC.2.2.1
  have hB := hT.2.2.2.1
  have hSh := hT.2.2.2.2.2.1
  have en : (nI n - (1 : Int32)).toInt = (n : Int) - 1 := nm1_t (by omega)
  have hR1 : Rel (t + 1) H := hR.mono (Nat.le_succ _)
  by_cases hok : (0 ≤ a1.toInt ∧ a1.toInt ≤ 5) ∧ (0 ≤ a2.toInt ∧ a2.toInt ≤ 4)
  · obtain ⟨⟨p1, p2⟩, p5, p6⟩ := hok
    obtain ⟨d, _, rfl, ed⟩ := nI_tI a1 p1
    obtain ⟨w, _, rfl, ew⟩ := nI_tI a2 p5
    have hd : d < 6 := by omega
    have d0 : ¬ nI d < (0 : Int32) := nI_pos (by omega)
    have d1 : nI d ≤ (5 : Int32) := nI_le (show d ≤ 5 by omega) (by decide)
    have d2 : ¬ lg_cmp (nI d).toInt64 (0 : Int64) < 0 := l_0 (by omega)
    have d3 : ¬ 0 < lg_cmp (nI d).toInt64 (5 : Int64) := l_c (by omega) (by show (d : Int) ≤ 5; omega)
    have d4 : (nI d).toNatClampNeg = d := nIc (by omega)
    have w0 : ¬ nI w < (0 : Int32) := nI_pos (by omega)
    have w1 : nI w ≤ (4 : Int32) := nI_le (show w ≤ 4 by omega) (by decide)
    have w2 : ¬ lg_cmp (nI w).toInt64 (0 : Int64) < 0 := l_0 (by omega)
    have w3 : ¬ 0 < lg_cmp (nI w).toInt64 (4 : Int64) := l_c (by omega) (by show (w : Int) ≤ 4; omega)
    have w4 : (nI w).toNatClampNeg = w := nIc (by omega)
    have ew0 : (nI w = (0 : Int32)) = (w = 0) := i_eq w 0 (by omega) (by decide)
    have ew1 : (nI w = (1 : Int32)) = (w = 1) := i_eq w 1 (by omega) (by decide)
    have ew2 : (nI w = (2 : Int32)) = (w = 2) := i_eq w 2 (by omega) (by decide)
    have ew3 : (nI w = (3 : Int32)) = (w = 3) := i_eq w 3 (by omega) (by decide)
    have dv : vp_in (nI d) 6 := vp_in_nI hd (by decide)
    rcases bytes_cases hB.1 hd (hSh d hd) with ⟨x0, x1, y0⟩ | ⟨x0, x1, y0, y1⟩ | ⟨x0, x1, x2, y0, y1⟩ | ⟨x0, x1, x2, y0, y1, len, hG, hG'⟩
    · refine m_PW_lesson _ _ ?_
      rw [d4]
      try rw [hC.2.1]
      repeat (first | with_reducible refine bt w0 ?_ | with_reducible refine bf w0 ?_ | with_reducible refine nt w0 ?_ | with_reducible refine nf w0 ?_ | with_reducible refine And.intro w0 ?_ | with_reducible refine bt w1 ?_ | with_reducible refine bf w1 ?_ | with_reducible refine nt w1 ?_ | with_reducible refine nf w1 ?_ | with_reducible refine And.intro w1 ?_ | with_reducible refine bt w2 ?_ | with_reducible refine bf w2 ?_ | with_reducible refine nt w2 ?_ | with_reducible refine nf w2 ?_ | with_reducible refine And.intro w2 ?_ | with_reducible refine bt w3 ?_ | with_reducible refine bf w3 ?_ | with_reducible refine nt w3 ?_ | with_reducible refine nf w3 ?_ | with_reducible refine And.intro w3 ?_ | with_reducible refine bt d0 ?_ | with_reducible refine bf d0 ?_ | with_reducible refine nt d0 ?_ | with_reducible refine nf d0 ?_ | with_reducible refine And.intro d0 ?_ | with_reducible refine bt d1 ?_ | with_reducible refine bf d1 ?_ | with_reducible refine nt d1 ?_ | with_reducible refine nf d1 ?_ | with_reducible refine And.intro d1 ?_ | with_reducible refine bt dv ?_ | with_reducible refine bf dv ?_ | with_reducible refine nt dv ?_ | with_reducible refine nf dv ?_ | with_reducible refine And.intro dv ?_ | with_reducible refine bt x0 ?_ | with_reducible refine bf x0 ?_ | with_reducible refine nt x0 ?_ | with_reducible refine nf x0 ?_ | with_reducible refine And.intro x0 ?_ | with_reducible refine bt x1 ?_ | with_reducible refine bf x1 ?_ | with_reducible refine nt x1 ?_ | with_reducible refine nf x1 ?_ | with_reducible refine And.intro x1 ?_ | with_reducible refine bt x2 ?_ | with_reducible refine bf x2 ?_ | with_reducible refine nt x2 ?_ | with_reducible refine nf x2 ?_ | with_reducible refine And.intro x2 ?_)
      refine m_Mo_lesson _ _ ?_
      rw [d4]
      try rw [hM.2.1]
      repeat (first | with_reducible refine bt w0 ?_ | with_reducible refine bf w0 ?_ | with_reducible refine nt w0 ?_ | with_reducible refine nf w0 ?_ | with_reducible refine And.intro w0 ?_ | with_reducible refine bt w1 ?_ | with_reducible refine bf w1 ?_ | with_reducible refine nt w1 ?_ | with_reducible refine nf w1 ?_ | with_reducible refine And.intro w1 ?_ | with_reducible refine bt w2 ?_ | with_reducible refine bf w2 ?_ | with_reducible refine nt w2 ?_ | with_reducible refine nf w2 ?_ | with_reducible refine And.intro w2 ?_ | with_reducible refine bt w3 ?_ | with_reducible refine bf w3 ?_ | with_reducible refine nt w3 ?_ | with_reducible refine nf w3 ?_ | with_reducible refine And.intro w3 ?_ | with_reducible refine bt d2 ?_ | with_reducible refine bf d2 ?_ | with_reducible refine nt d2 ?_ | with_reducible refine nf d2 ?_ | with_reducible refine And.intro d2 ?_ | with_reducible refine bt d3 ?_ | with_reducible refine bf d3 ?_ | with_reducible refine nt d3 ?_ | with_reducible refine nf d3 ?_ | with_reducible refine And.intro d3 ?_ | with_reducible refine bt dv ?_ | with_reducible refine bf dv ?_ | with_reducible refine nt dv ?_ | with_reducible refine nf dv ?_ | with_reducible refine And.intro dv ?_ | with_reducible refine bt y0 ?_ | with_reducible refine bf y0 ?_ | with_reducible refine nt y0 ?_ | with_reducible refine nf y0 ?_ | with_reducible refine And.intro y0 ?_ | with_reducible refine bt y1 ?_ | with_reducible refine bf y1 ?_ | with_reducible refine nt y1 ?_ | with_reducible refine nf y1 ?_ | with_reducible refine And.intro y1 ?_)
      exact kk _ _ hR1
    · refine m_PW_lesson _ _ ?_
      rw [d4]
      try rw [hC.2.1]
      repeat (first | with_reducible refine bt w0 ?_ | with_reducible refine bf w0 ?_ | with_reducible refine nt w0 ?_ | with_reducible refine nf w0 ?_ | with_reducible refine And.intro w0 ?_ | with_reducible refine bt w1 ?_ | with_reducible refine bf w1 ?_ | with_reducible refine nt w1 ?_ | with_reducible refine nf w1 ?_ | with_reducible refine And.intro w1 ?_ | with_reducible refine bt w2 ?_ | with_reducible refine bf w2 ?_ | with_reducible refine nt w2 ?_ | with_reducible refine nf w2 ?_ | with_reducible refine And.intro w2 ?_ | with_reducible refine bt w3 ?_ | with_reducible refine bf w3 ?_ | with_reducible refine nt w3 ?_ | with_reducible refine nf w3 ?_ | with_reducible refine And.intro w3 ?_ | with_reducible refine bt d0 ?_ | with_reducible refine bf d0 ?_ | with_reducible refine nt d0 ?_ | with_reducible refine nf d0 ?_ | with_reducible refine And.intro d0 ?_ | with_reducible refine bt d1 ?_ | with_reducible refine bf d1 ?_ | with_reducible refine nt d1 ?_ | with_reducible refine nf d1 ?_ | with_reducible refine And.intro d1 ?_ | with_reducible refine bt dv ?_ | with_reducible refine bf dv ?_ | with_reducible refine nt dv ?_ | with_reducible refine nf dv ?_ | with_reducible refine And.intro dv ?_ | with_reducible refine bt x0 ?_ | with_reducible refine bf x0 ?_ | with_reducible refine nt x0 ?_ | with_reducible refine nf x0 ?_ | with_reducible refine And.intro x0 ?_ | with_reducible refine bt x1 ?_ | with_reducible refine bf x1 ?_ | with_reducible refine nt x1 ?_ | with_reducible refine nf x1 ?_ | with_reducible refine And.intro x1 ?_ | with_reducible refine bt x2 ?_ | with_reducible refine bf x2 ?_ | with_reducible refine nt x2 ?_ | with_reducible refine nf x2 ?_ | with_reducible refine And.intro x2 ?_)
      refine m_Mo_lesson _ _ ?_
      rw [d4]
      try rw [hM.2.1]
      repeat (first | with_reducible refine bt w0 ?_ | with_reducible refine bf w0 ?_ | with_reducible refine nt w0 ?_ | with_reducible refine nf w0 ?_ | with_reducible refine And.intro w0 ?_ | with_reducible refine bt w1 ?_ | with_reducible refine bf w1 ?_ | with_reducible refine nt w1 ?_ | with_reducible refine nf w1 ?_ | with_reducible refine And.intro w1 ?_ | with_reducible refine bt w2 ?_ | with_reducible refine bf w2 ?_ | with_reducible refine nt w2 ?_ | with_reducible refine nf w2 ?_ | with_reducible refine And.intro w2 ?_ | with_reducible refine bt w3 ?_ | with_reducible refine bf w3 ?_ | with_reducible refine nt w3 ?_ | with_reducible refine nf w3 ?_ | with_reducible refine And.intro w3 ?_ | with_reducible refine bt d2 ?_ | with_reducible refine bf d2 ?_ | with_reducible refine nt d2 ?_ | with_reducible refine nf d2 ?_ | with_reducible refine And.intro d2 ?_ | with_reducible refine bt d3 ?_ | with_reducible refine bf d3 ?_ | with_reducible refine nt d3 ?_ | with_reducible refine nf d3 ?_ | with_reducible refine And.intro d3 ?_ | with_reducible refine bt dv ?_ | with_reducible refine bf dv ?_ | with_reducible refine nt dv ?_ | with_reducible refine nf dv ?_ | with_reducible refine And.intro dv ?_ | with_reducible refine bt y0 ?_ | with_reducible refine bf y0 ?_ | with_reducible refine nt y0 ?_ | with_reducible refine nf y0 ?_ | with_reducible refine And.intro y0 ?_ | with_reducible refine bt y1 ?_ | with_reducible refine bf y1 ?_ | with_reducible refine nt y1 ?_ | with_reducible refine nf y1 ?_ | with_reducible refine And.intro y1 ?_)
      exact kk _ _ hR1
    · refine m_PW_lesson _ _ ?_
      rw [d4]
      try rw [hC.2.1]
      repeat (first | with_reducible refine bt w0 ?_ | with_reducible refine bf w0 ?_ | with_reducible refine nt w0 ?_ | with_reducible refine nf w0 ?_ | with_reducible refine And.intro w0 ?_ | with_reducible refine bt w1 ?_ | with_reducible refine bf w1 ?_ | with_reducible refine nt w1 ?_ | with_reducible refine nf w1 ?_ | with_reducible refine And.intro w1 ?_ | with_reducible refine bt w2 ?_ | with_reducible refine bf w2 ?_ | with_reducible refine nt w2 ?_ | with_reducible refine nf w2 ?_ | with_reducible refine And.intro w2 ?_ | with_reducible refine bt w3 ?_ | with_reducible refine bf w3 ?_ | with_reducible refine nt w3 ?_ | with_reducible refine nf w3 ?_ | with_reducible refine And.intro w3 ?_ | with_reducible refine bt d0 ?_ | with_reducible refine bf d0 ?_ | with_reducible refine nt d0 ?_ | with_reducible refine nf d0 ?_ | with_reducible refine And.intro d0 ?_ | with_reducible refine bt d1 ?_ | with_reducible refine bf d1 ?_ | with_reducible refine nt d1 ?_ | with_reducible refine nf d1 ?_ | with_reducible refine And.intro d1 ?_ | with_reducible refine bt dv ?_ | with_reducible refine bf dv ?_ | with_reducible refine nt dv ?_ | with_reducible refine nf dv ?_ | with_reducible refine And.intro dv ?_ | with_reducible refine bt x0 ?_ | with_reducible refine bf x0 ?_ | with_reducible refine nt x0 ?_ | with_reducible refine nf x0 ?_ | with_reducible refine And.intro x0 ?_ | with_reducible refine bt x1 ?_ | with_reducible refine bf x1 ?_ | with_reducible refine nt x1 ?_ | with_reducible refine nf x1 ?_ | with_reducible refine And.intro x1 ?_ | with_reducible refine bt x2 ?_ | with_reducible refine bf x2 ?_ | with_reducible refine nt x2 ?_ | with_reducible refine nf x2 ?_ | with_reducible refine And.intro x2 ?_)
      refine m_Mo_lesson _ _ ?_
      rw [d4]
      try rw [hM.2.1]
      repeat (first | with_reducible refine bt w0 ?_ | with_reducible refine bf w0 ?_ | with_reducible refine nt w0 ?_ | with_reducible refine nf w0 ?_ | with_reducible refine And.intro w0 ?_ | with_reducible refine bt w1 ?_ | with_reducible refine bf w1 ?_ | with_reducible refine nt w1 ?_ | with_reducible refine nf w1 ?_ | with_reducible refine And.intro w1 ?_ | with_reducible refine bt w2 ?_ | with_reducible refine bf w2 ?_ | with_reducible refine nt w2 ?_ | with_reducible refine nf w2 ?_ | with_reducible refine And.intro w2 ?_ | with_reducible refine bt w3 ?_ | with_reducible refine bf w3 ?_ | with_reducible refine nt w3 ?_ | with_reducible refine nf w3 ?_ | with_reducible refine And.intro w3 ?_ | with_reducible refine bt d2 ?_ | with_reducible refine bf d2 ?_ | with_reducible refine nt d2 ?_ | with_reducible refine nf d2 ?_ | with_reducible refine And.intro d2 ?_ | with_reducible refine bt d3 ?_ | with_reducible refine bf d3 ?_ | with_reducible refine nt d3 ?_ | with_reducible refine nf d3 ?_ | with_reducible refine And.intro d3 ?_ | with_reducible refine bt dv ?_ | with_reducible refine bf dv ?_ | with_reducible refine nt dv ?_ | with_reducible refine nf dv ?_ | with_reducible refine And.intro dv ?_ | with_reducible refine bt y0 ?_ | with_reducible refine bf y0 ?_ | with_reducible refine nt y0 ?_ | with_reducible refine nf y0 ?_ | with_reducible refine And.intro y0 ?_ | with_reducible refine bt y1 ?_ | with_reducible refine bf y1 ?_ | with_reducible refine nt y1 ?_ | with_reducible refine nf y1 ?_ | with_reducible refine And.intro y1 ?_)
      exact kk _ _ hR1
    · refine m_PW_lesson _ _ ?_
      rw [d4]
      repeat (first | with_reducible refine bt d0 ?_ | with_reducible refine bf d0 ?_ | with_reducible refine nt d0 ?_ | with_reducible refine nf d0 ?_ | with_reducible refine And.intro d0 ?_ | with_reducible refine bt d1 ?_ | with_reducible refine bf d1 ?_ | with_reducible refine nt d1 ?_ | with_reducible refine nf d1 ?_ | with_reducible refine And.intro d1 ?_ | with_reducible refine bt dv ?_ | with_reducible refine bf dv ?_ | with_reducible refine nt dv ?_ | with_reducible refine nf dv ?_ | with_reducible refine And.intro dv ?_ | with_reducible refine bt w0 ?_ | with_reducible refine bf w0 ?_ | with_reducible refine nt w0 ?_ | with_reducible refine nf w0 ?_ | with_reducible refine And.intro w0 ?_ | with_reducible refine bt w1 ?_ | with_reducible refine bf w1 ?_ | with_reducible refine nt w1 ?_ | with_reducible refine nf w1 ?_ | with_reducible refine And.intro w1 ?_ | with_reducible refine bt x0 ?_ | with_reducible refine bf x0 ?_ | with_reducible refine nt x0 ?_ | with_reducible refine nf x0 ?_ | with_reducible refine And.intro x0 ?_ | with_reducible refine bt x1 ?_ | with_reducible refine bf x1 ?_ | with_reducible refine nt x1 ?_ | with_reducible refine nf x1 ?_ | with_reducible refine And.intro x1 ?_ | with_reducible refine bt x2 ?_ | with_reducible refine bf x2 ?_ | with_reducible refine nt x2 ?_ | with_reducible refine nf x2 ?_ | with_reducible refine And.intro x2 ?_)
      have hl := hG'.2.2.1
      have hwk := W_walk_pln (hb := hb) (L := L) (n := n) (f := hb 2) (g := W_int (H.2.1 (43 + 2 * d + 1))) len 0 0 (-2) now
      refine c_walk (most := 60) (d := D + 194) (by decide) hC hG (fun H1 f1 e8 e0 e1 e2 hT1 => ?_)
      rw [min60 hl] at e0 e1 hT1
      rw [hwk.2, Nat.zero_add] at e0
      rw [hwk.1] at hT1 e1
      generalize hP : W_pln n (W_int (H.2.1 (43 + 2 * d + 1))) len 0 = P at hT1 e0 e1
      have hPl : P ≤ len := by rw [← hP]; exact W_pln_le _ _
      have hV : ∀ b, b < n → RV 1100 ((W_walk hb L n (hb 2) (W_int (H.2.1 (43 + 2 * d + 1))) P 0 now 0 (-2)).2.2.2 b) := fun b hb0 => (RV_walk (hb := hb) (L := L) (n := n) (f := hb 2) (g := W_int (H.2.1 (43 + 2 * d + 1))) P 0 0 1000 (-2) now hC.2.2.2.2 b hb0).mono (by omega)
      generalize hW : W_walk hb L n (hb 2) (W_int (H.2.1 (43 + 2 * d + 1))) P 0 now 0 (-2) = W at hT1 e1 hV
      have ref0 : ∀ (x : Int32) (H2 : pmT), fr JC H H2 → (w = 0 → x = nI (W_cnt (W_isR W.2.2.2) n)) → (w = 1 → x = nI (W_set (W_isR W.2.2.2) n)) → (w = 2 → x = W_slip W.2.2.2 n 0) → (w = 3 → x = nI W.2.1) → (w = 4 → x = nI P) → pm_R (D + 200) M_Mo_lesson [.ref 55, .int (nI d), .int (nI w)] H2 (pm_i fun y H3 => K x y H3) := by
        intro x H2 f2 h0 h1 h2 h3 h4
        have hM1 := (hN.c f2).ms ht
        refine m_Mo_lesson _ _ ?_
        rw [d4, show H2.1 81 d = H.1 81 d from f2.1 81 d rfl]
        repeat (first | with_reducible refine bt d2 ?_ | with_reducible refine bf d2 ?_ | with_reducible refine nt d2 ?_ | with_reducible refine nf d2 ?_ | with_reducible refine And.intro d2 ?_ | with_reducible refine bt d3 ?_ | with_reducible refine bf d3 ?_ | with_reducible refine nt d3 ?_ | with_reducible refine nf d3 ?_ | with_reducible refine And.intro d3 ?_ | with_reducible refine bt dv ?_ | with_reducible refine bf dv ?_ | with_reducible refine nt dv ?_ | with_reducible refine nf dv ?_ | with_reducible refine And.intro dv ?_ | with_reducible refine bt w2 ?_ | with_reducible refine bf w2 ?_ | with_reducible refine nt w2 ?_ | with_reducible refine nf w2 ?_ | with_reducible refine And.intro w2 ?_ | with_reducible refine bt w3 ?_ | with_reducible refine bf w3 ?_ | with_reducible refine nt w3 ?_ | with_reducible refine nf w3 ?_ | with_reducible refine And.intro w3 ?_ | with_reducible refine bt y0 ?_ | with_reducible refine bf y0 ?_ | with_reducible refine nt y0 ?_ | with_reducible refine nf y0 ?_ | with_reducible refine And.intro y0 ?_ | with_reducible refine bt y1 ?_ | with_reducible refine bf y1 ?_ | with_reducible refine nt y1 ?_ | with_reducible refine nf y1 ?_ | with_reducible refine And.intro y1 ?_)
        refine c_planM (d := D + 196) hM1.2.1 hM1.2.2.1 (hG'.fr f2 rfl) ?_
        rw [hP]
        refine c_doesP (d := D + 125) hM1 (hG'.fr f2 rfl) hPl (fun j hj => ok0 (len := len) j (by rw [hP]; exact hj)) (fun H3 f3 ef hT3 => ?_)
        rw [hW] at hT3
        rw [hW]
        have hM3 := hM1.fr f3
        have k1 := kk x H3 (hR.z f2 f3)
        rw [ew0, ew1, ew2, ew3]
        have hlt := W_set_lt (W_isR W.2.2.2) n
        have h12 : 2 ^ n ≤ 2 ^ 12 := Nat.pow_le_pow_right (by decide) hn12
        by_cases c0 : w = 0
        · first | refine bt c0 ?_ | refine bf c0 ?_ | refine nt c0 ?_ | refine nf c0 ?_
          refine c_setM (d := D + 198) hM3.2.1 hn12 hT3 hV ?_
          refine c_bitsM (by omega) ?_
          rw [W_pop_set _ hn12, ← h0 c0]
          exact k1
        · first | refine bt c0 ?_ | refine bf c0 ?_ | refine nt c0 ?_ | refine nf c0 ?_
          by_cases c1 : w = 1
          · first | refine bt c1 ?_ | refine bf c1 ?_ | refine nt c1 ?_ | refine nf c1 ?_
            refine c_setM (d := D + 198) hM3.2.1 hn12 hT3 hV ?_
            rw [← h1 c1]
            exact k1
          · first | refine bt c1 ?_ | refine bf c1 ?_ | refine nt c1 ?_ | refine nf c1 ?_
            by_cases c2 : w = 2
            · first | refine bt c2 ?_ | refine bf c2 ?_ | refine nt c2 ?_ | refine nf c2 ?_
              refine c_slipM (d := D + 198) hM3.2.1 hn12 hT3 hV ?_
              rw [← h2 c2]
              exact k1
            · first | refine bt c2 ?_ | refine bf c2 ?_ | refine nt c2 ?_ | refine nf c2 ?_
              by_cases c3 : w = 3
              · first | refine bt c3 ?_ | refine bf c3 ?_ | refine nt c3 ?_ | refine nf c3 ?_
                rw [← h3 c3]
                exact k1
              · first | refine bt c3 ?_ | refine bf c3 ?_ | refine nt c3 ?_ | refine nf c3 ?_
                rw [← h4 (by omega)]
                exact k1
      rw [ew0, ew1, ew2, ew3]
      by_cases c0 : w = 0
      · first | refine bt c0 ?_ | refine bf c0 ?_ | refine nt c0 ?_ | refine nf c0 ?_
        refine c_count_th (d := D + 197) e8 hn12 hT1 hV ?_
        exact ref0 _ H1 f1 (fun _ => rfl) (fun z => absurd z (by omega)) (fun z => absurd z (by omega)) (fun z => absurd z (by omega)) (fun z => absurd z (by omega))
      · first | refine bt c0 ?_ | refine bf c0 ?_ | refine nt c0 ?_ | refine nf c0 ?_
        by_cases c1 : w = 1
        · first | refine bt c1 ?_ | refine bf c1 ?_ | refine nt c1 ?_ | refine nf c1 ?_
          refine c_bits_th (d := D + 198) e8 hn12 hT1 hV ?_
          exact ref0 _ H1 f1 (fun z => absurd z (by omega)) (fun _ => rfl) (fun z => absurd z (by omega)) (fun z => absurd z (by omega)) (fun z => absurd z (by omega))
        · first | refine bt c1 ?_ | refine bf c1 ?_ | refine nt c1 ?_ | refine nf c1 ?_
          by_cases c2 : w = 2
          · first | refine bt c2 ?_ | refine bf c2 ?_ | refine nt c2 ?_ | refine nf c2 ?_
            refine c_slip (d := D + 198) e8 hn12 hT1 hV ?_
            exact ref0 _ H1 f1 (fun z => absurd z (by omega)) (fun z => absurd z (by omega)) (fun _ => rfl) (fun z => absurd z (by omega)) (fun z => absurd z (by omega))
          · first | refine bt c2 ?_ | refine bf c2 ?_ | refine nt c2 ?_ | refine nf c2 ?_
            by_cases c3 : w = 3
            · first | refine bt c3 ?_ | refine bf c3 ?_ | refine nt c3 ?_ | refine nf c3 ?_
              rw [e1]
              exact ref0 _ H1 f1 (fun z => absurd z (by omega)) (fun z => absurd z (by omega)) (fun z => absurd z (by omega)) (fun _ => rfl) (fun z => absurd z (by omega))
            · first | refine bt c3 ?_ | refine bf c3 ?_ | refine nt c3 ?_ | refine nf c3 ?_
              rw [e0]
              exact ref0 _ H1 f1 (fun z => absurd z (by omega)) (fun z => absurd z (by omega)) (fun z => absurd z (by omega)) (fun z => absurd z (by omega)) (fun _ => rfl)
  · have hm : pm_R (D + 200) M_Mo_lesson [.ref 55, .int a1, .int a2] H (pm_i fun y H2 => K (-1) y H2) := by
      refine m_Mo_lesson _ _ ?_
      try rw [hM.2.1]
      ((try (simp only [lgl, lgg, i2l_t, u32_0, u64_0, u32_1, u64_1, u32_2, u64_2, u32_3, u64_3, u32_4, u64_4, u32_5, u64_5, u32_7, u64_7, u32_12, u64_12, u32_24, u64_24, u32_30, u64_30, u32_49, u64_49, u32_60, u64_60, u32_99, u64_99, u32_255, u64_255, u32_999, u64_999, en])); (try (simp only [t_lt, t_le, u32_0, u64_0, u32_1, u64_1, u32_2, u64_2, u32_3, u64_3, u32_4, u64_4, u32_5, u64_5, u32_7, u64_7, u32_12, u64_12, u32_24, u64_24, u32_30, u64_30, u32_49, u64_49, u32_60, u64_60, u32_99, u64_99, u32_255, u64_255, u32_999, u64_999, en])); repeat' (first | with_reducible intro hh | with_reducible apply And.intro | exact vp_in_iff.mpr (by omega) | (exfalso; omega) | exact kk _ _ hR1))
    refine m_PW_lesson _ _ ?_
    try rw [hC.2.1]
    ((try (simp only [lgl, lgg, i2l_t, u32_0, u64_0, u32_1, u64_1, u32_2, u64_2, u32_3, u64_3, u32_4, u64_4, u32_5, u64_5, u32_7, u64_7, u32_12, u64_12, u32_24, u64_24, u32_30, u64_30, u32_49, u64_49, u32_60, u64_60, u32_99, u64_99, u32_255, u64_255, u32_999, u64_999, en])); (try (simp only [t_lt, t_le, u32_0, u64_0, u32_1, u64_1, u32_2, u64_2, u32_3, u64_3, u32_4, u64_4, u32_5, u64_5, u32_7, u64_7, u32_12, u64_12, u32_24, u64_24, u32_30, u64_30, u32_49, u64_49, u32_60, u64_60, u32_99, u64_99, u32_255, u64_255, u32_999, u64_999, en])); repeat' (first | with_reducible intro hh | with_reducible apply And.intro | exact vp_in_iff.mpr (by omega) | (exfalso; omega) | exact hm))
/-- when to stop: the reference begins anew each time -/
theorem lp_stopM {D n len d want all : Nat} {hb : Nat → Nat} {L : Law} {now : Nat → Row} {g : Nat → Int64} {K : Int32 → pmT → Prop} {H0 : pmT} (hM : MS hb L n now H0) (hG : MSh d len g H0) (hall : all ≤ len) (hwant : want ≤ 12) (hok : ∀ j, j < all → W_ok n (W_int g j) = true) : ∀ (m k : Nat) (H : pmT), k + m = all → fr JQ H0 H → (∀ H', fr JQ H0 H' → K (nI (W_stop hb L n (hb 2) (W_int g) want m k (W_walk hb L n (hb 2) (W_int g) k 0 now 0 (-2)).2.2.2)) H') → pm_RW none (D + 200) M_Mo_stop (pm_i K) 38 [(0, .ref 55), (1, .int (nI d)), (2, .int (nI all)), (3, .int (nI want)), (4, .int (nI k))] [] H
  | 0, k, H, hk, hf, kk => by
    have hl := hG.2.2.1
    refine b_Mo_stop_38 _ _ _ _ ?_
    first | refine bt (nI_le (show all ≤ k by omega) (by omega)) ?_ | refine bf (nI_le (show all ≤ k by omega) (by omega)) ?_ | refine nt (nI_le (show all ≤ k by omega) (by omega)) ?_ | refine nf (nI_le (show all ≤ k by omega) (by omega)) ?_
    rw [show all = k by omega]
    exact kk H hf
  | m + 1, k, H, hk, hf, kk => by
    have ih := lp_stopM (D := D) (K := K) hM hG hall hwant hok m
    have hl := hG.2.2.1
    have hn12 := hM.2.2.1
    refine b_Mo_stop_38 _ _ _ _ ?_
    first | refine bt (nI_ge (show k < all by omega) (by omega)) ?_ | refine bf (nI_ge (show k < all by omega) (by omega)) ?_ | refine nt (nI_ge (show k < all by omega) (by omega)) ?_ | refine nf (nI_ge (show k < all by omega) (by omega)) ?_
    have hM1 := hM.fr hf
    refine c_doesP (d := D + 125) hM1 (hG.fr hf rfl) (show k ≤ len by omega) (fun j hj => hok j (by omega)) (fun H2 f2 ef hT2 => ?_)
    have hV : ∀ b, b < n → RV 1100 ((W_walk hb L n (hb 2) (W_int g) k 0 now 0 (-2)).2.2.2 b) := fun b hb0 => (RV_walk (hb := hb) (L := L) (n := n) (f := hb 2) (g := W_int g) k 0 0 1000 (-2) now hM.2.2.2.2 b hb0).mono (by omega)
    have hM2 := hM1.fr f2
    have hlt := W_set_lt (W_isR (W_walk hb L n (hb 2) (W_int g) k 0 now 0 (-2)).2.2.2) n
    have h12 : 2 ^ n ≤ 2 ^ 12 := Nat.pow_le_pow_right (by decide) hn12
    refine c_setM (d := D + 198) hM2.2.1 hn12 hT2 hV ?_
    refine c_bitsM (by omega) ?_
    rw [W_pop_set _ hn12, show nI k + (1 : Int32) = nI (k + 1) from nI_1 k]
    have hcl := W_cnt_le (W_isR (W_walk hb L n (hb 2) (W_int g) k 0 now 0 (-2)).2.2.2) n
    rw [i_lt _ _ (by omega) (by omega)]
    unfold W_stop at kk
    by_cases c : W_cnt (W_isR (W_walk hb L n (hb 2) (W_int g) k 0 now 0 (-2)).2.2.2) n < want
    · first | refine bt c ?_ | refine bf c ?_ | refine nt c ?_ | refine nf c ?_
      rw [if_pos c] at kk
      refine ih (k + 1) H2 (by omega) (hf.tr f2) (fun H' f' => ?_)
      have k1 := kk H' f'
      have hokk := hok k (by omega)
      cases ed : W_do hb L n (hb 2) (W_walk hb L n (hb 2) (W_int g) k 0 now 0 (-2)).2.2.2 (W_int g k) with
      | none => rw [W_ok_do.mp ed] at hokk; cases hokk
      | some q =>
        obtain ⟨c', T'⟩ := q
        rw [ed] at k1
        have es := W_walk_snoc (hb := hb) (L := L) (n := n) (f := hb 2) (g := W_int g) k 0 0 (-2) now c' T' (fun j hj => by rw [Nat.zero_add]; exact hok j (by omega)) (by rw [Nat.zero_add]; exact ed)
        rw [es]
        exact k1
    · first | refine bt c ?_ | refine bf c ?_ | refine nt c ?_ | refine nf c ?_
      rw [if_neg c] at kk
      exact kk H2 (hf.tr f2)
theorem p_stop {D t : Nat} {H : pmT} {K : Int32 → Int32 → pmT → Prop} (a1 : Int32) (hR : Rel t H) (ht : t ≤ 1000) (kk : ∀ x H', Rel (t + 1) H' → K x x H') : pm_R (D + 200) M_PW_stop [.ref 0, .int a1] H (pm_i fun x H1 => pm_R (D + 200) M_Mo_stop [.ref 55, .int a1] H1 (pm_i fun y H2 => K x y H2)) := by
  obtain ⟨hb, L, n, now, m, hN, hT, hD⟩ := id hR
  have hC := hN.cs ht
  have hM := hN.ms ht
  have hn12 := hC.2.2.1
  have hB := hT.2.2.2.1
  have hSh := hT.2.2.2.2.2.1
  have en : (nI n - (1 : Int32)).toInt = (n : Int) - 1 := nm1_t (by omega)
  have hR1 : Rel (t + 1) H := hR.mono (Nat.le_succ _)
  by_cases hok : 0 ≤ a1.toInt ∧ a1.toInt ≤ 5
  · obtain ⟨p1, p2⟩ := hok
    obtain ⟨d, _, rfl, eb⟩ := nI_tI a1 p1
    have hd : d < 6 := by omega
    have d0 : ¬ nI d < (0 : Int32) := nI_pos (by omega)
    have d1 : nI d ≤ (5 : Int32) := nI_le (show d ≤ 5 by omega) (by decide)
    have d2 : ¬ lg_cmp (nI d).toInt64 (0 : Int64) < 0 := l_0 (by omega)
    have d3 : ¬ 0 < lg_cmp (nI d).toInt64 (5 : Int64) := l_c (by omega) (by show (d : Int) ≤ 5; omega)
    have d4 : (nI d).toNatClampNeg = d := nIc (by omega)
    have dv : vp_in (nI d) 6 := vp_in_nI hd (by decide)
    rcases bytes_cases hB.1 hd (hSh d hd) with ⟨x0, x1, y0⟩ | ⟨x0, x1, y0, y1⟩ | ⟨x0, x1, x2, y0, y1⟩ | ⟨x0, x1, x2, y0, y1, len, hG, hG'⟩
    · refine m_PW_stop _ ?_
      rw [d4]
      try rw [hC.2.1]
      repeat (first | with_reducible refine bt d0 ?_ | with_reducible refine bf d0 ?_ | with_reducible refine nt d0 ?_ | with_reducible refine nf d0 ?_ | with_reducible refine And.intro d0 ?_ | with_reducible refine bt d0 ?_ | with_reducible refine bf d0 ?_ | with_reducible refine nt d0 ?_ | with_reducible refine nf d0 ?_ | with_reducible refine And.intro d0 ?_ | with_reducible refine bt d1 ?_ | with_reducible refine bf d1 ?_ | with_reducible refine nt d1 ?_ | with_reducible refine nf d1 ?_ | with_reducible refine And.intro d1 ?_ | with_reducible refine bt dv ?_ | with_reducible refine bf dv ?_ | with_reducible refine nt dv ?_ | with_reducible refine nf dv ?_ | with_reducible refine And.intro dv ?_ | with_reducible refine bt x0 ?_ | with_reducible refine bf x0 ?_ | with_reducible refine nt x0 ?_ | with_reducible refine nf x0 ?_ | with_reducible refine And.intro x0 ?_ | with_reducible refine bt x1 ?_ | with_reducible refine bf x1 ?_ | with_reducible refine nt x1 ?_ | with_reducible refine nf x1 ?_ | with_reducible refine And.intro x1 ?_ | with_reducible refine bt x2 ?_ | with_reducible refine bf x2 ?_ | with_reducible refine nt x2 ?_ | with_reducible refine nf x2 ?_ | with_reducible refine And.intro x2 ?_)
      refine m_Mo_stop _ ?_
      rw [d4]
      try rw [hM.2.1]
      repeat (first | with_reducible refine bt d0 ?_ | with_reducible refine bf d0 ?_ | with_reducible refine nt d0 ?_ | with_reducible refine nf d0 ?_ | with_reducible refine And.intro d0 ?_ | with_reducible refine bt d2 ?_ | with_reducible refine bf d2 ?_ | with_reducible refine nt d2 ?_ | with_reducible refine nf d2 ?_ | with_reducible refine And.intro d2 ?_ | with_reducible refine bt d3 ?_ | with_reducible refine bf d3 ?_ | with_reducible refine nt d3 ?_ | with_reducible refine nf d3 ?_ | with_reducible refine And.intro d3 ?_ | with_reducible refine bt dv ?_ | with_reducible refine bf dv ?_ | with_reducible refine nt dv ?_ | with_reducible refine nf dv ?_ | with_reducible refine And.intro dv ?_ | with_reducible refine bt y0 ?_ | with_reducible refine bf y0 ?_ | with_reducible refine nt y0 ?_ | with_reducible refine nf y0 ?_ | with_reducible refine And.intro y0 ?_ | with_reducible refine bt y1 ?_ | with_reducible refine bf y1 ?_ | with_reducible refine nt y1 ?_ | with_reducible refine nf y1 ?_ | with_reducible refine And.intro y1 ?_)
      exact kk _ _ hR1
    · refine m_PW_stop _ ?_
      rw [d4]
      try rw [hC.2.1]
      repeat (first | with_reducible refine bt d0 ?_ | with_reducible refine bf d0 ?_ | with_reducible refine nt d0 ?_ | with_reducible refine nf d0 ?_ | with_reducible refine And.intro d0 ?_ | with_reducible refine bt d0 ?_ | with_reducible refine bf d0 ?_ | with_reducible refine nt d0 ?_ | with_reducible refine nf d0 ?_ | with_reducible refine And.intro d0 ?_ | with_reducible refine bt d1 ?_ | with_reducible refine bf d1 ?_ | with_reducible refine nt d1 ?_ | with_reducible refine nf d1 ?_ | with_reducible refine And.intro d1 ?_ | with_reducible refine bt dv ?_ | with_reducible refine bf dv ?_ | with_reducible refine nt dv ?_ | with_reducible refine nf dv ?_ | with_reducible refine And.intro dv ?_ | with_reducible refine bt x0 ?_ | with_reducible refine bf x0 ?_ | with_reducible refine nt x0 ?_ | with_reducible refine nf x0 ?_ | with_reducible refine And.intro x0 ?_ | with_reducible refine bt x1 ?_ | with_reducible refine bf x1 ?_ | with_reducible refine nt x1 ?_ | with_reducible refine nf x1 ?_ | with_reducible refine And.intro x1 ?_ | with_reducible refine bt x2 ?_ | with_reducible refine bf x2 ?_ | with_reducible refine nt x2 ?_ | with_reducible refine nf x2 ?_ | with_reducible refine And.intro x2 ?_)
      refine m_Mo_stop _ ?_
      rw [d4]
      try rw [hM.2.1]
      repeat (first | with_reducible refine bt d0 ?_ | with_reducible refine bf d0 ?_ | with_reducible refine nt d0 ?_ | with_reducible refine nf d0 ?_ | with_reducible refine And.intro d0 ?_ | with_reducible refine bt d2 ?_ | with_reducible refine bf d2 ?_ | with_reducible refine nt d2 ?_ | with_reducible refine nf d2 ?_ | with_reducible refine And.intro d2 ?_ | with_reducible refine bt d3 ?_ | with_reducible refine bf d3 ?_ | with_reducible refine nt d3 ?_ | with_reducible refine nf d3 ?_ | with_reducible refine And.intro d3 ?_ | with_reducible refine bt dv ?_ | with_reducible refine bf dv ?_ | with_reducible refine nt dv ?_ | with_reducible refine nf dv ?_ | with_reducible refine And.intro dv ?_ | with_reducible refine bt y0 ?_ | with_reducible refine bf y0 ?_ | with_reducible refine nt y0 ?_ | with_reducible refine nf y0 ?_ | with_reducible refine And.intro y0 ?_ | with_reducible refine bt y1 ?_ | with_reducible refine bf y1 ?_ | with_reducible refine nt y1 ?_ | with_reducible refine nf y1 ?_ | with_reducible refine And.intro y1 ?_)
      exact kk _ _ hR1
    · refine m_PW_stop _ ?_
      rw [d4]
      try rw [hC.2.1]
      repeat (first | with_reducible refine bt d0 ?_ | with_reducible refine bf d0 ?_ | with_reducible refine nt d0 ?_ | with_reducible refine nf d0 ?_ | with_reducible refine And.intro d0 ?_ | with_reducible refine bt d0 ?_ | with_reducible refine bf d0 ?_ | with_reducible refine nt d0 ?_ | with_reducible refine nf d0 ?_ | with_reducible refine And.intro d0 ?_ | with_reducible refine bt d1 ?_ | with_reducible refine bf d1 ?_ | with_reducible refine nt d1 ?_ | with_reducible refine nf d1 ?_ | with_reducible refine And.intro d1 ?_ | with_reducible refine bt dv ?_ | with_reducible refine bf dv ?_ | with_reducible refine nt dv ?_ | with_reducible refine nf dv ?_ | with_reducible refine And.intro dv ?_ | with_reducible refine bt x0 ?_ | with_reducible refine bf x0 ?_ | with_reducible refine nt x0 ?_ | with_reducible refine nf x0 ?_ | with_reducible refine And.intro x0 ?_ | with_reducible refine bt x1 ?_ | with_reducible refine bf x1 ?_ | with_reducible refine nt x1 ?_ | with_reducible refine nf x1 ?_ | with_reducible refine And.intro x1 ?_ | with_reducible refine bt x2 ?_ | with_reducible refine bf x2 ?_ | with_reducible refine nt x2 ?_ | with_reducible refine nf x2 ?_ | with_reducible refine And.intro x2 ?_)
      refine m_Mo_stop _ ?_
      rw [d4]
      try rw [hM.2.1]
      repeat (first | with_reducible refine bt d0 ?_ | with_reducible refine bf d0 ?_ | with_reducible refine nt d0 ?_ | with_reducible refine nf d0 ?_ | with_reducible refine And.intro d0 ?_ | with_reducible refine bt d2 ?_ | with_reducible refine bf d2 ?_ | with_reducible refine nt d2 ?_ | with_reducible refine nf d2 ?_ | with_reducible refine And.intro d2 ?_ | with_reducible refine bt d3 ?_ | with_reducible refine bf d3 ?_ | with_reducible refine nt d3 ?_ | with_reducible refine nf d3 ?_ | with_reducible refine And.intro d3 ?_ | with_reducible refine bt dv ?_ | with_reducible refine bf dv ?_ | with_reducible refine nt dv ?_ | with_reducible refine nf dv ?_ | with_reducible refine And.intro dv ?_ | with_reducible refine bt y0 ?_ | with_reducible refine bf y0 ?_ | with_reducible refine nt y0 ?_ | with_reducible refine nf y0 ?_ | with_reducible refine And.intro y0 ?_ | with_reducible refine bt y1 ?_ | with_reducible refine bf y1 ?_ | with_reducible refine nt y1 ?_ | with_reducible refine nf y1 ?_ | with_reducible refine And.intro y1 ?_)
      exact kk _ _ hR1
    · refine m_PW_stop _ ?_
      rw [d4]
      repeat (first | with_reducible refine bt d0 ?_ | with_reducible refine bf d0 ?_ | with_reducible refine nt d0 ?_ | with_reducible refine nf d0 ?_ | with_reducible refine And.intro d0 ?_ | with_reducible refine bt d1 ?_ | with_reducible refine bf d1 ?_ | with_reducible refine nt d1 ?_ | with_reducible refine nf d1 ?_ | with_reducible refine And.intro d1 ?_ | with_reducible refine bt dv ?_ | with_reducible refine bf dv ?_ | with_reducible refine nt dv ?_ | with_reducible refine nf dv ?_ | with_reducible refine And.intro dv ?_ | with_reducible refine bt x0 ?_ | with_reducible refine bf x0 ?_ | with_reducible refine nt x0 ?_ | with_reducible refine nf x0 ?_ | with_reducible refine And.intro x0 ?_ | with_reducible refine bt x1 ?_ | with_reducible refine bf x1 ?_ | with_reducible refine nt x1 ?_ | with_reducible refine nf x1 ?_ | with_reducible refine And.intro x1 ?_ | with_reducible refine bt x2 ?_ | with_reducible refine bf x2 ?_ | with_reducible refine nt x2 ?_ | with_reducible refine nf x2 ?_ | with_reducible refine And.intro x2 ?_)
      have hl := hG'.2.2.1
      have hwk := W_walk_pln (hb := hb) (L := L) (n := n) (f := hb 2) (g := W_int (H.2.1 (43 + 2 * d + 1))) len 0 0 (-2) now
      refine c_stop (d := D + 193) hC hG (fun H1 f1 => ?_)
      rw [hwk.2, hwk.1, Nat.zero_add]
      generalize hP : W_pln n (W_int (H.2.1 (43 + 2 * d + 1))) len 0 = P
      have hPl : P ≤ len := by rw [← hP]; exact W_pln_le _ _
      have hokP : ∀ j, j < P → W_ok n (W_int (H.2.1 (43 + 2 * d + 1)) j) = true := fun j hj => ok0 (len := len) j (by rw [hP]; exact hj)
      have hM1 := (hN.c f1).ms ht
      have hG1 := hG'.fr f1 rfl
      refine m_Mo_stop _ ?_
      rw [d4, show H1.1 81 d = H.1 81 d from f1.1 81 d rfl]
      repeat (first | with_reducible refine bt d2 ?_ | with_reducible refine bf d2 ?_ | with_reducible refine nt d2 ?_ | with_reducible refine nf d2 ?_ | with_reducible refine And.intro d2 ?_ | with_reducible refine bt d3 ?_ | with_reducible refine bf d3 ?_ | with_reducible refine nt d3 ?_ | with_reducible refine nf d3 ?_ | with_reducible refine And.intro d3 ?_ | with_reducible refine bt dv ?_ | with_reducible refine bf dv ?_ | with_reducible refine nt dv ?_ | with_reducible refine nf dv ?_ | with_reducible refine And.intro dv ?_ | with_reducible refine bt y0 ?_ | with_reducible refine bf y0 ?_ | with_reducible refine nt y0 ?_ | with_reducible refine nf y0 ?_ | with_reducible refine And.intro y0 ?_ | with_reducible refine bt y1 ?_ | with_reducible refine bf y1 ?_ | with_reducible refine nt y1 ?_ | with_reducible refine nf y1 ?_ | with_reducible refine And.intro y1 ?_)
      refine c_planM (d := D + 196) hM1.2.1 hM1.2.2.1 hG1 ?_
      rw [hP]
      refine c_doesP (d := D + 125) hM1 hG1 hPl hokP (fun H2 f2 ef hT2 => ?_)
      have hV : ∀ b, b < n → RV 1100 ((W_walk hb L n (hb 2) (W_int (H.2.1 (43 + 2 * d + 1))) P 0 now 0 (-2)).2.2.2 b) := fun b hb0 => (RV_walk (hb := hb) (L := L) (n := n) (f := hb 2) (g := W_int (H.2.1 (43 + 2 * d + 1))) P 0 0 1000 (-2) now hC.2.2.2.2 b hb0).mono (by omega)
      have hM2 := hM1.fr f2
      have hlt := W_set_lt (W_isR (W_walk hb L n (hb 2) (W_int (H.2.1 (43 + 2 * d + 1))) P 0 now 0 (-2)).2.2.2) n
      have h12 : 2 ^ n ≤ 2 ^ 12 := Nat.pow_le_pow_right (by decide) hn12
      refine c_setM (d := D + 198) hM2.2.1 hn12 hT2 hV ?_
      refine c_bitsM (by omega) ?_
      rw [W_pop_set _ hn12]
      have hcl := W_cnt_le (W_isR (W_walk hb L n (hb 2) (W_int (H.2.1 (43 + 2 * d + 1))) P 0 now 0 (-2)).2.2.2) n
      refine lp_stopM (D := D) hM2 (hG1.fr f2 rfl) hPl (by omega) hokP P 0 H2 (by omega) fr.rf (fun H3 f3 => ?_)
      exact kk _ _ (hR.z f1 (f2.tr f3))
  · have hm : pm_R (D + 200) M_Mo_stop [.ref 55, .int a1] H (pm_i fun y H2 => K (-1) y H2) := by
      refine m_Mo_stop _ ?_
      try rw [hM.2.1]
      ((try (simp only [lgl, lgg, i2l_t, u32_0, u64_0, u32_1, u64_1, u32_2, u64_2, u32_3, u64_3, u32_4, u64_4, u32_5, u64_5, u32_7, u64_7, u32_12, u64_12, u32_24, u64_24, u32_30, u64_30, u32_49, u64_49, u32_60, u64_60, u32_99, u64_99, u32_255, u64_255, u32_999, u64_999, en])); (try (simp only [t_lt, t_le, u32_0, u64_0, u32_1, u64_1, u32_2, u64_2, u32_3, u64_3, u32_4, u64_4, u32_5, u64_5, u32_7, u64_7, u32_12, u64_12, u32_24, u64_24, u32_30, u64_30, u32_49, u64_49, u32_60, u64_60, u32_99, u64_99, u32_255, u64_255, u32_999, u64_999, en])); repeat' (first | with_reducible intro hh | with_reducible apply And.intro | exact vp_in_iff.mpr (by omega) | (exfalso; omega) | exact kk _ _ hR1))
    refine m_PW_stop _ ?_
    try rw [hC.2.1]
    ((try (simp only [lgl, lgg, i2l_t, u32_0, u64_0, u32_1, u64_1, u32_2, u64_2, u32_3, u64_3, u32_4, u64_4, u32_5, u64_5, u32_7, u64_7, u32_12, u64_12, u32_24, u64_24, u32_30, u64_30, u32_49, u64_49, u32_60, u64_60, u32_99, u64_99, u32_255, u64_255, u32_999, u64_999, en])); (try (simp only [t_lt, t_le, u32_0, u64_0, u32_1, u64_1, u32_2, u64_2, u32_3, u64_3, u32_4, u64_4, u32_5, u64_5, u32_7, u64_7, u32_12, u64_12, u32_24, u64_24, u32_30, u64_30, u32_49, u64_49, u32_60, u64_60, u32_99, u64_99, u32_255, u64_255, u32_999, u64_999, en])); repeat' (first | with_reducible intro hh | with_reducible apply And.intro | exact vp_in_iff.mpr (by omega) | (exfalso; omega) | exact hm))
theorem lp_fadesM {D n len d : Nat} {hb : Nat → Nat} {L : Law} {now : Nat → Row} {g : Nat → Int64} {K : Int32 → pmT → Prop} {H0 : pmT} (hM : MS hb L n now H0) (hG : MSh d len g H0) : ∀ (m v : Nat) (H : pmT), v + m = 13 → fr JQ H0 H → (∀ H', fr JQ H0 H' → K (W_fitF hb L n len g now m v) H') → pm_RW none (D + 200) M_Mo_fadesFor (pm_i K) 16 [(0, .ref 55), (1, .int (nI d)), (2, .int (nI v))] [] H
  | 0, v, H, hv, hf, kk => by
    refine b_Mo_fadesFor_16 _ _ ?_
    first | refine bt (show (12 : Int32) < nI v by rw [show v = 13 by omega]; decide) ?_ | refine bf (show (12 : Int32) < nI v by rw [show v = 13 by omega]; decide) ?_ | refine nt (show (12 : Int32) < nI v by rw [show v = 13 by omega]; decide) ?_ | refine nf (show (12 : Int32) < nI v by rw [show v = 13 by omega]; decide) ?_
    exact kk H hf
  | m + 1, v, H, hv, hf, kk => by
    have ih := lp_fadesM (D := D) (K := K) hM hG m
    have hn12 := hM.2.2.1
    refine b_Mo_fadesFor_16 _ _ ?_
    first | refine bt (show ¬ (12 : Int32) < nI v from fun z => by have := (nI_ltI (a := 12) (b := v) (by decide) (by omega)).mp z; omega) ?_ | refine bf (show ¬ (12 : Int32) < nI v from fun z => by have := (nI_ltI (a := 12) (b := v) (by decide) (by omega)).mp z; omega) ?_ | refine nt (show ¬ (12 : Int32) < nI v from fun z => by have := (nI_ltI (a := 12) (b := v) (by decide) (by omega)).mp z; omega) ?_ | refine nf (show ¬ (12 : Int32) < nI v from fun z => by have := (nI_ltI (a := 12) (b := v) (by decide) (by omega)).mp z; omega) ?_
    have hM1 := hM.fr hf
    refine c_begins hM1 (fun H1 f1 hT1 ef => ?_)
    have f2 : fr JQ H (pm_up H1.1 55 23 (nI v), H1.2) := (f1.mono (S' := JQ) rfl).up rfl
    have f2' : fr [5524] H1 (pm_up H1.1 55 23 (nI v), H1.2) := fr.rf.up rfl
    have hM2 := hM1.fr f2
    have e23 : (pm_up H1.1 55 23 (nI v), H1.2).1 55 23 = nI v := by
      show pm_up H1.1 55 23 (nI v) 55 23 = _
      rw [pm_up_self, pk_us]
    refine c_falseM (d := D + 125) hn12 (show v ≤ 12 by omega) hM2.1 e23 hM2.2.1 ((hG.fr hf rfl).fr f2 rfl) (fun b h => (hT1 b h).fr f2' rfl) hM2.2.2.2.2 (by decide) (fun H3 f3 => ?_)
    unfold W_fitF at kk
    have f3' := hf.tr (f2.tr (f3.mono (S' := JQ) rfl))
    by_cases c : W_unl hb L n v len g 31 0 now = -2
    · first | refine bt c ?_ | refine bf c ?_ | refine nt c ?_ | refine nf c ?_
      rw [if_pos c] at kk
      exact kk H3 f3'
    · first | refine bt c ?_ | refine bf c ?_ | refine nt c ?_ | refine nf c ?_
      rw [if_neg c] at kk
      rw [show nI v + (1 : Int32) = nI (v + 1) from nI_1 v]
      exact ih (v + 1) H3 (by omega) f3' kk
theorem p_fadesFor {D t : Nat} {H : pmT} {K : Int32 → Int32 → pmT → Prop} (a1 : Int32) (hR : Rel t H) (ht : t ≤ 1000) (kk : ∀ x H', Rel (t + 1) H' → K x x H') : pm_R (D + 200) M_PW_fadesFor [.ref 0, .int a1] H (pm_i fun x H1 => pm_R (D + 200) M_Mo_fadesFor [.ref 55, .int a1] H1 (pm_i fun y H2 => K x y H2)) := by
  obtain ⟨hb, L, n, now, m, hN, hT, hD⟩ := id hR
  have hC := hN.cs ht
  have hM := hN.ms ht
  have hn12 := hC.2.2.1
  have hB := hT.2.2.2.1
  have hSh := hT.2.2.2.2.2.1
  have en : (nI n - (1 : Int32)).toInt = (n : Int) - 1 := nm1_t (by omega)
  have hR1 : Rel (t + 1) H := hR.mono (Nat.le_succ _)
  by_cases hok : 0 ≤ a1.toInt ∧ a1.toInt ≤ 5
  · obtain ⟨p1, p2⟩ := hok
    obtain ⟨d, _, rfl, eb⟩ := nI_tI a1 p1
    have hd : d < 6 := by omega
    have d0 : ¬ nI d < (0 : Int32) := nI_pos (by omega)
    have d1 : nI d ≤ (5 : Int32) := nI_le (show d ≤ 5 by omega) (by decide)
    have d2 : ¬ lg_cmp (nI d).toInt64 (0 : Int64) < 0 := l_0 (by omega)
    have d3 : ¬ 0 < lg_cmp (nI d).toInt64 (5 : Int64) := l_c (by omega) (by show (d : Int) ≤ 5; omega)
    have d4 : (nI d).toNatClampNeg = d := nIc (by omega)
    have dv : vp_in (nI d) 6 := vp_in_nI hd (by decide)
    rcases bytes_cases hB.1 hd (hSh d hd) with ⟨x0, x1, y0⟩ | ⟨x0, x1, y0, y1⟩ | ⟨x0, x1, x2, y0, y1⟩ | ⟨x0, x1, x2, y0, y1, len, hG, hG'⟩
    · refine m_PW_fadesFor _ ?_
      rw [d4]
      try rw [hC.2.1]
      repeat (first | with_reducible refine bt d0 ?_ | with_reducible refine bf d0 ?_ | with_reducible refine nt d0 ?_ | with_reducible refine nf d0 ?_ | with_reducible refine And.intro d0 ?_ | with_reducible refine bt d0 ?_ | with_reducible refine bf d0 ?_ | with_reducible refine nt d0 ?_ | with_reducible refine nf d0 ?_ | with_reducible refine And.intro d0 ?_ | with_reducible refine bt d1 ?_ | with_reducible refine bf d1 ?_ | with_reducible refine nt d1 ?_ | with_reducible refine nf d1 ?_ | with_reducible refine And.intro d1 ?_ | with_reducible refine bt dv ?_ | with_reducible refine bf dv ?_ | with_reducible refine nt dv ?_ | with_reducible refine nf dv ?_ | with_reducible refine And.intro dv ?_ | with_reducible refine bt x0 ?_ | with_reducible refine bf x0 ?_ | with_reducible refine nt x0 ?_ | with_reducible refine nf x0 ?_ | with_reducible refine And.intro x0 ?_ | with_reducible refine bt x1 ?_ | with_reducible refine bf x1 ?_ | with_reducible refine nt x1 ?_ | with_reducible refine nf x1 ?_ | with_reducible refine And.intro x1 ?_ | with_reducible refine bt x2 ?_ | with_reducible refine bf x2 ?_ | with_reducible refine nt x2 ?_ | with_reducible refine nf x2 ?_ | with_reducible refine And.intro x2 ?_)
      refine m_Mo_fadesFor _ ?_
      rw [d4]
      try rw [hM.2.1]
      repeat (first | with_reducible refine bt d0 ?_ | with_reducible refine bf d0 ?_ | with_reducible refine nt d0 ?_ | with_reducible refine nf d0 ?_ | with_reducible refine And.intro d0 ?_ | with_reducible refine bt d2 ?_ | with_reducible refine bf d2 ?_ | with_reducible refine nt d2 ?_ | with_reducible refine nf d2 ?_ | with_reducible refine And.intro d2 ?_ | with_reducible refine bt d3 ?_ | with_reducible refine bf d3 ?_ | with_reducible refine nt d3 ?_ | with_reducible refine nf d3 ?_ | with_reducible refine And.intro d3 ?_ | with_reducible refine bt dv ?_ | with_reducible refine bf dv ?_ | with_reducible refine nt dv ?_ | with_reducible refine nf dv ?_ | with_reducible refine And.intro dv ?_ | with_reducible refine bt y0 ?_ | with_reducible refine bf y0 ?_ | with_reducible refine nt y0 ?_ | with_reducible refine nf y0 ?_ | with_reducible refine And.intro y0 ?_ | with_reducible refine bt y1 ?_ | with_reducible refine bf y1 ?_ | with_reducible refine nt y1 ?_ | with_reducible refine nf y1 ?_ | with_reducible refine And.intro y1 ?_)
      exact kk _ _ hR1
    · refine m_PW_fadesFor _ ?_
      rw [d4]
      try rw [hC.2.1]
      repeat (first | with_reducible refine bt d0 ?_ | with_reducible refine bf d0 ?_ | with_reducible refine nt d0 ?_ | with_reducible refine nf d0 ?_ | with_reducible refine And.intro d0 ?_ | with_reducible refine bt d0 ?_ | with_reducible refine bf d0 ?_ | with_reducible refine nt d0 ?_ | with_reducible refine nf d0 ?_ | with_reducible refine And.intro d0 ?_ | with_reducible refine bt d1 ?_ | with_reducible refine bf d1 ?_ | with_reducible refine nt d1 ?_ | with_reducible refine nf d1 ?_ | with_reducible refine And.intro d1 ?_ | with_reducible refine bt dv ?_ | with_reducible refine bf dv ?_ | with_reducible refine nt dv ?_ | with_reducible refine nf dv ?_ | with_reducible refine And.intro dv ?_ | with_reducible refine bt x0 ?_ | with_reducible refine bf x0 ?_ | with_reducible refine nt x0 ?_ | with_reducible refine nf x0 ?_ | with_reducible refine And.intro x0 ?_ | with_reducible refine bt x1 ?_ | with_reducible refine bf x1 ?_ | with_reducible refine nt x1 ?_ | with_reducible refine nf x1 ?_ | with_reducible refine And.intro x1 ?_ | with_reducible refine bt x2 ?_ | with_reducible refine bf x2 ?_ | with_reducible refine nt x2 ?_ | with_reducible refine nf x2 ?_ | with_reducible refine And.intro x2 ?_)
      refine m_Mo_fadesFor _ ?_
      rw [d4]
      try rw [hM.2.1]
      repeat (first | with_reducible refine bt d0 ?_ | with_reducible refine bf d0 ?_ | with_reducible refine nt d0 ?_ | with_reducible refine nf d0 ?_ | with_reducible refine And.intro d0 ?_ | with_reducible refine bt d2 ?_ | with_reducible refine bf d2 ?_ | with_reducible refine nt d2 ?_ | with_reducible refine nf d2 ?_ | with_reducible refine And.intro d2 ?_ | with_reducible refine bt d3 ?_ | with_reducible refine bf d3 ?_ | with_reducible refine nt d3 ?_ | with_reducible refine nf d3 ?_ | with_reducible refine And.intro d3 ?_ | with_reducible refine bt dv ?_ | with_reducible refine bf dv ?_ | with_reducible refine nt dv ?_ | with_reducible refine nf dv ?_ | with_reducible refine And.intro dv ?_ | with_reducible refine bt y0 ?_ | with_reducible refine bf y0 ?_ | with_reducible refine nt y0 ?_ | with_reducible refine nf y0 ?_ | with_reducible refine And.intro y0 ?_ | with_reducible refine bt y1 ?_ | with_reducible refine bf y1 ?_ | with_reducible refine nt y1 ?_ | with_reducible refine nf y1 ?_ | with_reducible refine And.intro y1 ?_)
      exact kk _ _ hR1
    · refine m_PW_fadesFor _ ?_
      rw [d4]
      try rw [hC.2.1]
      repeat (first | with_reducible refine bt d0 ?_ | with_reducible refine bf d0 ?_ | with_reducible refine nt d0 ?_ | with_reducible refine nf d0 ?_ | with_reducible refine And.intro d0 ?_ | with_reducible refine bt d0 ?_ | with_reducible refine bf d0 ?_ | with_reducible refine nt d0 ?_ | with_reducible refine nf d0 ?_ | with_reducible refine And.intro d0 ?_ | with_reducible refine bt d1 ?_ | with_reducible refine bf d1 ?_ | with_reducible refine nt d1 ?_ | with_reducible refine nf d1 ?_ | with_reducible refine And.intro d1 ?_ | with_reducible refine bt dv ?_ | with_reducible refine bf dv ?_ | with_reducible refine nt dv ?_ | with_reducible refine nf dv ?_ | with_reducible refine And.intro dv ?_ | with_reducible refine bt x0 ?_ | with_reducible refine bf x0 ?_ | with_reducible refine nt x0 ?_ | with_reducible refine nf x0 ?_ | with_reducible refine And.intro x0 ?_ | with_reducible refine bt x1 ?_ | with_reducible refine bf x1 ?_ | with_reducible refine nt x1 ?_ | with_reducible refine nf x1 ?_ | with_reducible refine And.intro x1 ?_ | with_reducible refine bt x2 ?_ | with_reducible refine bf x2 ?_ | with_reducible refine nt x2 ?_ | with_reducible refine nf x2 ?_ | with_reducible refine And.intro x2 ?_)
      refine m_Mo_fadesFor _ ?_
      rw [d4]
      try rw [hM.2.1]
      repeat (first | with_reducible refine bt d0 ?_ | with_reducible refine bf d0 ?_ | with_reducible refine nt d0 ?_ | with_reducible refine nf d0 ?_ | with_reducible refine And.intro d0 ?_ | with_reducible refine bt d2 ?_ | with_reducible refine bf d2 ?_ | with_reducible refine nt d2 ?_ | with_reducible refine nf d2 ?_ | with_reducible refine And.intro d2 ?_ | with_reducible refine bt d3 ?_ | with_reducible refine bf d3 ?_ | with_reducible refine nt d3 ?_ | with_reducible refine nf d3 ?_ | with_reducible refine And.intro d3 ?_ | with_reducible refine bt dv ?_ | with_reducible refine bf dv ?_ | with_reducible refine nt dv ?_ | with_reducible refine nf dv ?_ | with_reducible refine And.intro dv ?_ | with_reducible refine bt y0 ?_ | with_reducible refine bf y0 ?_ | with_reducible refine nt y0 ?_ | with_reducible refine nf y0 ?_ | with_reducible refine And.intro y0 ?_ | with_reducible refine bt y1 ?_ | with_reducible refine bf y1 ?_ | with_reducible refine nt y1 ?_ | with_reducible refine nf y1 ?_ | with_reducible refine And.intro y1 ?_)
      exact kk _ _ hR1
    · refine m_PW_fadesFor _ ?_
      rw [d4]
      repeat (first | with_reducible refine bt d0 ?_ | with_reducible refine bf d0 ?_ | with_reducible refine nt d0 ?_ | with_reducible refine nf d0 ?_ | with_reducible refine And.intro d0 ?_ | with_reducible refine bt d1 ?_ | with_reducible refine bf d1 ?_ | with_reducible refine nt d1 ?_ | with_reducible refine nf d1 ?_ | with_reducible refine And.intro d1 ?_ | with_reducible refine bt dv ?_ | with_reducible refine bf dv ?_ | with_reducible refine nt dv ?_ | with_reducible refine nf dv ?_ | with_reducible refine And.intro dv ?_ | with_reducible refine bt x0 ?_ | with_reducible refine bf x0 ?_ | with_reducible refine nt x0 ?_ | with_reducible refine nf x0 ?_ | with_reducible refine And.intro x0 ?_ | with_reducible refine bt x1 ?_ | with_reducible refine bf x1 ?_ | with_reducible refine nt x1 ?_ | with_reducible refine nf x1 ?_ | with_reducible refine And.intro x1 ?_ | with_reducible refine bt x2 ?_ | with_reducible refine bf x2 ?_ | with_reducible refine nt x2 ?_ | with_reducible refine nf x2 ?_ | with_reducible refine And.intro x2 ?_)
      refine c_fitF (d := D + 193) hC hG (fun H1 f1 => ?_)
      have hM1 := (hN.c f1).ms ht
      refine m_Mo_fadesFor _ ?_
      rw [d4, show H1.1 81 d = H.1 81 d from f1.1 81 d rfl]
      repeat (first | with_reducible refine bt d2 ?_ | with_reducible refine bf d2 ?_ | with_reducible refine nt d2 ?_ | with_reducible refine nf d2 ?_ | with_reducible refine And.intro d2 ?_ | with_reducible refine bt d3 ?_ | with_reducible refine bf d3 ?_ | with_reducible refine nt d3 ?_ | with_reducible refine nf d3 ?_ | with_reducible refine And.intro d3 ?_ | with_reducible refine bt dv ?_ | with_reducible refine bf dv ?_ | with_reducible refine nt dv ?_ | with_reducible refine nf dv ?_ | with_reducible refine And.intro dv ?_ | with_reducible refine bt y0 ?_ | with_reducible refine bf y0 ?_ | with_reducible refine nt y0 ?_ | with_reducible refine nf y0 ?_ | with_reducible refine And.intro y0 ?_ | with_reducible refine bt y1 ?_ | with_reducible refine bf y1 ?_ | with_reducible refine nt y1 ?_ | with_reducible refine nf y1 ?_ | with_reducible refine And.intro y1 ?_)
      refine lp_fadesM (D := D) hM1 (hG'.fr f1 rfl) 13 0 H1 rfl fr.rf (fun H3 f3 => ?_)
      exact kk _ _ (hR.z f1 f3)
  · have hm : pm_R (D + 200) M_Mo_fadesFor [.ref 55, .int a1] H (pm_i fun y H2 => K (-1) y H2) := by
      refine m_Mo_fadesFor _ ?_
      try rw [hM.2.1]
      ((try (simp only [lgl, lgg, i2l_t, u32_0, u64_0, u32_1, u64_1, u32_2, u64_2, u32_3, u64_3, u32_4, u64_4, u32_5, u64_5, u32_7, u64_7, u32_12, u64_12, u32_24, u64_24, u32_30, u64_30, u32_49, u64_49, u32_60, u64_60, u32_99, u64_99, u32_255, u64_255, u32_999, u64_999, en])); (try (simp only [t_lt, t_le, u32_0, u64_0, u32_1, u64_1, u32_2, u64_2, u32_3, u64_3, u32_4, u64_4, u32_5, u64_5, u32_7, u64_7, u32_12, u64_12, u32_24, u64_24, u32_30, u64_30, u32_49, u64_49, u32_60, u64_60, u32_99, u64_99, u32_255, u64_255, u32_999, u64_999, en])); repeat' (first | with_reducible intro hh | with_reducible apply And.intro | exact vp_in_iff.mpr (by omega) | (exfalso; omega) | exact kk _ _ hR1))
    refine m_PW_fadesFor _ ?_
    try rw [hC.2.1]
    ((try (simp only [lgl, lgg, i2l_t, u32_0, u64_0, u32_1, u64_1, u32_2, u64_2, u32_3, u64_3, u32_4, u64_4, u32_5, u64_5, u32_7, u64_7, u32_12, u64_12, u32_24, u64_24, u32_30, u64_30, u32_49, u64_49, u32_60, u64_60, u32_99, u64_99, u32_255, u64_255, u32_999, u64_999, en])); (try (simp only [t_lt, t_le, u32_0, u64_0, u32_1, u64_1, u32_2, u64_2, u32_3, u64_3, u32_4, u64_4, u32_5, u64_5, u32_7, u64_7, u32_12, u64_12, u32_24, u64_24, u32_30, u64_30, u32_49, u64_49, u32_60, u64_60, u32_99, u64_99, u32_255, u64_255, u32_999, u64_999, en])); repeat' (first | with_reducible intro hh | with_reducible apply And.intro | exact vp_in_iff.mpr (by omega) | (exfalso; omega) | exact hm))
theorem lp_whichM {D n len d : Nat} {hb : Nat → Nat} {L : Law} {now : Nat → Row} {g : Nat → Int64} {K : Int32 → pmT → Prop} {H0 : pmT} (hM : MS hb L n now H0) (ef : H0.1 55 23 = nI (hb 2)) (hG : MSh d len g H0) (P : Nat → Bool) (hP : ∀ b, P b = W_may hb L len g len 0 (now b)) (kk : ∀ H', fr JQ H0 H' → K (nI (W_set P n)) H') : ∀ (m b : Nat) (H : pmT), b + m = n → fr JP H0 H → pm_RW none (D + 200) M_Mo_which (pm_i K) 22 [(0, .ref 55), (1, .int (nI d)), (2, .int (nI (W_set P b))), (3, .int (nI b))] [] H
  | 0, b, H, hb0, hf => by
    have hn12 := hM.2.2.1
    have hM1 := hM.fr (hf.mono rfl)
    refine b_Mo_which_22 _ _ _ ?_
    rw [hM1.2.1, i_le _ _ (by omega) (by omega)]
    first | refine bt (show n ≤ b by omega) ?_ | refine bf (show n ≤ b by omega) ?_ | refine nt (show n ≤ b by omega) ?_ | refine nf (show n ≤ b by omega) ?_
    rw [show b = n by omega]
    exact kk H (hf.mono rfl)
  | m + 1, b, H, hb0, hf => by
    have ih := lp_whichM (D := D) (K := K) hM ef hG P hP kk m
    have hn12 := hM.2.2.1
    have hM1 := hM.fr (hf.mono rfl)
    refine b_Mo_which_22 _ _ _ ?_
    rw [hM1.2.1, i_le _ _ (by omega) (by omega)]
    first | refine bt (show ¬ n ≤ b by omega) ?_ | refine bf (show ¬ n ≤ b by omega) ?_ | refine nt (show ¬ n ≤ b by omega) ?_ | refine nf (show ¬ n ≤ b by omega) ?_
    refine m_Mo_mayBe _ _ ?_
    obtain ⟨q1, q2, q3, q4, q5, q6, q7⟩ := c_takeM (hM1.2.2.2.1 b (by omega)) (show b < 12 by omega)
    rw [q1, q2]
    refine ⟨q3, q4, q5, ?_⟩
    have f7 : fr JP H (pm_up (pm_up (pm_up (pm_up H.1 65 b (H.1 56 b)) 66 b (H.1 56 (12 + b))) 67 b (H.1 60 b)) 68 b (H.1 61 b), H.2) := q7.fr rfl rfl
    have hM2 := hM1.fr (f7.mono rfl)
    refine lp_mayM (d := D + 126) (n := n) (by omega) hM2.1 (((hf.tr f7).1 55 23 rfl).trans ef) ((hG.fr hf rfl).fr f7 rfl) len 0 1000 (now b) _ (by omega) (by decide) fb.rf q6 (hM.2.2.2.2 b (by omega)) (fun H3 f3 => ?_)
    have f3' : fr JP H0 H3 := hf.tr (f7.tr (f3.fr rfl rfl))
    have i1 := ih (b + 1) H3 (by omega) f3'
    rw [show nI b + (1 : Int32) = nI (b + 1) from nI_1 b, one_shl b (by omega), set_or (W_set_lt _ b), show nI (W_set P b) ||| (0 : Int32) = nI (W_set P b) from (nI_or _ 0).trans (by rw [Nat.or_zero])]
    unfold W_set at i1
    rw [hP b] at i1
    by_cases c : W_may hb L len g len 0 (now b) = true
    · rw [if_pos c] at i1 ⊢
      first | refine bt (show ¬ (1 : Int32) = 0 by decide) ?_ | refine bf (show ¬ (1 : Int32) = 0 by decide) ?_ | refine nt (show ¬ (1 : Int32) = 0 by decide) ?_ | refine nf (show ¬ (1 : Int32) = 0 by decide) ?_
      exact i1
    · rw [if_neg c] at i1 ⊢
      first | refine bt (show (0 : Int32) = 0 from rfl) ?_ | refine bf (show (0 : Int32) = 0 from rfl) ?_ | refine nt (show (0 : Int32) = 0 from rfl) ?_ | refine nf (show (0 : Int32) = 0 from rfl) ?_
      rw [Nat.add_zero] at i1
      exact i1
theorem p_which {D t : Nat} {H : pmT} {K : Int32 → Int32 → pmT → Prop} (a1 : Int32) (hR : Rel t H) (ht : t ≤ 1000) (kk : ∀ x H', Rel (t + 1) H' → K x x H') : pm_R (D + 200) M_PW_which [.ref 0, .int a1] H (pm_i fun x H1 => pm_R (D + 200) M_Mo_which [.ref 55, .int a1] H1 (pm_i fun y H2 => K x y H2)) := by
  obtain ⟨hb, L, n, now, m, hN, hT, hD⟩ := id hR
  have hC := hN.cs ht
  have hM := hN.ms ht
  have hn12 := hC.2.2.1
  have hB := hT.2.2.2.1
  have hSh := hT.2.2.2.2.2.1
  have en : (nI n - (1 : Int32)).toInt = (n : Int) - 1 := nm1_t (by omega)
  have hR1 : Rel (t + 1) H := hR.mono (Nat.le_succ _)
  by_cases hok : 0 ≤ a1.toInt ∧ a1.toInt ≤ 5
  · obtain ⟨p1, p2⟩ := hok
    obtain ⟨d, _, rfl, eb⟩ := nI_tI a1 p1
    have hd : d < 6 := by omega
    have d0 : ¬ nI d < (0 : Int32) := nI_pos (by omega)
    have d1 : nI d ≤ (5 : Int32) := nI_le (show d ≤ 5 by omega) (by decide)
    have d2 : ¬ lg_cmp (nI d).toInt64 (0 : Int64) < 0 := l_0 (by omega)
    have d3 : ¬ 0 < lg_cmp (nI d).toInt64 (5 : Int64) := l_c (by omega) (by show (d : Int) ≤ 5; omega)
    have d4 : (nI d).toNatClampNeg = d := nIc (by omega)
    have dv : vp_in (nI d) 6 := vp_in_nI hd (by decide)
    rcases bytes_cases hB.1 hd (hSh d hd) with ⟨x0, x1, y0⟩ | ⟨x0, x1, y0, y1⟩ | ⟨x0, x1, x2, y0, y1⟩ | ⟨x0, x1, x2, y0, y1, len, hG, hG'⟩
    · refine m_PW_which _ ?_
      rw [d4]
      try rw [hC.2.1]
      repeat (first | with_reducible refine bt d0 ?_ | with_reducible refine bf d0 ?_ | with_reducible refine nt d0 ?_ | with_reducible refine nf d0 ?_ | with_reducible refine And.intro d0 ?_ | with_reducible refine bt d0 ?_ | with_reducible refine bf d0 ?_ | with_reducible refine nt d0 ?_ | with_reducible refine nf d0 ?_ | with_reducible refine And.intro d0 ?_ | with_reducible refine bt d1 ?_ | with_reducible refine bf d1 ?_ | with_reducible refine nt d1 ?_ | with_reducible refine nf d1 ?_ | with_reducible refine And.intro d1 ?_ | with_reducible refine bt dv ?_ | with_reducible refine bf dv ?_ | with_reducible refine nt dv ?_ | with_reducible refine nf dv ?_ | with_reducible refine And.intro dv ?_ | with_reducible refine bt x0 ?_ | with_reducible refine bf x0 ?_ | with_reducible refine nt x0 ?_ | with_reducible refine nf x0 ?_ | with_reducible refine And.intro x0 ?_ | with_reducible refine bt x1 ?_ | with_reducible refine bf x1 ?_ | with_reducible refine nt x1 ?_ | with_reducible refine nf x1 ?_ | with_reducible refine And.intro x1 ?_ | with_reducible refine bt x2 ?_ | with_reducible refine bf x2 ?_ | with_reducible refine nt x2 ?_ | with_reducible refine nf x2 ?_ | with_reducible refine And.intro x2 ?_)
      refine m_Mo_which _ ?_
      rw [d4]
      try rw [hM.2.1]
      repeat (first | with_reducible refine bt d0 ?_ | with_reducible refine bf d0 ?_ | with_reducible refine nt d0 ?_ | with_reducible refine nf d0 ?_ | with_reducible refine And.intro d0 ?_ | with_reducible refine bt d2 ?_ | with_reducible refine bf d2 ?_ | with_reducible refine nt d2 ?_ | with_reducible refine nf d2 ?_ | with_reducible refine And.intro d2 ?_ | with_reducible refine bt d3 ?_ | with_reducible refine bf d3 ?_ | with_reducible refine nt d3 ?_ | with_reducible refine nf d3 ?_ | with_reducible refine And.intro d3 ?_ | with_reducible refine bt dv ?_ | with_reducible refine bf dv ?_ | with_reducible refine nt dv ?_ | with_reducible refine nf dv ?_ | with_reducible refine And.intro dv ?_ | with_reducible refine bt y0 ?_ | with_reducible refine bf y0 ?_ | with_reducible refine nt y0 ?_ | with_reducible refine nf y0 ?_ | with_reducible refine And.intro y0 ?_ | with_reducible refine bt y1 ?_ | with_reducible refine bf y1 ?_ | with_reducible refine nt y1 ?_ | with_reducible refine nf y1 ?_ | with_reducible refine And.intro y1 ?_)
      exact kk _ _ hR1
    · refine m_PW_which _ ?_
      rw [d4]
      try rw [hC.2.1]
      repeat (first | with_reducible refine bt d0 ?_ | with_reducible refine bf d0 ?_ | with_reducible refine nt d0 ?_ | with_reducible refine nf d0 ?_ | with_reducible refine And.intro d0 ?_ | with_reducible refine bt d0 ?_ | with_reducible refine bf d0 ?_ | with_reducible refine nt d0 ?_ | with_reducible refine nf d0 ?_ | with_reducible refine And.intro d0 ?_ | with_reducible refine bt d1 ?_ | with_reducible refine bf d1 ?_ | with_reducible refine nt d1 ?_ | with_reducible refine nf d1 ?_ | with_reducible refine And.intro d1 ?_ | with_reducible refine bt dv ?_ | with_reducible refine bf dv ?_ | with_reducible refine nt dv ?_ | with_reducible refine nf dv ?_ | with_reducible refine And.intro dv ?_ | with_reducible refine bt x0 ?_ | with_reducible refine bf x0 ?_ | with_reducible refine nt x0 ?_ | with_reducible refine nf x0 ?_ | with_reducible refine And.intro x0 ?_ | with_reducible refine bt x1 ?_ | with_reducible refine bf x1 ?_ | with_reducible refine nt x1 ?_ | with_reducible refine nf x1 ?_ | with_reducible refine And.intro x1 ?_ | with_reducible refine bt x2 ?_ | with_reducible refine bf x2 ?_ | with_reducible refine nt x2 ?_ | with_reducible refine nf x2 ?_ | with_reducible refine And.intro x2 ?_)
      refine m_Mo_which _ ?_
      rw [d4]
      try rw [hM.2.1]
      repeat (first | with_reducible refine bt d0 ?_ | with_reducible refine bf d0 ?_ | with_reducible refine nt d0 ?_ | with_reducible refine nf d0 ?_ | with_reducible refine And.intro d0 ?_ | with_reducible refine bt d2 ?_ | with_reducible refine bf d2 ?_ | with_reducible refine nt d2 ?_ | with_reducible refine nf d2 ?_ | with_reducible refine And.intro d2 ?_ | with_reducible refine bt d3 ?_ | with_reducible refine bf d3 ?_ | with_reducible refine nt d3 ?_ | with_reducible refine nf d3 ?_ | with_reducible refine And.intro d3 ?_ | with_reducible refine bt dv ?_ | with_reducible refine bf dv ?_ | with_reducible refine nt dv ?_ | with_reducible refine nf dv ?_ | with_reducible refine And.intro dv ?_ | with_reducible refine bt y0 ?_ | with_reducible refine bf y0 ?_ | with_reducible refine nt y0 ?_ | with_reducible refine nf y0 ?_ | with_reducible refine And.intro y0 ?_ | with_reducible refine bt y1 ?_ | with_reducible refine bf y1 ?_ | with_reducible refine nt y1 ?_ | with_reducible refine nf y1 ?_ | with_reducible refine And.intro y1 ?_)
      exact kk _ _ hR1
    · refine m_PW_which _ ?_
      rw [d4]
      try rw [hC.2.1]
      repeat (first | with_reducible refine bt d0 ?_ | with_reducible refine bf d0 ?_ | with_reducible refine nt d0 ?_ | with_reducible refine nf d0 ?_ | with_reducible refine And.intro d0 ?_ | with_reducible refine bt d0 ?_ | with_reducible refine bf d0 ?_ | with_reducible refine nt d0 ?_ | with_reducible refine nf d0 ?_ | with_reducible refine And.intro d0 ?_ | with_reducible refine bt d1 ?_ | with_reducible refine bf d1 ?_ | with_reducible refine nt d1 ?_ | with_reducible refine nf d1 ?_ | with_reducible refine And.intro d1 ?_ | with_reducible refine bt dv ?_ | with_reducible refine bf dv ?_ | with_reducible refine nt dv ?_ | with_reducible refine nf dv ?_ | with_reducible refine And.intro dv ?_ | with_reducible refine bt x0 ?_ | with_reducible refine bf x0 ?_ | with_reducible refine nt x0 ?_ | with_reducible refine nf x0 ?_ | with_reducible refine And.intro x0 ?_ | with_reducible refine bt x1 ?_ | with_reducible refine bf x1 ?_ | with_reducible refine nt x1 ?_ | with_reducible refine nf x1 ?_ | with_reducible refine And.intro x1 ?_ | with_reducible refine bt x2 ?_ | with_reducible refine bf x2 ?_ | with_reducible refine nt x2 ?_ | with_reducible refine nf x2 ?_ | with_reducible refine And.intro x2 ?_)
      refine m_Mo_which _ ?_
      rw [d4]
      try rw [hM.2.1]
      repeat (first | with_reducible refine bt d0 ?_ | with_reducible refine bf d0 ?_ | with_reducible refine nt d0 ?_ | with_reducible refine nf d0 ?_ | with_reducible refine And.intro d0 ?_ | with_reducible refine bt d2 ?_ | with_reducible refine bf d2 ?_ | with_reducible refine nt d2 ?_ | with_reducible refine nf d2 ?_ | with_reducible refine And.intro d2 ?_ | with_reducible refine bt d3 ?_ | with_reducible refine bf d3 ?_ | with_reducible refine nt d3 ?_ | with_reducible refine nf d3 ?_ | with_reducible refine And.intro d3 ?_ | with_reducible refine bt dv ?_ | with_reducible refine bf dv ?_ | with_reducible refine nt dv ?_ | with_reducible refine nf dv ?_ | with_reducible refine And.intro dv ?_ | with_reducible refine bt y0 ?_ | with_reducible refine bf y0 ?_ | with_reducible refine nt y0 ?_ | with_reducible refine nf y0 ?_ | with_reducible refine And.intro y0 ?_ | with_reducible refine bt y1 ?_ | with_reducible refine bf y1 ?_ | with_reducible refine nt y1 ?_ | with_reducible refine nf y1 ?_ | with_reducible refine And.intro y1 ?_)
      exact kk _ _ hR1
    · refine m_PW_which _ ?_
      rw [d4]
      repeat (first | with_reducible refine bt d0 ?_ | with_reducible refine bf d0 ?_ | with_reducible refine nt d0 ?_ | with_reducible refine nf d0 ?_ | with_reducible refine And.intro d0 ?_ | with_reducible refine bt d1 ?_ | with_reducible refine bf d1 ?_ | with_reducible refine nt d1 ?_ | with_reducible refine nf d1 ?_ | with_reducible refine And.intro d1 ?_ | with_reducible refine bt dv ?_ | with_reducible refine bf dv ?_ | with_reducible refine nt dv ?_ | with_reducible refine nf dv ?_ | with_reducible refine And.intro dv ?_ | with_reducible refine bt x0 ?_ | with_reducible refine bf x0 ?_ | with_reducible refine nt x0 ?_ | with_reducible refine nf x0 ?_ | with_reducible refine And.intro x0 ?_ | with_reducible refine bt x1 ?_ | with_reducible refine bf x1 ?_ | with_reducible refine nt x1 ?_ | with_reducible refine nf x1 ?_ | with_reducible refine And.intro x1 ?_ | with_reducible refine bt x2 ?_ | with_reducible refine bf x2 ?_ | with_reducible refine nt x2 ?_ | with_reducible refine nf x2 ?_ | with_reducible refine And.intro x2 ?_)
      refine c_like (d := D + 194) hC hG (fun H1 f1 => ?_)
      have hM1 := (hN.c f1).ms ht
      refine m_Mo_which _ ?_
      rw [d4, show H1.1 81 d = H.1 81 d from f1.1 81 d rfl]
      repeat (first | with_reducible refine bt d2 ?_ | with_reducible refine bf d2 ?_ | with_reducible refine nt d2 ?_ | with_reducible refine nf d2 ?_ | with_reducible refine And.intro d2 ?_ | with_reducible refine bt d3 ?_ | with_reducible refine bf d3 ?_ | with_reducible refine nt d3 ?_ | with_reducible refine nf d3 ?_ | with_reducible refine And.intro d3 ?_ | with_reducible refine bt dv ?_ | with_reducible refine bf dv ?_ | with_reducible refine nt dv ?_ | with_reducible refine nf dv ?_ | with_reducible refine And.intro dv ?_ | with_reducible refine bt y0 ?_ | with_reducible refine bf y0 ?_ | with_reducible refine nt y0 ?_ | with_reducible refine nf y0 ?_ | with_reducible refine And.intro y0 ?_ | with_reducible refine bt y1 ?_ | with_reducible refine bf y1 ?_ | with_reducible refine nt y1 ?_ | with_reducible refine nf y1 ?_ | with_reducible refine And.intro y1 ?_)
      refine c_begins hM1 (fun H2 f2 hT2 ef => ?_)
      have f2' : fr JQ H1 H2 := f2.mono rfl
      refine lp_whichM (D := D) (hM1.fr f2') ef ((hG'.fr f1 rfl).fr f2 rfl) _ (fun _ => rfl) (fun H3 f3 => ?_) n 0 H2 (by omega) fr.rf
      exact kk _ _ (hR.z f1 (f2'.tr f3))
  · have hm : pm_R (D + 200) M_Mo_which [.ref 55, .int a1] H (pm_i fun y H2 => K (-1) y H2) := by
      refine m_Mo_which _ ?_
      try rw [hM.2.1]
      ((try (simp only [lgl, lgg, i2l_t, u32_0, u64_0, u32_1, u64_1, u32_2, u64_2, u32_3, u64_3, u32_4, u64_4, u32_5, u64_5, u32_7, u64_7, u32_12, u64_12, u32_24, u64_24, u32_30, u64_30, u32_49, u64_49, u32_60, u64_60, u32_99, u64_99, u32_255, u64_255, u32_999, u64_999, en])); (try (simp only [t_lt, t_le, u32_0, u64_0, u32_1, u64_1, u32_2, u64_2, u32_3, u64_3, u32_4, u64_4, u32_5, u64_5, u32_7, u64_7, u32_12, u64_12, u32_24, u64_24, u32_30, u64_30, u32_49, u64_49, u32_60, u64_60, u32_99, u64_99, u32_255, u64_255, u32_999, u64_999, en])); repeat' (first | with_reducible intro hh | with_reducible apply And.intro | exact vp_in_iff.mpr (by omega) | (exfalso; omega) | exact kk _ _ hR1))
    refine m_PW_which _ ?_
    try rw [hC.2.1]
    ((try (simp only [lgl, lgg, i2l_t, u32_0, u64_0, u32_1, u64_1, u32_2, u64_2, u32_3, u64_3, u32_4, u64_4, u32_5, u64_5, u32_7, u64_7, u32_12, u64_12, u32_24, u64_24, u32_30, u64_30, u32_49, u64_49, u32_60, u64_60, u32_99, u64_99, u32_255, u64_255, u32_999, u64_999, en])); (try (simp only [t_lt, t_le, u32_0, u64_0, u32_1, u64_1, u32_2, u64_2, u32_3, u64_3, u32_4, u64_4, u32_5, u64_5, u32_7, u64_7, u32_12, u64_12, u32_24, u64_24, u32_30, u64_30, u32_49, u64_49, u32_60, u64_60, u32_99, u64_99, u32_255, u64_255, u32_999, u64_999, en])); repeat' (first | with_reducible intro hh | with_reducible apply And.intro | exact vp_in_iff.mpr (by omega) | (exfalso; omega) | exact hm))
