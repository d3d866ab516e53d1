/-! calls in pairs: hearing, of -/
theorem p_hearing {D t : Nat} {H : pmT} {K : Int32 → Int32 → pmT → Prop} (a1 a2 a3 : Int32) (hR : Rel t H) (ht : t ≤ 1000) (kk : ∀ x H', Rel (t + 1) H' → K x x H') : pm_R (D + 200) M_PW_hearing [.ref 0, .int a1, .int a2, .int a3] H (pm_i fun x H1 => pm_R (D + 200) M_Mo_hearing [.ref 55, .int a1, .int a2, .int a3] H1 (pm_i fun y H2 => K x y H2)) := by
  obtain ⟨hb, L, n, now, m, hN, hT, hD⟩ := id hR
  have hC := hN.cs ht
  have hM := hN.ms ht
  have hn12 := hC.2.2.1
  have hB := hT.2.2.2.1
  have hSh := hT.2.2.2.2.2.1
  have en : (nI n - (1 : Int32)).toInt = (n : Int) - 1 := nm1_t (by omega)
  have hR1 : Rel (t + 1) H := hR.mono (Nat.le_succ _)
  have l100 : (100 : Int32).toInt = 100 := rfl
  by_cases h0 : 0 ≤ a1.toInt
  · obtain ⟨x, hx31, rfl, ex⟩ := nI_tI a1 h0
    have eq : nI x / (100 : Int32) = nI (x / 100) := pk_div (d := 100) hx31 (by decide) (by decide)
    have er : nI x - nI x / (100 : Int32) * (100 : Int32) = nI (x % 100) := pk_rem (d := 100) hx31 (by decide) (by decide)
    have etq : (nI (x / 100)).toInt = (x / 100 : Nat) := nI_toInt (by omega)
    have etr : (nI (x % 100)).toInt = (x % 100 : Nat) := nI_toInt (by omega)
    by_cases hok : (x / 100 < n ∧ x % 100 < n) ∧ (0 ≤ a2.toInt ∧ a2.toInt ≤ 30) ∧ (0 ≤ a3.toInt ∧ a3.toInt ≤ 2)
    · obtain ⟨⟨haa, hbb⟩, ⟨p3, p4⟩, p5, p6⟩ := hok
      obtain ⟨N, _, rfl, eN⟩ := nI_tI a2 p3
      obtain ⟨w, _, rfl, es⟩ := nI_tI a3 p5
      generalize hqa : x / 100 = a at eq etq haa
      generalize hqb : x % 100 = b at er etr hbb
      rw [eq] at er
      have a0 : ¬ nI a < (0 : Int32) := nI_pos (by omega)
      have a1 : nI a ≤ nI n - (1 : Int32) := le_pred haa (by omega)
      have a2 : ¬ lg_cmp (nI a).toInt64 (0 : Int64) < 0 := l_0 (by omega)
      have a3 : ¬ 0 < lg_cmp (nI a).toInt64 ((nI n - (1 : Int32)).toInt64) := l_n haa (by omega)
      have a4 : (nI a).toNatClampNeg = a := nIc (by omega)
      have a5 : vp_in (nI a) 12 := vp_in_nI (by omega) (by decide)
      have b0 : ¬ nI b < (0 : Int32) := nI_pos (by omega)
      have b1 : nI b ≤ nI n - (1 : Int32) := le_pred hbb (by omega)
      have b2 : ¬ lg_cmp (nI b).toInt64 (0 : Int64) < 0 := l_0 (by omega)
      have b3 : ¬ 0 < lg_cmp (nI b).toInt64 ((nI n - (1 : Int32)).toInt64) := l_n hbb (by omega)
      have b4 : (nI b).toNatClampNeg = b := nIc (by omega)
      have b5 : vp_in (nI b) 12 := vp_in_nI (by omega) (by decide)
      have N0 : ¬ nI N < (0 : Int32) := nI_pos (by omega)
      have N1 : nI N ≤ (30 : Int32) := nI_le (show N ≤ 30 by omega) (by decide)
      have N2 : ¬ lg_cmp (nI N).toInt64 (0 : Int64) < 0 := l_0 (by omega)
      have N3 : ¬ 0 < lg_cmp (nI N).toInt64 (30 : Int64) := l_c (by omega) (by show (N : Int) ≤ 30; omega)
      have N4 : (nI N).toNatClampNeg = N := nIc (by omega)
      have w0 : ¬ nI w < (0 : Int32) := nI_pos (by omega)
      have w1 : nI w ≤ (2 : Int32) := nI_le (show w ≤ 2 by omega) (by decide)
      have w2 : ¬ lg_cmp (nI w).toInt64 (0 : Int64) < 0 := l_0 (by omega)
      have w3 : ¬ 0 < lg_cmp (nI w).toInt64 (2 : Int64) := l_c (by omega) (by show (w : Int) ≤ 2; omega)
      have w4 : (nI w).toNatClampNeg = w := nIc (by omega)
      have x0 : ¬ nI x < 0 := nI_pos hx31
      have ew0 : (nI w = (0 : Int32)) = (w = 0) := i_eq w 0 (by omega) (by decide)
      have ew1 : (nI w = (1 : Int32)) = (w = 1) := i_eq w 1 (by omega) (by decide)
      refine m_PW_hearing _ _ _ ?_
      rw [eq, er, hC.2.1]
      repeat (first | with_reducible refine bt x0 ?_ | with_reducible refine bf x0 ?_ | with_reducible refine nt x0 ?_ | with_reducible refine nf x0 ?_ | with_reducible refine And.intro x0 ?_ | with_reducible refine bt a0 ?_ | with_reducible refine bf a0 ?_ | with_reducible refine nt a0 ?_ | with_reducible refine nf a0 ?_ | with_reducible refine And.intro a0 ?_ | with_reducible refine bt a1 ?_ | with_reducible refine bf a1 ?_ | with_reducible refine nt a1 ?_ | with_reducible refine nf a1 ?_ | with_reducible refine And.intro a1 ?_ | with_reducible refine bt b0 ?_ | with_reducible refine bf b0 ?_ | with_reducible refine nt b0 ?_ | with_reducible refine nf b0 ?_ | with_reducible refine And.intro b0 ?_ | with_reducible refine bt b1 ?_ | with_reducible refine bf b1 ?_ | with_reducible refine nt b1 ?_ | with_reducible refine nf b1 ?_ | with_reducible refine And.intro b1 ?_ | with_reducible refine bt N0 ?_ | with_reducible refine bf N0 ?_ | with_reducible refine nt N0 ?_ | with_reducible refine nf N0 ?_ | with_reducible refine And.intro N0 ?_ | with_reducible refine bt N1 ?_ | with_reducible refine bf N1 ?_ | with_reducible refine nt N1 ?_ | with_reducible refine nf N1 ?_ | with_reducible refine And.intro N1 ?_ | with_reducible refine bt w0 ?_ | with_reducible refine bf w0 ?_ | with_reducible refine nt w0 ?_ | with_reducible refine nf w0 ?_ | with_reducible refine And.intro w0 ?_ | with_reducible refine bt w1 ?_ | with_reducible refine bf w1 ?_ | with_reducible refine nt w1 ?_ | with_reducible refine nf w1 ?_ | with_reducible refine And.intro w1 ?_)
      refine c_hear (d := D + 195) (show N ≤ 30 by omega) hC haa hbb (fun H1 f1 t0 t1 e25 => ?_)
      generalize hW : W_hear hb L N 0 (now a) (now b) (-2) = W at t0 t1 e25
      have hM1 := (hN.c f1).ms ht
      have ref : ∀ x1 : Int32, x1 = (if w = 2 then W.2.2 else if w = 0 then nI W.1.1 - nI W.1.2.1 else nI W.2.1.1 - nI W.2.1.2.1) → pm_R (D + 200) M_Mo_hearing [.ref 55, .int (nI x), .int (nI N), .int (nI w)] H1 (pm_i fun y H2 => K x1 y H2) := by
        intro x1 ex1
        refine m_Mo_hearing _ _ _ ?_
        rw [eq, er, hM1.2.1]
        repeat (first | with_reducible refine bt x0 ?_ | with_reducible refine bf x0 ?_ | with_reducible refine nt x0 ?_ | with_reducible refine nf x0 ?_ | with_reducible refine And.intro x0 ?_ | with_reducible refine bt a2 ?_ | with_reducible refine bf a2 ?_ | with_reducible refine nt a2 ?_ | with_reducible refine nf a2 ?_ | with_reducible refine And.intro a2 ?_ | with_reducible refine bt a3 ?_ | with_reducible refine bf a3 ?_ | with_reducible refine nt a3 ?_ | with_reducible refine nf a3 ?_ | with_reducible refine And.intro a3 ?_ | with_reducible refine bt b2 ?_ | with_reducible refine bf b2 ?_ | with_reducible refine nt b2 ?_ | with_reducible refine nf b2 ?_ | with_reducible refine And.intro b2 ?_ | with_reducible refine bt b3 ?_ | with_reducible refine bf b3 ?_ | with_reducible refine nt b3 ?_ | with_reducible refine nf b3 ?_ | with_reducible refine And.intro b3 ?_ | with_reducible refine bt N2 ?_ | with_reducible refine bf N2 ?_ | with_reducible refine nt N2 ?_ | with_reducible refine nf N2 ?_ | with_reducible refine And.intro N2 ?_ | with_reducible refine bt N3 ?_ | with_reducible refine bf N3 ?_ | with_reducible refine nt N3 ?_ | with_reducible refine nf N3 ?_ | with_reducible refine And.intro N3 ?_ | with_reducible refine bt w2 ?_ | with_reducible refine bf w2 ?_ | with_reducible refine nt w2 ?_ | with_reducible refine nf w2 ?_ | with_reducible refine And.intro w2 ?_ | with_reducible refine bt w3 ?_ | with_reducible refine bf w3 ?_ | with_reducible refine nt w3 ?_ | with_reducible refine nf w3 ?_ | with_reducible refine And.intro w3 ?_)
        refine c_begins hM1 (fun H2 f2 hT2 ef => ?_)
        have f2' : fr JQ H1 H2 := f2.mono rfl
        have hM2 := hM1.fr f2'
        rw [a4, b4]
        refine ⟨a5, b5, ?_⟩
        obtain ⟨q1, q2, q3, q4, q5⟩ := hT2 a haa
        obtain ⟨z1, z2, z3, z4, z5⟩ := hT2 b hbb
        rw [q1, q2, q4, q5, z1, z2, z4, z5]
        have f3s : fr [7200, 7300, 7400, 7500] H2 (pm_up (pm_up (pm_up (pm_up (pm_up (pm_up (pm_up (pm_up H2.1 72 0 (nI (now a).1)) 73 0 (nI (now a).2.1)) 74 0 (nI (now a).2.2.2.1)) 75 0 (nI (now a).2.2.2.2)) 72 1 (nI (now b).1)) 73 1 (nI (now b).2.1)) 74 1 (nI (now b).2.2.2.1)) 75 1 (nI (now b).2.2.2.2), H2.2) := (((((((fr.rf.up (o := 72) rfl).up (o := 73) rfl).up (o := 74) rfl).up (o := 75) rfl).up (o := 72) rfl).up (o := 73) rfl).up (o := 74) rfl).up (o := 75) rfl
        have f3 := f3s.mono (S' := JQ) rfl
        refine lp_hearM (D := D) (show N ≤ 30 by omega) (hM2.fr f3) ((f3s.1 55 23 rfl).trans ef) haa hbb (show w ≤ 2 by omega) W (fun H4 f4 => ?_) N 0 1000 (now a) (now b) (-2) _ (by omega) (by decide) fr.rf ⟨rfl, rfl, rfl, rfl⟩ ⟨rfl, rfl, rfl, rfl⟩ rfl rfl (hM2.2.2.2.2 a haa) (hM2.2.2.2.2 b hbb) (Or.inl rfl) hW
        rw [← ex1]
        exact kk _ _ (hR.z f1 (f2'.tr (f3.tr f4)))
      rw [ew0, ew1]
      by_cases cw : w = 0
      · first | refine bt cw ?_ | refine bf cw ?_ | refine nt cw ?_ | refine nf cw ?_
        rw [t0.1, t0.2.1]
        exact ref _ (by rw [if_neg (by omega), if_pos cw])
      · first | refine bt cw ?_ | refine bf cw ?_ | refine nt cw ?_ | refine nf cw ?_
        by_cases cw1 : w = 1
        · first | refine bt cw1 ?_ | refine bf cw1 ?_ | refine nt cw1 ?_ | refine nf cw1 ?_
          rw [t1.1, t1.2.1]
          exact ref _ (by rw [if_neg (by omega), if_neg cw])
        · first | refine bt cw1 ?_ | refine bf cw1 ?_ | refine nt cw1 ?_ | refine nf cw1 ?_
          rw [e25]
          exact ref _ (by rw [if_pos (by omega)])
    · have hm : pm_R (D + 200) M_Mo_hearing [.ref 55, .int (nI x), .int a2, .int a3] H (pm_i fun y H2 => K (-2000000000) y H2) := by
        refine m_Mo_hearing _ _ _ ?_
        rw [er, eq, hM.2.1]
        ((try (simp only [lgl, lgg, i2l_t, u32_0, u64_0, u32_1, u64_1, u32_2, u64_2, u32_3, u64_3, u32_4, u64_4, u32_5, u64_5, u32_7, u64_7, u32_12, u64_12, u32_24, u64_24, u32_30, u64_30, u32_49, u64_49, u32_60, u64_60, u32_99, u64_99, u32_255, u64_255, u32_999, u64_999, en, etq, etr])); (try (simp only [t_lt, t_le, u32_0, u64_0, u32_1, u64_1, u32_2, u64_2, u32_3, u64_3, u32_4, u64_4, u32_5, u64_5, u32_7, u64_7, u32_12, u64_12, u32_24, u64_24, u32_30, u64_30, u32_49, u64_49, u32_60, u64_60, u32_99, u64_99, u32_255, u64_255, u32_999, u64_999, en, etq, etr])); repeat' (first | with_reducible intro hh | with_reducible apply And.intro | exact vp_in_iff.mpr (by omega) | (exfalso; omega) | exact kk _ _ hR1))
      refine m_PW_hearing _ _ _ ?_
      rw [er, eq, hC.2.1]
      ((try (simp only [lgl, lgg, i2l_t, u32_0, u64_0, u32_1, u64_1, u32_2, u64_2, u32_3, u64_3, u32_4, u64_4, u32_5, u64_5, u32_7, u64_7, u32_12, u64_12, u32_24, u64_24, u32_30, u64_30, u32_49, u64_49, u32_60, u64_60, u32_99, u64_99, u32_255, u64_255, u32_999, u64_999, en, etq, etr])); (try (simp only [t_lt, t_le, u32_0, u64_0, u32_1, u64_1, u32_2, u64_2, u32_3, u64_3, u32_4, u64_4, u32_5, u64_5, u32_7, u64_7, u32_12, u64_12, u32_24, u64_24, u32_30, u64_30, u32_49, u64_49, u32_60, u64_60, u32_99, u64_99, u32_255, u64_255, u32_999, u64_999, en, etq, etr])); repeat' (first | with_reducible intro hh | with_reducible apply And.intro | exact vp_in_iff.mpr (by omega) | (exfalso; omega) | exact hm))
  · have c0 : a1 < 0 := by rw [t_lt, u32_0]; omega
    refine m_PW_hearing _ _ _ ?_
    first | refine bt c0 ?_ | refine bf c0 ?_ | refine nt c0 ?_ | refine nf c0 ?_
    refine m_Mo_hearing _ _ _ ?_
    first | refine bt c0 ?_ | refine bf c0 ?_ | refine nt c0 ?_ | refine nf c0 ?_
    exact kk _ _ hR1
/-! places -/
theorem c_place {d n : Nat} {H : pmT} {K : Int32 → pmT → Prop} (hn : H.1 55 6 = nI n) (hn12 : n ≤ 12) (a1 a2 : Int32) (k1 : ∀ nb w, a1 = nI nb → a2 = nI w → w ≤ 2 → nb < n → K (nI (W_at nb w)) H) (k2 : ∀ w, a1 = 0 → a2 = nI w → 3 ≤ w → w ≤ 7 → K (nI (W_at 0 w)) H) (k3 : ¬ ((0 ≤ a2.toInt ∧ a2.toInt ≤ 2 ∧ 0 ≤ a1.toInt ∧ a1.toInt < n) ∨ (a1.toInt = 0 ∧ 3 ≤ a2.toInt ∧ a2.toInt ≤ 7)) → K (-1) H) : pm_R (d + 2) M_Mo_placeOf [.ref 55, .int a1, .int a2] H (pm_i K) := by
  have en : (nI n - (1 : Int32)).toInt = (n : Int) - 1 := nm1_t (by omega)
  refine m_Mo_placeOf _ _ ?_
  rw [hn]
  by_cases h1 : 0 ≤ a2.toInt ∧ a2.toInt ≤ 2 ∧ 0 ≤ a1.toInt ∧ a1.toInt < n
  · obtain ⟨p1, p2, p3, p4⟩ := h1
    obtain ⟨nb, _, rfl, e1⟩ := nI_tI a1 p3
    obtain ⟨w, _, rfl, e2⟩ := nI_tI a2 p1
    have hw : w ≤ 2 := by omega
    have hb : nb < n := by omega
    have c1 : ¬ lg_cmp (nI w).toInt64 (0 : Int64) < 0 := l_0 (by omega)
    have c2 : ¬ 0 < lg_cmp (nI w).toInt64 (2 : Int64) := l_c (by omega) (by show (w : Int) ≤ 2; omega)
    have c3 : ¬ lg_cmp (nI nb).toInt64 (0 : Int64) < 0 := l_0 (by omega)
    have c4 := l_n hb (show n < 2 ^ 30 by omega)
    repeat (first | with_reducible refine bt c1 ?_ | with_reducible refine bf c1 ?_ | with_reducible refine nt c1 ?_ | with_reducible refine nf c1 ?_ | with_reducible refine And.intro c1 ?_ | with_reducible refine bt c2 ?_ | with_reducible refine bf c2 ?_ | with_reducible refine nt c2 ?_ | with_reducible refine nf c2 ?_ | with_reducible refine And.intro c2 ?_ | with_reducible refine bt c3 ?_ | with_reducible refine bf c3 ?_ | with_reducible refine nt c3 ?_ | with_reducible refine nf c3 ?_ | with_reducible refine And.intro c3 ?_ | with_reducible refine bt c4 ?_ | with_reducible refine bf c4 ?_ | with_reducible refine nt c4 ?_ | with_reducible refine nf c4 ?_ | with_reducible refine And.intro c4 ?_)
    have := k1 nb w rfl rfl hw hb
    unfold W_at at this
    rw [if_pos hw] at this
    rw [show (12 : Int32) * nI w = nI (12 * w) from pk_mul 12 w, nI_add]
    exact this
  · by_cases h2 : a1.toInt = 0 ∧ 3 ≤ a2.toInt ∧ a2.toInt ≤ 7
    · obtain ⟨q1, q2, q3⟩ := h2
      have e1 : a1 = 0 := Int32.toInt_inj.mp q1
      obtain ⟨w, _, rfl, e2⟩ := nI_tI a2 (by omega)
      have c1 : ¬ lg_cmp (nI w).toInt64 (0 : Int64) < 0 := l_0 (by omega)
      have c2 : 0 < lg_cmp (nI w).toInt64 (2 : Int64) := by rw [lgg, i2l_t, e2]; show (2 : Int) < w; omega
      have c3 : ¬ lg_cmp (nI w).toInt64 (3 : Int64) < 0 := by rw [lgl, i2l_t, e2]; show ¬ (w : Int) < 3; omega
      have c4 : ¬ 0 < lg_cmp (nI w).toInt64 (7 : Int64) := l_c (by omega) (by show (w : Int) ≤ 7; omega)
      repeat (first | with_reducible refine bt c1 ?_ | with_reducible refine bf c1 ?_ | with_reducible refine nt c1 ?_ | with_reducible refine nf c1 ?_ | with_reducible refine And.intro c1 ?_ | with_reducible refine bt c2 ?_ | with_reducible refine bf c2 ?_ | with_reducible refine nt c2 ?_ | with_reducible refine nf c2 ?_ | with_reducible refine And.intro c2 ?_ | with_reducible refine bt e1 ?_ | with_reducible refine bf e1 ?_ | with_reducible refine nt e1 ?_ | with_reducible refine nf e1 ?_ | with_reducible refine And.intro e1 ?_ | with_reducible refine bt c3 ?_ | with_reducible refine bf c3 ?_ | with_reducible refine nt c3 ?_ | with_reducible refine nf c3 ?_ | with_reducible refine And.intro c3 ?_ | with_reducible refine bt c4 ?_ | with_reducible refine bf c4 ?_ | with_reducible refine nt c4 ?_ | with_reducible refine nf c4 ?_ | with_reducible refine And.intro c4 ?_)
      have := k2 w e1 rfl (by omega) (by omega)
      unfold W_at at this
      rw [if_neg (by omega)] at this
      rw [show (36 : Int32) + nI w = nI (36 + w) from nI_add 36 w, show nI (36 + w) - (3 : Int32) = nI (36 + w - 3) from pk_sub (b := 3) (by omega), show 36 + w - 3 = 36 + (w - 3) by omega]
      exact this
    · have k4 := k3 (fun z => z.elim h1 h2)
      simp only [t_eq, u32_0]
      ((try (simp only [lgl, lgg, i2l_t, u32_0, u64_0, u32_1, u64_1, u32_2, u64_2, u32_3, u64_3, u32_4, u64_4, u32_5, u64_5, u32_7, u64_7, u32_12, u64_12, u32_24, u64_24, u32_30, u64_30, u32_49, u64_49, u32_60, u64_60, u32_99, u64_99, u32_255, u64_255, u32_999, u64_999, en])); (try (simp only [t_lt, t_le, u32_0, u64_0, u32_1, u64_1, u32_2, u64_2, u32_3, u64_3, u32_4, u64_4, u32_5, u64_5, u32_7, u64_7, u32_12, u64_12, u32_24, u64_24, u32_30, u64_30, u32_49, u64_49, u32_60, u64_60, u32_99, u64_99, u32_255, u64_255, u32_999, u64_999, en])); repeat' (first | with_reducible intro hh | with_reducible apply And.intro | exact vp_in_iff.mpr (by omega) | (exfalso; omega) | exact k4))
theorem habC {hb : Nat → Nat} {L : Law} {H : pmT} {w : Nat} (h : CX hb L H) (h3 : 3 ≤ w) (h7 : w ≤ 7) : H.1 20 (w - 3) = nI (hb (w - 3)) := by
  obtain ⟨q1, q2, q3, q4, q5⟩ := h.1
  rcases (show w = 3 ∨ w = 4 ∨ w = 5 ∨ w = 6 ∨ w = 7 by omega) with e | e | e | e | e <;> subst e <;> assumption
theorem habM {hb : Nat → Nat} {L : Law} {H : pmT} {w : Nat} (h : MX hb L H) (h3 : 3 ≤ w) (h7 : w ≤ 7) : H.1 56 (36 + (w - 3)) = nI (hb (w - 3)) := by
  obtain ⟨q1, q2, q3, q4, q5⟩ := h.1
  rcases (show w = 3 ∨ w = 4 ∨ w = 5 ∨ w = 6 ∨ w = 7 by omega) with e | e | e | e | e <;> subst e <;> assumption
def fld (r : Row) (w : Nat) : Nat := if w = 0 then r.1 else if w = 1 then r.2.1 else r.2.2.1
theorem fldM {H : pmT} {b w : Nat} {r : Row} (h : PR H b r) (hw : w ≤ 2) : H.1 56 (W_at b w) = nI (fld r w) := by
  obtain ⟨h1, h2, h3, h4⟩ := h
  rcases (show w = 0 ∨ w = 1 ∨ w = 2 by omega) with e | e | e <;> subst e
  · show H.1 56 (12 * 0 + b) = _
    rw [show 12 * 0 + b = b by omega]; exact h1
  · exact h2
  · exact h3
theorem p_of {D t : Nat} {H : pmT} {K : Int32 → Int32 → pmT → Prop} (a1 a2 : Int32) (hR : Rel t H) (ht : t ≤ 1000) (kk : ∀ x H', Rel (t + 1) H' → K x x H') : pm_R (D + 200) M_PW_of [.ref 0, .int a1, .int a2] H (pm_i fun x H1 => pm_R (D + 200) M_Mo_of [.ref 55, .int a1, .int a2] H1 (pm_i fun y H2 => K x y H2)) := by
  obtain ⟨hb, L, n, now, m, hN, hT, hD⟩ := id hR
  have hC := hN.cs ht
  have hM := hN.ms ht
  have hn12 := hC.2.2.1
  have hB := hT.2.2.2.1
  have hSh := hT.2.2.2.2.2.1
  have en : (nI n - (1 : Int32)).toInt = (n : Int) - 1 := nm1_t (by omega)
  have hR1 : Rel (t + 1) H := hR.mono (Nat.le_succ _)
  have u10 : (10 : Int32).toInt = 10 := rfl
  have u11 : (11 : Int32).toInt = 11 := rfl
  have u87 : ((8 : Int32) - (1 : Int32)).toInt = 7 := rfl
  have e87 : (8 : Int32) - (1 : Int32) = 7 := rfl
  by_cases hB1 : 0 ≤ a1.toInt ∧ a1.toInt < n
  · obtain ⟨p1, p2⟩ := hB1
    obtain ⟨b, _, rfl, eb⟩ := nI_tI a1 p1
    have hbb : b < n := by omega
    have b0 : ¬ nI b < (0 : Int32) := nI_pos (by omega)
    have b1 : nI b ≤ nI n - (1 : Int32) := le_pred hbb (by omega)
    have b2 : ¬ lg_cmp (nI b).toInt64 (0 : Int64) < 0 := l_0 (by omega)
    have b3 : ¬ 0 < lg_cmp (nI b).toInt64 ((nI n - (1 : Int32)).toInt64) := l_n hbb (by omega)
    have b4 : (nI b).toNatClampNeg = b := nIc (by omega)
    have b5 : vp_in (nI b) 12 := vp_in_nI (by omega) (by decide)
    obtain ⟨n1, n2, n3, n4, n5⟩ := hC.2.2.2.1 b hbb
    have hPR := hM.2.2.2.1 b hbb
    by_cases c10 : a2 = 10
    · refine m_PW_of _ _ ?_
      rw [hC.2.1, b4, n4]
      repeat (first | with_reducible refine bt c10 ?_ | with_reducible refine bf c10 ?_ | with_reducible refine nt c10 ?_ | with_reducible refine nf c10 ?_ | with_reducible refine And.intro c10 ?_ | with_reducible refine bt b0 ?_ | with_reducible refine bf b0 ?_ | with_reducible refine nt b0 ?_ | with_reducible refine nf b0 ?_ | with_reducible refine And.intro b0 ?_ | with_reducible refine bt b1 ?_ | with_reducible refine bf b1 ?_ | with_reducible refine nt b1 ?_ | with_reducible refine nf b1 ?_ | with_reducible refine And.intro b1 ?_ | with_reducible refine bt b5 ?_ | with_reducible refine bf b5 ?_ | with_reducible refine nt b5 ?_ | with_reducible refine nf b5 ?_ | with_reducible refine And.intro b5 ?_)
      refine m_Mo_of _ _ ?_
      refine c_place (d := D + 197) hM.2.1 hn12 _ _ (fun nb w e1 e2 h3 h4 => ?_) (fun w e1 e2 h3 h4 => ?_) (fun _ => ?_)
      · rw [c10] at e2; have := (nI_eq (a := 10) (b := w) (by decide) (by omega)).mp e2; omega
      · rw [c10] at e2; have := (nI_eq (a := 10) (b := w) (by decide) (by omega)).mp e2; omega
      · rw [hM.2.1, b4, hPR.2.2.2.1]
        repeat (first | with_reducible refine bt (show (-1 : Int32) < 0 by decide) ?_ | with_reducible refine bf (show (-1 : Int32) < 0 by decide) ?_ | with_reducible refine nt (show (-1 : Int32) < 0 by decide) ?_ | with_reducible refine nf (show (-1 : Int32) < 0 by decide) ?_ | with_reducible refine And.intro (show (-1 : Int32) < 0 by decide) ?_ | with_reducible refine bt b2 ?_ | with_reducible refine bf b2 ?_ | with_reducible refine nt b2 ?_ | with_reducible refine nf b2 ?_ | with_reducible refine And.intro b2 ?_ | with_reducible refine bt b3 ?_ | with_reducible refine bf b3 ?_ | with_reducible refine nt b3 ?_ | with_reducible refine nf b3 ?_ | with_reducible refine And.intro b3 ?_ | with_reducible refine bt c10 ?_ | with_reducible refine bf c10 ?_ | with_reducible refine nt c10 ?_ | with_reducible refine nf c10 ?_ | with_reducible refine And.intro c10 ?_ | with_reducible refine bt b5 ?_ | with_reducible refine bf b5 ?_ | with_reducible refine nt b5 ?_ | with_reducible refine nf b5 ?_ | with_reducible refine And.intro b5 ?_)
        exact kk _ _ hR1
    · by_cases c11 : a2 = 11
      · refine m_PW_of _ _ ?_
        rw [hC.2.1, b4, n5]
        repeat (first | with_reducible refine bt c10 ?_ | with_reducible refine bf c10 ?_ | with_reducible refine nt c10 ?_ | with_reducible refine nf c10 ?_ | with_reducible refine And.intro c10 ?_ | with_reducible refine bt c11 ?_ | with_reducible refine bf c11 ?_ | with_reducible refine nt c11 ?_ | with_reducible refine nf c11 ?_ | with_reducible refine And.intro c11 ?_ | with_reducible refine bt b0 ?_ | with_reducible refine bf b0 ?_ | with_reducible refine nt b0 ?_ | with_reducible refine nf b0 ?_ | with_reducible refine And.intro b0 ?_ | with_reducible refine bt b1 ?_ | with_reducible refine bf b1 ?_ | with_reducible refine nt b1 ?_ | with_reducible refine nf b1 ?_ | with_reducible refine And.intro b1 ?_ | with_reducible refine bt b5 ?_ | with_reducible refine bf b5 ?_ | with_reducible refine nt b5 ?_ | with_reducible refine nf b5 ?_ | with_reducible refine And.intro b5 ?_)
        refine m_Mo_of _ _ ?_
        refine c_place (d := D + 197) hM.2.1 hn12 _ _ (fun nb w e1 e2 h3 h4 => ?_) (fun w e1 e2 h3 h4 => ?_) (fun _ => ?_)
        · rw [c11] at e2; have := (nI_eq (a := 11) (b := w) (by decide) (by omega)).mp e2; omega
        · rw [c11] at e2; have := (nI_eq (a := 11) (b := w) (by decide) (by omega)).mp e2; omega
        · rw [hM.2.1, b4, hPR.2.2.2.2]
          repeat (first | with_reducible refine bt (show (-1 : Int32) < 0 by decide) ?_ | with_reducible refine bf (show (-1 : Int32) < 0 by decide) ?_ | with_reducible refine nt (show (-1 : Int32) < 0 by decide) ?_ | with_reducible refine nf (show (-1 : Int32) < 0 by decide) ?_ | with_reducible refine And.intro (show (-1 : Int32) < 0 by decide) ?_ | with_reducible refine bt b2 ?_ | with_reducible refine bf b2 ?_ | with_reducible refine nt b2 ?_ | with_reducible refine nf b2 ?_ | with_reducible refine And.intro b2 ?_ | with_reducible refine bt b3 ?_ | with_reducible refine bf b3 ?_ | with_reducible refine nt b3 ?_ | with_reducible refine nf b3 ?_ | with_reducible refine And.intro b3 ?_ | with_reducible refine bt c10 ?_ | with_reducible refine bf c10 ?_ | with_reducible refine nt c10 ?_ | with_reducible refine nf c10 ?_ | with_reducible refine And.intro c10 ?_ | with_reducible refine bt c11 ?_ | with_reducible refine bf c11 ?_ | with_reducible refine nt c11 ?_ | with_reducible refine nf c11 ?_ | with_reducible refine And.intro c11 ?_ | with_reducible refine bt b5 ?_ | with_reducible refine bf b5 ?_ | with_reducible refine nt b5 ?_ | with_reducible refine nf b5 ?_ | with_reducible refine And.intro b5 ?_)
          exact kk _ _ hR1
      · by_cases h2 : 0 ≤ a2.toInt ∧ a2.toInt ≤ 2
        · obtain ⟨w, _, rfl, ew⟩ := nI_tI a2 h2.1
          have hw : w ≤ 2 := by omega
          have w0 : ¬ nI w < (0 : Int32) := nI_pos (by omega)
          have w1 : nI w ≤ (8 : Int32) - (1 : Int32) := nI_le (a := w) (b := 7) (by omega) (by decide)
          have w3 : ¬ (3 : Int32) ≤ nI w := nI_ge (a := w) (b := 3) (by omega) (by decide)
          have e0 : (nI w = (0 : Int32)) = (w = 0) := i_eq w 0 (by omega) (by decide)
          have e1 : (nI w = (1 : Int32)) = (w = 1) := i_eq w 1 (by omega) (by decide)
          have e2 : (nI w = (2 : Int32)) = (w = 2) := i_eq w 2 (by omega) (by decide)
          have ref : pm_R (D + 200) M_Mo_of [.ref 55, .int (nI b), .int (nI w)] H (pm_i fun y H2 => K (nI (fld (now b) w)) y H2) := by
            refine m_Mo_of _ _ ?_
            refine c_place (d := D + 197) hM.2.1 hn12 _ _ (fun nb w' z1 z2 h3 h4 => ?_) (fun w' z1 z2 h3 h4 => ?_) (fun z => absurd (Or.inl ⟨by omega, by omega, by omega, by omega⟩) z)
            · have y1 := (nI_eq (a := b) (b := nb) (by omega) (by omega)).mp z1
              have y2 := (nI_eq (a := w) (b := w') (by omega) (by omega)).mp z2
              subst y1; subst y2
              have hlt : W_at b w < 41 := by unfold W_at; split <;> omega
              repeat (first | with_reducible refine bt (nI_pos (show W_at b w < 2 ^ 31 by omega)) ?_ | with_reducible refine bf (nI_pos (show W_at b w < 2 ^ 31 by omega)) ?_ | with_reducible refine nt (nI_pos (show W_at b w < 2 ^ 31 by omega)) ?_ | with_reducible refine nf (nI_pos (show W_at b w < 2 ^ 31 by omega)) ?_ | with_reducible refine And.intro (nI_pos (show W_at b w < 2 ^ 31 by omega)) ?_)
              rw [nIc (show W_at b w < 2 ^ 31 by omega), fldM hPR hw]
              exact ⟨vp_in_nI hlt (by decide), kk _ _ hR1⟩
            · have y2 := (nI_eq (a := w) (b := w') (by omega) (by omega)).mp z2
              omega
          refine m_PW_of _ _ ?_
          rw [hC.2.1, b4, n1, n2, n3]
          repeat (first | with_reducible refine bt c10 ?_ | with_reducible refine bf c10 ?_ | with_reducible refine nt c10 ?_ | with_reducible refine nf c10 ?_ | with_reducible refine And.intro c10 ?_ | with_reducible refine bt c11 ?_ | with_reducible refine bf c11 ?_ | with_reducible refine nt c11 ?_ | with_reducible refine nf c11 ?_ | with_reducible refine And.intro c11 ?_ | with_reducible refine bt w0 ?_ | with_reducible refine bf w0 ?_ | with_reducible refine nt w0 ?_ | with_reducible refine nf w0 ?_ | with_reducible refine And.intro w0 ?_ | with_reducible refine bt w1 ?_ | with_reducible refine bf w1 ?_ | with_reducible refine nt w1 ?_ | with_reducible refine nf w1 ?_ | with_reducible refine And.intro w1 ?_ | with_reducible refine bt w3 ?_ | with_reducible refine bf w3 ?_ | with_reducible refine nt w3 ?_ | with_reducible refine nf w3 ?_ | with_reducible refine And.intro w3 ?_ | with_reducible refine bt b0 ?_ | with_reducible refine bf b0 ?_ | with_reducible refine nt b0 ?_ | with_reducible refine nf b0 ?_ | with_reducible refine And.intro b0 ?_ | with_reducible refine bt b1 ?_ | with_reducible refine bf b1 ?_ | with_reducible refine nt b1 ?_ | with_reducible refine nf b1 ?_ | with_reducible refine And.intro b1 ?_)
          rw [e0, e1, e2]
          unfold fld at ref
          rcases (show w = 0 ∨ w = 1 ∨ w = 2 by omega) with z | z | z <;> subst z
          · repeat (first | with_reducible refine bt (show 0 = 0 from rfl) ?_ | with_reducible refine bf (show 0 = 0 from rfl) ?_ | with_reducible refine nt (show 0 = 0 from rfl) ?_ | with_reducible refine nf (show 0 = 0 from rfl) ?_ | with_reducible refine And.intro (show 0 = 0 from rfl) ?_ | with_reducible refine bt b5 ?_ | with_reducible refine bf b5 ?_ | with_reducible refine nt b5 ?_ | with_reducible refine nf b5 ?_ | with_reducible refine And.intro b5 ?_)
            exact ref
          · repeat (first | with_reducible refine bt (show ¬ 1 = 0 by decide) ?_ | with_reducible refine bf (show ¬ 1 = 0 by decide) ?_ | with_reducible refine nt (show ¬ 1 = 0 by decide) ?_ | with_reducible refine nf (show ¬ 1 = 0 by decide) ?_ | with_reducible refine And.intro (show ¬ 1 = 0 by decide) ?_ | with_reducible refine bt (show 1 = 1 from rfl) ?_ | with_reducible refine bf (show 1 = 1 from rfl) ?_ | with_reducible refine nt (show 1 = 1 from rfl) ?_ | with_reducible refine nf (show 1 = 1 from rfl) ?_ | with_reducible refine And.intro (show 1 = 1 from rfl) ?_ | with_reducible refine bt b5 ?_ | with_reducible refine bf b5 ?_ | with_reducible refine nt b5 ?_ | with_reducible refine nf b5 ?_ | with_reducible refine And.intro b5 ?_)
            exact ref
          · repeat (first | with_reducible refine bt (show ¬ 2 = 0 by decide) ?_ | with_reducible refine bf (show ¬ 2 = 0 by decide) ?_ | with_reducible refine nt (show ¬ 2 = 0 by decide) ?_ | with_reducible refine nf (show ¬ 2 = 0 by decide) ?_ | with_reducible refine And.intro (show ¬ 2 = 0 by decide) ?_ | with_reducible refine bt (show ¬ 2 = 1 by decide) ?_ | with_reducible refine bf (show ¬ 2 = 1 by decide) ?_ | with_reducible refine nt (show ¬ 2 = 1 by decide) ?_ | with_reducible refine nf (show ¬ 2 = 1 by decide) ?_ | with_reducible refine And.intro (show ¬ 2 = 1 by decide) ?_ | with_reducible refine bt (show 2 = 2 from rfl) ?_ | with_reducible refine bf (show 2 = 2 from rfl) ?_ | with_reducible refine nt (show 2 = 2 from rfl) ?_ | with_reducible refine nf (show 2 = 2 from rfl) ?_ | with_reducible refine And.intro (show 2 = 2 from rfl) ?_ | with_reducible refine bt b5 ?_ | with_reducible refine bf b5 ?_ | with_reducible refine nt b5 ?_ | with_reducible refine nf b5 ?_ | with_reducible refine And.intro b5 ?_)
            exact ref
        · by_cases h3 : b = 0 ∧ 3 ≤ a2.toInt ∧ a2.toInt ≤ 7
          · obtain ⟨rfl, h3, h7⟩ := h3
            obtain ⟨w, _, rfl, ew⟩ := nI_tI a2 (by omega)
            have w0 : ¬ nI w < (0 : Int32) := nI_pos (by omega)
            have w1 : nI w ≤ (8 : Int32) - (1 : Int32) := nI_le (a := w) (b := 7) (by omega) (by decide)
            have w3 : (3 : Int32) ≤ nI w := nI_le (a := 3) (b := w) (by omega) (by omega)
            have c10 : ¬ nI w = (10 : Int32) := fun z => by have := (nI_eq (a := w) (b := 10) (by omega) (by decide)).mp z; omega
            have c11 : ¬ nI w = (11 : Int32) := fun z => by have := (nI_eq (a := w) (b := 11) (by omega) (by decide)).mp z; omega
            have d0 : ¬ nI w = (0 : Int32) := fun z => by have := (nI_eq (a := w) (b := 0) (by omega) (by decide)).mp z; omega
            have d1 : ¬ nI w = (1 : Int32) := fun z => by have := (nI_eq (a := w) (b := 1) (by omega) (by decide)).mp z; omega
            have d2 : ¬ nI w = (2 : Int32) := fun z => by have := (nI_eq (a := w) (b := 2) (by omega) (by decide)).mp z; omega
            have z0 : nI 0 = (0 : Int32) := rfl
            have es : nI w - (3 : Int32) = nI (w - 3) := pk_sub (b := 3) (by omega)
            refine m_PW_of _ _ ?_
            rw [es, nIc (show w - 3 < 2 ^ 31 by omega), habC hC.1 (by omega) (by omega)]
            repeat (first | with_reducible refine bt c10 ?_ | with_reducible refine bf c10 ?_ | with_reducible refine nt c10 ?_ | with_reducible refine nf c10 ?_ | with_reducible refine And.intro c10 ?_ | with_reducible refine bt c11 ?_ | with_reducible refine bf c11 ?_ | with_reducible refine nt c11 ?_ | with_reducible refine nf c11 ?_ | with_reducible refine And.intro c11 ?_ | with_reducible refine bt w0 ?_ | with_reducible refine bf w0 ?_ | with_reducible refine nt w0 ?_ | with_reducible refine nf w0 ?_ | with_reducible refine And.intro w0 ?_ | with_reducible refine bt w1 ?_ | with_reducible refine bf w1 ?_ | with_reducible refine nt w1 ?_ | with_reducible refine nf w1 ?_ | with_reducible refine And.intro w1 ?_ | with_reducible refine bt w3 ?_ | with_reducible refine bf w3 ?_ | with_reducible refine nt w3 ?_ | with_reducible refine nf w3 ?_ | with_reducible refine And.intro w3 ?_ | with_reducible refine bt z0 ?_ | with_reducible refine bf z0 ?_ | with_reducible refine nt z0 ?_ | with_reducible refine nf z0 ?_ | with_reducible refine And.intro z0 ?_ | with_reducible refine bt (show (0 : Int32) = 0 from rfl) ?_ | with_reducible refine bf (show (0 : Int32) = 0 from rfl) ?_ | with_reducible refine nt (show (0 : Int32) = 0 from rfl) ?_ | with_reducible refine nf (show (0 : Int32) = 0 from rfl) ?_ | with_reducible refine And.intro (show (0 : Int32) = 0 from rfl) ?_ | with_reducible refine bt d0 ?_ | with_reducible refine bf d0 ?_ | with_reducible refine nt d0 ?_ | with_reducible refine nf d0 ?_ | with_reducible refine And.intro d0 ?_ | with_reducible refine bt d1 ?_ | with_reducible refine bf d1 ?_ | with_reducible refine nt d1 ?_ | with_reducible refine nf d1 ?_ | with_reducible refine And.intro d1 ?_ | with_reducible refine bt d2 ?_ | with_reducible refine bf d2 ?_ | with_reducible refine nt d2 ?_ | with_reducible refine nf d2 ?_ | with_reducible refine And.intro d2 ?_)
            refine ⟨vp_in_nI (by omega) (by decide), ?_⟩
            refine m_Mo_of _ _ ?_
            refine c_place (d := D + 197) hM.2.1 hn12 _ _ (fun nb w' y1 y2 z3 z4 => ?_) (fun w' y1 y2 z3 z4 => ?_) (fun z => absurd (Or.inr ⟨rfl, by omega, by omega⟩) z)
            · have := (nI_eq (a := w) (b := w') (by omega) (by omega)).mp y2
              omega
            · have y3 := (nI_eq (a := w) (b := w') (by omega) (by omega)).mp y2
              subst y3
              have hat : W_at 0 w = 36 + (w - 3) := if_neg (by omega)
              rw [hat]
              repeat (first | with_reducible refine bt (nI_pos (show 36 + (w - 3) < 2 ^ 31 by omega)) ?_ | with_reducible refine bf (nI_pos (show 36 + (w - 3) < 2 ^ 31 by omega)) ?_ | with_reducible refine nt (nI_pos (show 36 + (w - 3) < 2 ^ 31 by omega)) ?_ | with_reducible refine nf (nI_pos (show 36 + (w - 3) < 2 ^ 31 by omega)) ?_ | with_reducible refine And.intro (nI_pos (show 36 + (w - 3) < 2 ^ 31 by omega)) ?_)
              rw [nIc (show 36 + (w - 3) < 2 ^ 31 by omega), habM hM.1 (by omega) (by omega)]
              exact ⟨vp_in_nI (by omega) (by decide), kk _ _ hR1⟩
          · have hm : pm_R (D + 200) M_Mo_of [.ref 55, .int (nI b), .int a2] H (pm_i fun y H2 => K (-1) y H2) := by
              refine m_Mo_of _ _ ?_
              refine c_place (d := D + 197) hM.2.1 hn12 _ _ (fun nb w e1 e2 z3 z4 => ?_) (fun w e1 e2 z3 z4 => ?_) (fun _ => ?_)
              · exfalso; rw [e2, nI_toInt (by omega)] at h2; omega
              · exfalso
                have : b = 0 := (nI_eq (a := b) (b := 0) (by omega) (by decide)).mp e1
                rw [e2, nI_toInt (by omega)] at h3; omega
              · rw [hM.2.1]
                repeat (first | with_reducible refine bt (show (-1 : Int32) < 0 by decide) ?_ | with_reducible refine bf (show (-1 : Int32) < 0 by decide) ?_ | with_reducible refine nt (show (-1 : Int32) < 0 by decide) ?_ | with_reducible refine nf (show (-1 : Int32) < 0 by decide) ?_ | with_reducible refine And.intro (show (-1 : Int32) < 0 by decide) ?_ | with_reducible refine bt b2 ?_ | with_reducible refine bf b2 ?_ | with_reducible refine nt b2 ?_ | with_reducible refine nf b2 ?_ | with_reducible refine And.intro b2 ?_ | with_reducible refine bt b3 ?_ | with_reducible refine bf b3 ?_ | with_reducible refine nt b3 ?_ | with_reducible refine nf b3 ?_ | with_reducible refine And.intro b3 ?_ | with_reducible refine bt c10 ?_ | with_reducible refine bf c10 ?_ | with_reducible refine nt c10 ?_ | with_reducible refine nf c10 ?_ | with_reducible refine And.intro c10 ?_ | with_reducible refine bt c11 ?_ | with_reducible refine bf c11 ?_ | with_reducible refine nt c11 ?_ | with_reducible refine nf c11 ?_ | with_reducible refine And.intro c11 ?_)
                exact kk _ _ hR1
            refine m_PW_of _ _ ?_
            rw [hC.2.1]
            repeat (first | with_reducible refine bt c10 ?_ | with_reducible refine bf c10 ?_ | with_reducible refine nt c10 ?_ | with_reducible refine nf c10 ?_ | with_reducible refine And.intro c10 ?_ | with_reducible refine bt c11 ?_ | with_reducible refine bf c11 ?_ | with_reducible refine nt c11 ?_ | with_reducible refine nf c11 ?_ | with_reducible refine And.intro c11 ?_ | with_reducible refine bt b0 ?_ | with_reducible refine bf b0 ?_ | with_reducible refine nt b0 ?_ | with_reducible refine nf b0 ?_ | with_reducible refine And.intro b0 ?_ | with_reducible refine bt b1 ?_ | with_reducible refine bf b1 ?_ | with_reducible refine nt b1 ?_ | with_reducible refine nf b1 ?_ | with_reducible refine And.intro b1 ?_)
            have ez : (nI b).toInt = (b : Int) := nI_toInt (by omega)
            simp only [t_eq, u32_0]
            ((try (simp only [lgl, lgg, i2l_t, u32_0, u64_0, u32_1, u64_1, u32_2, u64_2, u32_3, u64_3, u32_4, u64_4, u32_5, u64_5, u32_7, u64_7, u32_12, u64_12, u32_24, u64_24, u32_30, u64_30, u32_49, u64_49, u32_60, u64_60, u32_99, u64_99, u32_255, u64_255, u32_999, u64_999, en, u87, ez])); (try (simp only [t_lt, t_le, u32_0, u64_0, u32_1, u64_1, u32_2, u64_2, u32_3, u64_3, u32_4, u64_4, u32_5, u64_5, u32_7, u64_7, u32_12, u64_12, u32_24, u64_24, u32_30, u64_30, u32_49, u64_49, u32_60, u64_60, u32_99, u64_99, u32_255, u64_255, u32_999, u64_999, en, u87, ez])); repeat' (first | with_reducible intro hh | with_reducible apply And.intro | exact vp_in_iff.mpr (by omega) | (exfalso; omega) | exact hm))
  · by_cases h3 : a1 = 0 ∧ 3 ≤ a2.toInt ∧ a2.toInt ≤ 7
    · obtain ⟨rfl, h3, h7⟩ := h3
      obtain ⟨w, _, rfl, ew⟩ := nI_tI a2 (by omega)
      have w0 : ¬ nI w < (0 : Int32) := nI_pos (by omega)
      have w1 : nI w ≤ (8 : Int32) - (1 : Int32) := nI_le (a := w) (b := 7) (by omega) (by decide)
      have w3 : (3 : Int32) ≤ nI w := nI_le (a := 3) (b := w) (by omega) (by omega)
      have c10 : ¬ nI w = (10 : Int32) := fun z => by have := (nI_eq (a := w) (b := 10) (by omega) (by decide)).mp z; omega
      have c11 : ¬ nI w = (11 : Int32) := fun z => by have := (nI_eq (a := w) (b := 11) (by omega) (by decide)).mp z; omega
      have d0 : ¬ nI w = (0 : Int32) := fun z => by have := (nI_eq (a := w) (b := 0) (by omega) (by decide)).mp z; omega
      have d1 : ¬ nI w = (1 : Int32) := fun z => by have := (nI_eq (a := w) (b := 1) (by omega) (by decide)).mp z; omega
      have d2 : ¬ nI w = (2 : Int32) := fun z => by have := (nI_eq (a := w) (b := 2) (by omega) (by decide)).mp z; omega
      have z0 : nI 0 = (0 : Int32) := rfl
      have es : nI w - (3 : Int32) = nI (w - 3) := pk_sub (b := 3) (by omega)
      refine m_PW_of _ _ ?_
      rw [es, nIc (show w - 3 < 2 ^ 31 by omega), habC hC.1 (by omega) (by omega)]
      repeat (first | with_reducible refine bt c10 ?_ | with_reducible refine bf c10 ?_ | with_reducible refine nt c10 ?_ | with_reducible refine nf c10 ?_ | with_reducible refine And.intro c10 ?_ | with_reducible refine bt c11 ?_ | with_reducible refine bf c11 ?_ | with_reducible refine nt c11 ?_ | with_reducible refine nf c11 ?_ | with_reducible refine And.intro c11 ?_ | with_reducible refine bt w0 ?_ | with_reducible refine bf w0 ?_ | with_reducible refine nt w0 ?_ | with_reducible refine nf w0 ?_ | with_reducible refine And.intro w0 ?_ | with_reducible refine bt w1 ?_ | with_reducible refine bf w1 ?_ | with_reducible refine nt w1 ?_ | with_reducible refine nf w1 ?_ | with_reducible refine And.intro w1 ?_ | with_reducible refine bt w3 ?_ | with_reducible refine bf w3 ?_ | with_reducible refine nt w3 ?_ | with_reducible refine nf w3 ?_ | with_reducible refine And.intro w3 ?_ | with_reducible refine bt z0 ?_ | with_reducible refine bf z0 ?_ | with_reducible refine nt z0 ?_ | with_reducible refine nf z0 ?_ | with_reducible refine And.intro z0 ?_ | with_reducible refine bt (show (0 : Int32) = 0 from rfl) ?_ | with_reducible refine bf (show (0 : Int32) = 0 from rfl) ?_ | with_reducible refine nt (show (0 : Int32) = 0 from rfl) ?_ | with_reducible refine nf (show (0 : Int32) = 0 from rfl) ?_ | with_reducible refine And.intro (show (0 : Int32) = 0 from rfl) ?_ | with_reducible refine bt d0 ?_ | with_reducible refine bf d0 ?_ | with_reducible refine nt d0 ?_ | with_reducible refine nf d0 ?_ | with_reducible refine And.intro d0 ?_ | with_reducible refine bt d1 ?_ | with_reducible refine bf d1 ?_ | with_reducible refine nt d1 ?_ | with_reducible refine nf d1 ?_ | with_reducible refine And.intro d1 ?_ | with_reducible refine bt d2 ?_ | with_reducible refine bf d2 ?_ | with_reducible refine nt d2 ?_ | with_reducible refine nf d2 ?_ | with_reducible refine And.intro d2 ?_)
      refine ⟨vp_in_nI (by omega) (by decide), ?_⟩
      refine m_Mo_of _ _ ?_
      refine c_place (d := D + 197) hM.2.1 hn12 _ _ (fun nb w' y1 y2 z3 z4 => ?_) (fun w' y1 y2 z3 z4 => ?_) (fun z => absurd (Or.inr ⟨rfl, by omega, by omega⟩) z)
      · have := (nI_eq (a := w) (b := w') (by omega) (by omega)).mp y2
        omega
      · have y3 := (nI_eq (a := w) (b := w') (by omega) (by omega)).mp y2
        subst y3
        have hat : W_at 0 w = 36 + (w - 3) := if_neg (by omega)
        rw [hat]
        repeat (first | with_reducible refine bt (nI_pos (show 36 + (w - 3) < 2 ^ 31 by omega)) ?_ | with_reducible refine bf (nI_pos (show 36 + (w - 3) < 2 ^ 31 by omega)) ?_ | with_reducible refine nt (nI_pos (show 36 + (w - 3) < 2 ^ 31 by omega)) ?_ | with_reducible refine nf (nI_pos (show 36 + (w - 3) < 2 ^ 31 by omega)) ?_ | with_reducible refine And.intro (nI_pos (show 36 + (w - 3) < 2 ^ 31 by omega)) ?_)
        rw [nIc (show 36 + (w - 3) < 2 ^ 31 by omega), habM hM.1 (by omega) (by omega)]
        exact ⟨vp_in_nI (by omega) (by decide), kk _ _ hR1⟩
    · have h3' : ¬ (a1.toInt = 0 ∧ 3 ≤ a2.toInt ∧ a2.toInt ≤ 7) := fun z => h3 ⟨Int32.toInt_inj.mp z.1, z.2⟩
      have hm : pm_R (D + 200) M_Mo_of [.ref 55, .int a1, .int a2] H (pm_i fun y H2 => K (-1) y H2) := by
        refine m_Mo_of _ _ ?_
        refine c_place (d := D + 197) hM.2.1 hn12 _ _ (fun nb w e1 e2 z3 z4 => ?_) (fun w e1 e2 z3 z4 => ?_) (fun _ => ?_)
        · exfalso; rw [e1, nI_toInt (by omega)] at hB1; omega
        · exfalso; rw [e1, e2, nI_toInt (show w < 2 ^ 31 by omega)] at h3'; exact h3' ⟨rfl, by omega, by omega⟩
        · rw [hM.2.1]
          repeat (first | with_reducible refine bt (show (-1 : Int32) < 0 by decide) ?_ | with_reducible refine bf (show (-1 : Int32) < 0 by decide) ?_ | with_reducible refine nt (show (-1 : Int32) < 0 by decide) ?_ | with_reducible refine nf (show (-1 : Int32) < 0 by decide) ?_ | with_reducible refine And.intro (show (-1 : Int32) < 0 by decide) ?_)
          ((try (simp only [lgl, lgg, i2l_t, u32_0, u64_0, u32_1, u64_1, u32_2, u64_2, u32_3, u64_3, u32_4, u64_4, u32_5, u64_5, u32_7, u64_7, u32_12, u64_12, u32_24, u64_24, u32_30, u64_30, u32_49, u64_49, u32_60, u64_60, u32_99, u64_99, u32_255, u64_255, u32_999, u64_999, en])); (try (simp only [t_lt, t_le, u32_0, u64_0, u32_1, u64_1, u32_2, u64_2, u32_3, u64_3, u32_4, u64_4, u32_5, u64_5, u32_7, u64_7, u32_12, u64_12, u32_24, u64_24, u32_30, u64_30, u32_49, u64_49, u32_60, u64_60, u32_99, u64_99, u32_255, u64_255, u32_999, u64_999, en])); repeat' (first | with_reducible intro hh | with_reducible apply And.intro | exact vp_in_iff.mpr (by omega) | (exfalso; omega) | exact kk _ _ hR1))
      refine m_PW_of _ _ ?_
      rw [hC.2.1]
      simp only [t_eq, u32_0, u10, u11]
      ((try (simp only [lgl, lgg, i2l_t, u32_0, u64_0, u32_1, u64_1, u32_2, u64_2, u32_3, u64_3, u32_4, u64_4, u32_5, u64_5, u32_7, u64_7, u32_12, u64_12, u32_24, u64_24, u32_30, u64_30, u32_49, u64_49, u32_60, u64_60, u32_99, u64_99, u32_255, u64_255, u32_999, u64_999, en, u87])); (try (simp only [t_lt, t_le, u32_0, u64_0, u32_1, u64_1, u32_2, u64_2, u32_3, u64_3, u32_4, u64_4, u32_5, u64_5, u32_7, u64_7, u32_12, u64_12, u32_24, u64_24, u32_30, u64_30, u32_49, u64_49, u32_60, u64_60, u32_99, u64_99, u32_255, u64_255, u32_999, u64_999, en, u87])); repeat' (first | with_reducible intro hh | with_reducible apply And.intro | exact vp_in_iff.mpr (by omega) | (exfalso; omega) | exact hm))
