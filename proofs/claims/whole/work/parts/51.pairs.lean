/-! calls in pairs: what is thought -/
theorem u32_0 : (0 : Int32).toInt = 0 := rfl
theorem u32_1 : (1 : Int32).toInt = 1 := rfl
theorem u32_2 : (2 : Int32).toInt = 2 := rfl
theorem u32_3 : (3 : Int32).toInt = 3 := rfl
theorem u32_4 : (4 : Int32).toInt = 4 := rfl
theorem u32_5 : (5 : Int32).toInt = 5 := rfl
theorem u32_7 : (7 : Int32).toInt = 7 := rfl
theorem u32_12 : (12 : Int32).toInt = 12 := rfl
theorem u32_24 : (24 : Int32).toInt = 24 := rfl
theorem u32_30 : (30 : Int32).toInt = 30 := rfl
theorem u32_49 : (49 : Int32).toInt = 49 := rfl
theorem u32_60 : (60 : Int32).toInt = 60 := rfl
theorem u32_99 : (99 : Int32).toInt = 99 := rfl
theorem u32_255 : (255 : Int32).toInt = 255 := rfl
theorem u32_999 : (999 : Int32).toInt = 999 := rfl
theorem u64_0 : (0 : Int64).toInt = 0 := rfl
theorem u64_1 : (1 : Int64).toInt = 1 := rfl
theorem u64_2 : (2 : Int64).toInt = 2 := rfl
theorem u64_3 : (3 : Int64).toInt = 3 := rfl
theorem u64_4 : (4 : Int64).toInt = 4 := rfl
theorem u64_5 : (5 : Int64).toInt = 5 := rfl
theorem u64_7 : (7 : Int64).toInt = 7 := rfl
theorem u64_12 : (12 : Int64).toInt = 12 := rfl
theorem u64_24 : (24 : Int64).toInt = 24 := rfl
theorem u64_30 : (30 : Int64).toInt = 30 := rfl
theorem u64_49 : (49 : Int64).toInt = 49 := rfl
theorem u64_60 : (60 : Int64).toInt = 60 := rfl
theorem u64_99 : (99 : Int64).toInt = 99 := rfl
theorem u64_255 : (255 : Int64).toInt = 255 := rfl
theorem u64_999 : (999 : Int64).toInt = 999 := rfl
theorem RNow.c {hb : Nat → Nat} {L : Law} {n t : Nat} {now : Nat → Row} {H H' : pmT} (h : RNow hb L n t now H) (a : fr JC H H') : RNow hb L n t now H' := h.f1 a.f1 (by rw [a.2]) rfl
theorem RNow.s {hb : Nat → Nat} {L : Law} {n t : Nat} {now : Nat → Row} {H H' : pmT} (h : RNow hb L n t now H) (a : fr JS H H') : RNow hb L n t now H' := h.f1 a.f1 (by rw [a.2]) rfl
theorem RNow.q {hb : Nat → Nat} {L : Law} {n t : Nat} {now : Nat → Row} {H H' : pmT} (h : RNow hb L n t now H) (a : fr JQ H H') : RNow hb L n t now H' := h.f1 a.f1 (by rw [a.2]) rfl
theorem bytes_cases {m d : Nat} {H : pmT} (hm : m ≤ 50) (hd : d < 6) (h : RSh m d H) :
    (¬ 0 ≤ H.1 (43 + 2 * d) 0 ∧ H.1 (43 + 2 * d) 1 = -1 ∧ ¬ 0 ≤ H.1 81 d) ∨
    (0 ≤ H.1 (43 + 2 * d) 0 ∧ H.1 (43 + 2 * d) 1 = -1 ∧ 0 ≤ H.1 81 d ∧ ¬ H.1 81 d = 50) ∨
    (¬ 0 ≤ H.1 (43 + 2 * d) 0 ∧ ¬ H.1 (43 + 2 * d) 1 = -1 ∧ ¬ H.1 (43 + 2 * d) 1 = 0 ∧ 0 ≤ H.1 81 d ∧ ¬ H.1 81 d = 50) ∨
    (¬ 0 ≤ H.1 (43 + 2 * d) 0 ∧ ¬ H.1 (43 + 2 * d) 1 = -1 ∧ H.1 (43 + 2 * d) 1 = 0 ∧ 0 ≤ H.1 81 d ∧ H.1 81 d = 50 ∧ ∃ len, CSh (43 + 2 * d) len (H.2.1 (43 + 2 * d + 1)) H ∧ MSh d len (H.2.1 (43 + 2 * d + 1)) H) := by
  have n0 : ¬ (0 : Int32) ≤ -1 := by decide
  rcases h with ⟨h1, h2, h3⟩ | ⟨w, hw, h1, h2, h3⟩ | ⟨so, len, hso, hlen, h1, h2, h3, h4, h5, h6, h7⟩
  · rw [h1, h2, h3]
    exact Or.inl ⟨n0, rfl, n0⟩
  · rw [h1, h2, h3]
    exact Or.inr (Or.inl ⟨nI_pos' (by omega), rfl, nI_pos' (by omega), fun z => by have := (nI_eq (a := w) (b := 50) (by omega) (by decide)).mp z; omega⟩)
  · rw [h1, h2, h3]
    have e50 : (nI (50 + so) = 50) = (50 + so = 50) := i_eq (50 + so) 50 (by omega) (by decide)
    have es0 : (nI so = 0) = (so = 0) := i_eq so 0 (by omega) (by decide)
    refine Or.inr (Or.inr ?_)
    by_cases c : so = 0
    · refine Or.inr ⟨n0, nI_nn (by omega) (by decide), es0.mpr c, nI_pos' (by omega), e50.mpr (by omega), len, ⟨?_, ?_, h4, hlen, fun j => rfl, by omega⟩, hd, h5, hlen, fun j hj => (h6 j hj).symm, fun j hj => ?_⟩
      · exact pm_s0 hd
      · exact pm_s1' hd
      · rw [h6 j hj]
        exact h7 (by omega) j hj
    · exact Or.inl ⟨n0, nI_nn (by omega) (by decide), fun z => c (es0.mp z), nI_pos' (by omega), fun z => by have := e50.mp z; omega⟩
theorem p_times {D t : Nat} {H : pmT} {K : Int32 → Int32 → pmT → Prop} (a1 a2 : Int32) (hR : Rel t H) (ht : t ≤ 1000) (kk : ∀ x H', Rel (t + 1) H' → K x x H') : pm_R (D + 200) M_PW_times [.ref 0, .int a1, .int a2] H (pm_i fun x H1 => pm_R (D + 200) M_Mo_times [.ref 55, .int a1, .int a2] H1 (pm_i fun y H2 => K x y H2)) := by
  obtain ⟨hb, L, n, now, m, hN, hT, hD⟩ := id hR
  have hC := hN.cs ht
  have hM := hN.ms ht
  have hn12 := hC.2.2.1
  have hB := hT.2.2.2.1
  have hSh := hT.2.2.2.2.2.1
  have en : (nI n - (1 : Int32)).toInt = (n : Int) - 1 := nm1_t (by omega)
  have hR1 : Rel (t + 1) H := hR.mono (Nat.le_succ _)
  by_cases hok : (0 ≤ a1.toInt ∧ a1.toInt < n) ∧ (0 ≤ a2.toInt ∧ a2.toInt ≤ 1)
  · obtain ⟨⟨p1, p2⟩, p3, p4⟩ := hok
    obtain ⟨b, _, rfl, eb⟩ := nI_tI a1 p1
    obtain ⟨s, _, rfl, es⟩ := nI_tI a2 p3
    have hb' : b < n := by omega
    have hbb : b < n := hb'
    have hs : s ≤ 1 := by omega
    have b0 : ¬ nI b < (0 : Int32) := nI_pos (by omega)
    have b1 : nI b ≤ nI n - (1 : Int32) := le_pred hbb (by omega)
    have b2 : ¬ lg_cmp (nI b).toInt64 (0 : Int64) < 0 := l_0 (by omega)
    have b3 : ¬ 0 < lg_cmp (nI b).toInt64 ((nI n - (1 : Int32)).toInt64) := l_n hbb (by omega)
    have b4 : (nI b).toNatClampNeg = b := nIc (by omega)
    have b5 : vp_in (nI b) 12 := vp_in_nI (by omega) (by decide)
    have s0 : ¬ nI s < (0 : Int32) := nI_pos (by omega)
    have s1 : nI s ≤ (1 : Int32) := nI_le (show s ≤ 1 by omega) (by decide)
    have s2 : ¬ lg_cmp (nI s).toInt64 (0 : Int64) < 0 := l_0 (by omega)
    have s3 : ¬ 0 < lg_cmp (nI s).toInt64 (1 : Int64) := l_c (by omega) (by show (s : Int) ≤ 1; omega)
    have s4 : (nI s).toNatClampNeg = s := nIc (by omega)
    refine m_PW_times _ _ ?_
    rw [hC.2.1]
    repeat (first | with_reducible refine bt b0 ?_ | with_reducible refine bf b0 ?_ | with_reducible refine nt b0 ?_ | with_reducible refine nf b0 ?_ | with_reducible refine And.intro b0 ?_ | with_reducible refine bt b1 ?_ | with_reducible refine bf b1 ?_ | with_reducible refine nt b1 ?_ | with_reducible refine nf b1 ?_ | with_reducible refine And.intro b1 ?_ | with_reducible refine bt s0 ?_ | with_reducible refine bf s0 ?_ | with_reducible refine nt s0 ?_ | with_reducible refine nf s0 ?_ | with_reducible refine And.intro s0 ?_ | with_reducible refine bt s1 ?_ | with_reducible refine bf s1 ?_ | with_reducible refine nt s1 ?_ | with_reducible refine nf s1 ?_ | with_reducible refine And.intro s1 ?_)
    refine c_times (d := D + 194) hC hbb hs (fun H1 f1 => ?_)
    have hM1 := (hN.c f1).ms ht
    refine m_Mo_times _ _ ?_
    rw [hM1.2.1]
    repeat (first | with_reducible refine bt b2 ?_ | with_reducible refine bf b2 ?_ | with_reducible refine nt b2 ?_ | with_reducible refine nf b2 ?_ | with_reducible refine And.intro b2 ?_ | with_reducible refine bt b3 ?_ | with_reducible refine bf b3 ?_ | with_reducible refine nt b3 ?_ | with_reducible refine nf b3 ?_ | with_reducible refine And.intro b3 ?_ | with_reducible refine bt s2 ?_ | with_reducible refine bf s2 ?_ | with_reducible refine nt s2 ?_ | with_reducible refine nf s2 ?_ | with_reducible refine And.intro s2 ?_ | with_reducible refine bt s3 ?_ | with_reducible refine bf s3 ?_ | with_reducible refine nt s3 ?_ | with_reducible refine nf s3 ?_ | with_reducible refine And.intro s3 ?_)
    refine c_begins hM1 (fun H2 f2 hT2 _ => ?_)
    have hM2 := hM1.fr (f2.mono rfl)
    refine c_timesOfM (d := D + 126) (by omega) hs hM2.1 (hT2 b hbb) (hM2.2.2.2.2 b hbb) (by decide) (fun H3 f3 => ?_)
    exact kk _ _ (hR.z f1 ((f2.mono (S' := JQ) rfl).tr (f3.fr rfl rfl)))
  · have hm : pm_R (D + 200) M_Mo_times [.ref 55, .int a1, .int a2] H (pm_i fun y H2 => K (-1) y H2) := by
      refine m_Mo_times _ _ ?_
      try rw [hM.2.1]
      ((try (simp only [lgl, lgg, i2l_t, u32_0, u64_0, u32_1, u64_1, u32_2, u64_2, u32_3, u64_3, u32_4, u64_4, u32_5, u64_5, u32_7, u64_7, u32_12, u64_12, u32_24, u64_24, u32_30, u64_30, u32_49, u64_49, u32_60, u64_60, u32_99, u64_99, u32_255, u64_255, u32_999, u64_999, en])); (try (simp only [t_lt, t_le, u32_0, u64_0, u32_1, u64_1, u32_2, u64_2, u32_3, u64_3, u32_4, u64_4, u32_5, u64_5, u32_7, u64_7, u32_12, u64_12, u32_24, u64_24, u32_30, u64_30, u32_49, u64_49, u32_60, u64_60, u32_99, u64_99, u32_255, u64_255, u32_999, u64_999, en])); repeat' (first | with_reducible intro hh | with_reducible apply And.intro | exact vp_in_iff.mpr (by omega) | (exfalso; omega) | exact kk _ _ hR1))
    refine m_PW_times _ _ ?_
    try rw [hC.2.1]
    ((try (simp only [lgl, lgg, i2l_t, u32_0, u64_0, u32_1, u64_1, u32_2, u64_2, u32_3, u64_3, u32_4, u64_4, u32_5, u64_5, u32_7, u64_7, u32_12, u64_12, u32_24, u64_24, u32_30, u64_30, u32_49, u64_49, u32_60, u64_60, u32_99, u64_99, u32_255, u64_255, u32_999, u64_999, en])); (try (simp only [t_lt, t_le, u32_0, u64_0, u32_1, u64_1, u32_2, u64_2, u32_3, u64_3, u32_4, u64_4, u32_5, u64_5, u32_7, u64_7, u32_12, u64_12, u32_24, u64_24, u32_30, u64_30, u32_49, u64_49, u32_60, u64_60, u32_99, u64_99, u32_255, u64_255, u32_999, u64_999, en])); repeat' (first | with_reducible intro hh | with_reducible apply And.intro | exact vp_in_iff.mpr (by omega) | (exfalso; omega) | exact hm))
theorem p_stays {D t : Nat} {H : pmT} {K : Int32 → Int32 → pmT → Prop} (a1 : Int32) (hR : Rel t H) (ht : t ≤ 1000) (kk : ∀ x H', Rel (t + 1) H' → K x x H') : pm_R (D + 200) M_PW_stays [.ref 0, .int a1] H (pm_i fun x H1 => pm_R (D + 200) M_Mo_stays [.ref 55, .int a1] H1 (pm_i fun y H2 => K x y H2)) := by
  obtain ⟨hb, L, n, now, m, hN, hT, hD⟩ := id hR
  have hC := hN.cs ht
  have hM := hN.ms ht
  have hn12 := hC.2.2.1
  have hB := hT.2.2.2.1
  have hSh := hT.2.2.2.2.2.1
  have en : (nI n - (1 : Int32)).toInt = (n : Int) - 1 := nm1_t (by omega)
  have hR1 : Rel (t + 1) H := hR.mono (Nat.le_succ _)
  by_cases hok : 0 ≤ a1.toInt ∧ a1.toInt < n
  · obtain ⟨p1, p2⟩ := hok
    obtain ⟨b, _, rfl, eb⟩ := nI_tI a1 p1
    have hbb : b < n := by omega
    have hb' := hbb
    have b0 : ¬ nI b < (0 : Int32) := nI_pos (by omega)
    have b1 : nI b ≤ nI n - (1 : Int32) := le_pred hbb (by omega)
    have b2 : ¬ lg_cmp (nI b).toInt64 (0 : Int64) < 0 := l_0 (by omega)
    have b3 : ¬ 0 < lg_cmp (nI b).toInt64 ((nI n - (1 : Int32)).toInt64) := l_n hbb (by omega)
    have b4 : (nI b).toNatClampNeg = b := nIc (by omega)
    have b5 : vp_in (nI b) 12 := vp_in_nI (by omega) (by decide)
    refine m_PW_stays _ ?_
    rw [hC.2.1]
    repeat (first | with_reducible refine bt b0 ?_ | with_reducible refine bf b0 ?_ | with_reducible refine nt b0 ?_ | with_reducible refine nf b0 ?_ | with_reducible refine And.intro b0 ?_ | with_reducible refine bt b1 ?_ | with_reducible refine bf b1 ?_ | with_reducible refine nt b1 ?_ | with_reducible refine nf b1 ?_ | with_reducible refine And.intro b1 ?_)
    refine c_stays (d := D + 196) hC hbb (fun H1 f1 => ?_)
    have hM1 := (hN.c f1).ms ht
    refine m_Mo_stays _ ?_
    rw [hM1.2.1]
    repeat (first | with_reducible refine bt b2 ?_ | with_reducible refine bf b2 ?_ | with_reducible refine nt b2 ?_ | with_reducible refine nf b2 ?_ | with_reducible refine And.intro b2 ?_ | with_reducible refine bt b3 ?_ | with_reducible refine bf b3 ?_ | with_reducible refine nt b3 ?_ | with_reducible refine nf b3 ?_ | with_reducible refine And.intro b3 ?_)
    refine c_begins hM1 (fun H2 f2 hT2 ef => ?_)
    have hM2 := hM1.fr (f2.mono rfl)
    have hV := hM2.2.2.2.2 b hbb
    unfold W_stays
    by_cases c : (now b).2.1 < (now b).1
    · rw [if_pos c]
      refine lp_stayM (by omega) hM2.1 ef 99 0 1000 (-2) (now b) H2 rfl (by decide) fb.rf (hT2 b hbb) hV c (fun H3 f3 => ?_)
      exact kk _ _ (hR.z f1 ((f2.mono (S' := JQ) rfl).tr (f3.fr rfl rfl)))
    · rw [if_neg c]
      refine b_Mo_stays_20 _ _ _ ?_
      obtain ⟨q1, q2, q3⟩ := hT2 b hbb
      have hv1 := hV.1
      have hv2 := hV.2.1
      rw [b4, q1, q2, i_le _ _ (by omega) (by omega)]
      repeat (first | with_reducible refine bt (show ¬ (99 : Int32) < 0 by decide) ?_ | with_reducible refine bf (show ¬ (99 : Int32) < 0 by decide) ?_ | with_reducible refine nt (show ¬ (99 : Int32) < 0 by decide) ?_ | with_reducible refine nf (show ¬ (99 : Int32) < 0 by decide) ?_ | with_reducible refine And.intro (show ¬ (99 : Int32) < 0 by decide) ?_ | with_reducible refine bt b5 ?_ | with_reducible refine bf b5 ?_ | with_reducible refine nt b5 ?_ | with_reducible refine nf b5 ?_ | with_reducible refine And.intro b5 ?_ | with_reducible refine bt (show (now b).1 ≤ (now b).2.1 by omega) ?_ | with_reducible refine bf (show (now b).1 ≤ (now b).2.1 by omega) ?_ | with_reducible refine nt (show (now b).1 ≤ (now b).2.1 by omega) ?_ | with_reducible refine nf (show (now b).1 ≤ (now b).2.1 by omega) ?_ | with_reducible refine And.intro (show (now b).1 ≤ (now b).2.1 by omega) ?_)
      exact kk _ _ (hR.z f1 (f2.mono (S' := JQ) rfl))
  · have hm : pm_R (D + 200) M_Mo_stays [.ref 55, .int a1] H (pm_i fun y H2 => K (-1) y H2) := by
      refine m_Mo_stays _ ?_
      try rw [hM.2.1]
      ((try (simp only [lgl, lgg, i2l_t, u32_0, u64_0, u32_1, u64_1, u32_2, u64_2, u32_3, u64_3, u32_4, u64_4, u32_5, u64_5, u32_7, u64_7, u32_12, u64_12, u32_24, u64_24, u32_30, u64_30, u32_49, u64_49, u32_60, u64_60, u32_99, u64_99, u32_255, u64_255, u32_999, u64_999, en])); (try (simp only [t_lt, t_le, u32_0, u64_0, u32_1, u64_1, u32_2, u64_2, u32_3, u64_3, u32_4, u64_4, u32_5, u64_5, u32_7, u64_7, u32_12, u64_12, u32_24, u64_24, u32_30, u64_30, u32_49, u64_49, u32_60, u64_60, u32_99, u64_99, u32_255, u64_255, u32_999, u64_999, en])); repeat' (first | with_reducible intro hh | with_reducible apply And.intro | exact vp_in_iff.mpr (by omega) | (exfalso; omega) | exact kk _ _ hR1))
    refine m_PW_stays _ ?_
    try rw [hC.2.1]
    ((try (simp only [lgl, lgg, i2l_t, u32_0, u64_0, u32_1, u64_1, u32_2, u64_2, u32_3, u64_3, u32_4, u64_4, u32_5, u64_5, u32_7, u64_7, u32_12, u64_12, u32_24, u64_24, u32_30, u64_30, u32_49, u64_49, u32_60, u64_60, u32_99, u64_99, u32_255, u64_255, u32_999, u64_999, en])); (try (simp only [t_lt, t_le, u32_0, u64_0, u32_1, u64_1, u32_2, u64_2, u32_3, u64_3, u32_4, u64_4, u32_5, u64_5, u32_7, u64_7, u32_12, u64_12, u32_24, u64_24, u32_30, u64_30, u32_49, u64_49, u32_60, u64_60, u32_99, u64_99, u32_255, u64_255, u32_999, u64_999, en])); repeat' (first | with_reducible intro hh | with_reducible apply And.intro | exact vp_in_iff.mpr (by omega) | (exfalso; omega) | exact hm))
theorem p_playing {D t : Nat} {H : pmT} {K : Int32 → Int32 → pmT → Prop} (a1 a2 a3 : Int32) (hR : Rel t H) (ht : t ≤ 1000) (kk : ∀ x H', Rel (t + 1) H' → K x x H') : pm_R (D + 200) M_PW_playing [.ref 0, .int a1, .int a2, .int a3] H (pm_i fun x H1 => pm_R (D + 200) M_Mo_playing [.ref 55, .int a1, .int a2, .int a3] H1 (pm_i fun y H2 => K x y H2)) := by
  obtain ⟨hb, L, n, now, m, hN, hT, hD⟩ := id hR
  have hC := hN.cs ht
  have hM := hN.ms ht
  have hn12 := hC.2.2.1
  have hB := hT.2.2.2.1
  have hSh := hT.2.2.2.2.2.1
  have en : (nI n - (1 : Int32)).toInt = (n : Int) - 1 := nm1_t (by omega)
  have hR1 : Rel (t + 1) H := hR.mono (Nat.le_succ _)
  by_cases hok : (0 ≤ a1.toInt ∧ a1.toInt < n) ∧ (0 ≤ a2.toInt ∧ a2.toInt ≤ 1) ∧ (0 ≤ a3.toInt ∧ a3.toInt ≤ 1)
  · obtain ⟨⟨p1, p2⟩, ⟨p3, p4⟩, p5, p6⟩ := hok
    obtain ⟨b, _, rfl, eb⟩ := nI_tI a1 p1
    obtain ⟨s, _, rfl, es⟩ := nI_tI a2 p3
    obtain ⟨w, _, rfl, ew⟩ := nI_tI a3 p5
    have hbb : b < n := by omega
    have hb' := hbb
    have hs : s ≤ 1 := by omega
    have b0 : ¬ nI b < (0 : Int32) := nI_pos (by omega)
    have b1 : nI b ≤ nI n - (1 : Int32) := le_pred hbb (by omega)
    have b2 : ¬ lg_cmp (nI b).toInt64 (0 : Int64) < 0 := l_0 (by omega)
    have b3 : ¬ 0 < lg_cmp (nI b).toInt64 ((nI n - (1 : Int32)).toInt64) := l_n hbb (by omega)
    have b4 : (nI b).toNatClampNeg = b := nIc (by omega)
    have b5 : vp_in (nI b) 12 := vp_in_nI (by omega) (by decide)
    have s0 : ¬ nI s < (0 : Int32) := nI_pos (by omega)
    have s1 : nI s ≤ (1 : Int32) := nI_le (show s ≤ 1 by omega) (by decide)
    have s2 : ¬ lg_cmp (nI s).toInt64 (0 : Int64) < 0 := l_0 (by omega)
    have s3 : ¬ 0 < lg_cmp (nI s).toInt64 (1 : Int64) := l_c (by omega) (by show (s : Int) ≤ 1; omega)
    have s4 : (nI s).toNatClampNeg = s := nIc (by omega)
    have w0 : ¬ nI w < (0 : Int32) := nI_pos (by omega)
    have w1 : nI w ≤ (1 : Int32) := nI_le (show w ≤ 1 by omega) (by decide)
    have w2 : ¬ lg_cmp (nI w).toInt64 (0 : Int64) < 0 := l_0 (by omega)
    have w3 : ¬ 0 < lg_cmp (nI w).toInt64 (1 : Int64) := l_c (by omega) (by show (w : Int) ≤ 1; omega)
    have w4 : (nI w).toNatClampNeg = w := nIc (by omega)
    refine m_PW_playing _ _ _ ?_
    rw [hC.2.1]
    repeat (first | with_reducible refine bt b0 ?_ | with_reducible refine bf b0 ?_ | with_reducible refine nt b0 ?_ | with_reducible refine nf b0 ?_ | with_reducible refine And.intro b0 ?_ | with_reducible refine bt b1 ?_ | with_reducible refine bf b1 ?_ | with_reducible refine nt b1 ?_ | with_reducible refine nf b1 ?_ | with_reducible refine And.intro b1 ?_ | with_reducible refine bt s0 ?_ | with_reducible refine bf s0 ?_ | with_reducible refine nt s0 ?_ | with_reducible refine nf s0 ?_ | with_reducible refine And.intro s0 ?_ | with_reducible refine bt s1 ?_ | with_reducible refine bf s1 ?_ | with_reducible refine nt s1 ?_ | with_reducible refine nf s1 ?_ | with_reducible refine And.intro s1 ?_ | with_reducible refine bt w0 ?_ | with_reducible refine bf w0 ?_ | with_reducible refine nt w0 ?_ | with_reducible refine nf w0 ?_ | with_reducible refine And.intro w0 ?_ | with_reducible refine bt w1 ?_ | with_reducible refine bf w1 ?_ | with_reducible refine nt w1 ?_ | with_reducible refine nf w1 ?_ | with_reducible refine And.intro w1 ?_)
    refine c_comes_now hC.1.1 hC.1.2.1 (hC.2.2.2.1 b hbb) (hC.2.2.2.2 b hbb) (by omega) hs ?_
    have hcl := W_came_le hb (now b) s
    have ref0 : ∀ (x : Int32) (H1 : pmT), fr JC H H1 → (∀ H2, fr JQ H1 H2 → x = if w = 0 then nI (W_came hb (now b) s) else nI (W_give L (now b) s (W_came hb (now b) s))) → pm_R (D + 200) M_Mo_playing [.ref 55, .int (nI b), .int (nI s), .int (nI w)] H1 (pm_i fun y H2 => K x y H2) := by
      intro x H1 f1 hx
      have hM1 := (hN.c f1).ms ht
      refine m_Mo_playing _ _ _ ?_
      rw [hM1.2.1]
      repeat (first | with_reducible refine bt b2 ?_ | with_reducible refine bf b2 ?_ | with_reducible refine nt b2 ?_ | with_reducible refine nf b2 ?_ | with_reducible refine And.intro b2 ?_ | with_reducible refine bt b3 ?_ | with_reducible refine bf b3 ?_ | with_reducible refine nt b3 ?_ | with_reducible refine nf b3 ?_ | with_reducible refine And.intro b3 ?_ | with_reducible refine bt s2 ?_ | with_reducible refine bf s2 ?_ | with_reducible refine nt s2 ?_ | with_reducible refine nf s2 ?_ | with_reducible refine And.intro s2 ?_ | with_reducible refine bt s3 ?_ | with_reducible refine bf s3 ?_ | with_reducible refine nt s3 ?_ | with_reducible refine nf s3 ?_ | with_reducible refine And.intro s3 ?_ | with_reducible refine bt w2 ?_ | with_reducible refine bf w2 ?_ | with_reducible refine nt w2 ?_ | with_reducible refine nf w2 ?_ | with_reducible refine And.intro w2 ?_ | with_reducible refine bt w3 ?_ | with_reducible refine bf w3 ?_ | with_reducible refine nt w3 ?_ | with_reducible refine nf w3 ?_ | with_reducible refine And.intro w3 ?_)
      refine c_begins hM1 (fun H2 f2 hT2 ef => ?_)
      have hM2 := hM1.fr (f2.mono rfl)
      have f2' : fr JQ H1 H2 := f2.mono rfl
      refine c_comesM hM2.1.1 hM2.1.2.1 (hT2 b hbb) (hM2.2.2.2.2 b hbb) (by omega) hs ?_
      have ew1 : (nI w = (1 : Int32)) = (w = 1) := i_eq w 1 (by omega) (by decide)
      rw [ew1]
      by_cases cw : w = 1
      · first | refine bt cw ?_ | refine bf cw ?_ | refine nt cw ?_ | refine nf cw ?_
        refine c_addsM (d := D + 128) hM2.1 (hT2 b hbb) (hM2.2.2.2.2 b hbb) (by decide) (by omega) hs hcl (fun H3 f3 => ?_)
        have ex := hx H2 f2'
        rw [if_neg (by omega)] at ex
        rw [ex]
        exact kk _ _ (hR.z f1 (f2'.tr (f3.mono rfl)))
      · first | refine bt cw ?_ | refine bf cw ?_ | refine nt cw ?_ | refine nf cw ?_
        have ex := hx H2 f2'
        rw [if_pos (by omega)] at ex
        have k1 := kk (nI (W_came hb (now b) s)) _ (hR.z f1 f2')
        rw [ex]
        rcases (show W_came hb (now b) s = 0 ∨ W_came hb (now b) s = 1 by omega) with e | e
        · rw [e] at k1 ⊢
          first | refine bt (show nI 0 = 0 from rfl) ?_ | refine bf (show nI 0 = 0 from rfl) ?_ | refine nt (show nI 0 = 0 from rfl) ?_ | refine nf (show nI 0 = 0 from rfl) ?_
          exact k1
        · rw [e] at k1 ⊢
          first | refine bt (show ¬ nI 1 = 0 by decide) ?_ | refine bf (show ¬ nI 1 = 0 by decide) ?_ | refine nt (show ¬ nI 1 = 0 by decide) ?_ | refine nf (show ¬ nI 1 = 0 by decide) ?_
          exact k1
    have ew0 : (nI w = (0 : Int32)) = (w = 0) := i_eq w 0 (by omega) (by decide)
    by_cases cw : w = 0
    · first | refine bt (ew0.mpr cw) ?_ | refine bf (ew0.mpr cw) ?_ | refine nt (ew0.mpr cw) ?_ | refine nf (ew0.mpr cw) ?_
      exact ref0 _ H fr.rf (fun _ _ => by rw [if_pos cw])
    · first | refine bt (fun z => cw (ew0.mp z)) ?_ | refine bf (fun z => cw (ew0.mp z)) ?_ | refine nt (fun z => cw (ew0.mp z)) ?_ | refine nf (fun z => cw (ew0.mp z)) ?_
      refine c_gives_now (d := D + 197) hC.1 (hC.2.2.2.1 b hbb) (hC.2.2.2.2 b hbb) (by decide) (by omega) hs hcl (fun H1 f1 => ?_)
      exact ref0 _ H1 (f1.mono rfl) (fun _ _ => by rw [if_neg cw])
  · have hm : pm_R (D + 200) M_Mo_playing [.ref 55, .int a1, .int a2, .int a3] H (pm_i fun y H2 => K (-1) y H2) := by
      refine m_Mo_playing _ _ _ ?_
      try rw [hM.2.1]
      ((try (simp only [lgl, lgg, i2l_t, u32_0, u64_0, u32_1, u64_1, u32_2, u64_2, u32_3, u64_3, u32_4, u64_4, u32_5, u64_5, u32_7, u64_7, u32_12, u64_12, u32_24, u64_24, u32_30, u64_30, u32_49, u64_49, u32_60, u64_60, u32_99, u64_99, u32_255, u64_255, u32_999, u64_999, en])); (try (simp only [t_lt, t_le, u32_0, u64_0, u32_1, u64_1, u32_2, u64_2, u32_3, u64_3, u32_4, u64_4, u32_5, u64_5, u32_7, u64_7, u32_12, u64_12, u32_24, u64_24, u32_30, u64_30, u32_49, u64_49, u32_60, u64_60, u32_99, u64_99, u32_255, u64_255, u32_999, u64_999, en])); repeat' (first | with_reducible intro hh | with_reducible apply And.intro | exact vp_in_iff.mpr (by omega) | (exfalso; omega) | exact kk _ _ hR1))
    refine m_PW_playing _ _ _ ?_
    try rw [hC.2.1]
    ((try (simp only [lgl, lgg, i2l_t, u32_0, u64_0, u32_1, u64_1, u32_2, u64_2, u32_3, u64_3, u32_4, u64_4, u32_5, u64_5, u32_7, u64_7, u32_12, u64_12, u32_24, u64_24, u32_30, u64_30, u32_49, u64_49, u32_60, u64_60, u32_99, u64_99, u32_255, u64_255, u32_999, u64_999, en])); (try (simp only [t_lt, t_le, u32_0, u64_0, u32_1, u64_1, u32_2, u64_2, u32_3, u64_3, u32_4, u64_4, u32_5, u64_5, u32_7, u64_7, u32_12, u64_12, u32_24, u64_24, u32_30, u64_30, u32_49, u64_49, u32_60, u64_60, u32_99, u64_99, u32_255, u64_255, u32_999, u64_999, en])); repeat' (first | with_reducible intro hh | with_reducible apply And.intro | exact vp_in_iff.mpr (by omega) | (exfalso; omega) | exact hm))
theorem p_whole {D t : Nat} {H : pmT} {K : Int32 → Int32 → pmT → Prop} (a1 : Int32) (hR : Rel t H) (ht : t ≤ 1000) (kk : ∀ x H', Rel (t + 1) H' → K x x H') : pm_R (D + 200) M_PW_whole [.ref 0, .int a1] H (pm_i fun x H1 => pm_R (D + 200) M_Mo_whole [.ref 55, .int a1] H1 (pm_i fun y H2 => K x y H2)) := by
  obtain ⟨hb, L, n, now, m, hN, hT, hD⟩ := id hR
  have hC := hN.cs ht
  have hM := hN.ms ht
  have hn12 := hC.2.2.1
  have hB := hT.2.2.2.1
  have hSh := hT.2.2.2.2.2.1
  have en : (nI n - (1 : Int32)).toInt = (n : Int) - 1 := nm1_t (by omega)
  have hR1 : Rel (t + 1) H := hR.mono (Nat.le_succ _)
  by_cases hok : 0 ≤ a1.toInt ∧ a1.toInt ≤ 1
  · obtain ⟨p1, p2⟩ := hok
    obtain ⟨w, _, rfl, eb⟩ := nI_tI a1 p1
    have w0 : ¬ nI w < (0 : Int32) := nI_pos (by omega)
    have w1 : nI w ≤ (1 : Int32) := nI_le (show w ≤ 1 by omega) (by decide)
    have w2 : ¬ lg_cmp (nI w).toInt64 (0 : Int64) < 0 := l_0 (by omega)
    have w3 : ¬ 0 < lg_cmp (nI w).toInt64 (1 : Int64) := l_c (by omega) (by show (w : Int) ≤ 1; omega)
    have w4 : (nI w).toNatClampNeg = w := nIc (by omega)
    refine m_PW_whole _ ?_
    repeat (first | with_reducible refine bt w0 ?_ | with_reducible refine bf w0 ?_ | with_reducible refine nt w0 ?_ | with_reducible refine nf w0 ?_ | with_reducible refine And.intro w0 ?_ | with_reducible refine bt w1 ?_ | with_reducible refine bf w1 ?_ | with_reducible refine nt w1 ?_ | with_reducible refine nf w1 ?_ | with_reducible refine And.intro w1 ?_)
    have ew0 : (nI w = (0 : Int32)) = (w = 0) := i_eq w 0 (by omega) (by decide)
    have ew1 : (nI w = (1 : Int32)) = (w = 1) := i_eq w 1 (by omega) (by decide)
    by_cases cw : w = 0
    · first | refine bt (ew0.mpr cw) ?_ | refine bf (ew0.mpr cw) ?_ | refine nt (ew0.mpr cw) ?_ | refine nf (ew0.mpr cw) ?_
      refine c_runs (d := D + 194) hC (fun H1 f1 => ?_)
      have hM1 := (hN.c f1).ms ht
      refine m_Mo_whole _ ?_
      repeat (first | with_reducible refine bt w2 ?_ | with_reducible refine bf w2 ?_ | with_reducible refine nt w2 ?_ | with_reducible refine nf w2 ?_ | with_reducible refine And.intro w2 ?_ | with_reducible refine bt w3 ?_ | with_reducible refine bf w3 ?_ | with_reducible refine nt w3 ?_ | with_reducible refine nf w3 ?_ | with_reducible refine And.intro w3 ?_)
      refine c_begins hM1 (fun H2 f2 hT2 ef => ?_)
      have hM2 := hM1.fr (f2.mono rfl)
      first | refine bt (fun z => absurd (ew1.mp z) (by omega)) ?_ | refine bf (fun z => absurd (ew1.mp z) (by omega)) ?_ | refine nt (fun z => absurd (ew1.mp z) (by omega)) ?_ | refine nf (fun z => absurd (ew1.mp z) (by omega)) ?_
      refine lp_runsM (d := D + 127) hM2.2.2.1 hM2.1 hM2.2.1 61 0 1000 now H2 rfl (by decide) fr.rf hT2 hM2.2.2.2.2 (fun H3 f3 => ?_)
      exact kk _ _ (hR.z f1 ((f2.mono (S' := JQ) rfl).tr (f3.mono rfl)))
    · first | refine bt (fun z => cw (ew0.mp z)) ?_ | refine bf (fun z => cw (ew0.mp z)) ?_ | refine nt (fun z => cw (ew0.mp z)) ?_ | refine nf (fun z => cw (ew0.mp z)) ?_
      refine c_byBars (d := D + 193) hC (fun H1 f1 => ?_)
      have hM1 := (hN.c f1).ms ht
      refine m_Mo_whole _ ?_
      repeat (first | with_reducible refine bt w2 ?_ | with_reducible refine bf w2 ?_ | with_reducible refine nt w2 ?_ | with_reducible refine nf w2 ?_ | with_reducible refine And.intro w2 ?_ | with_reducible refine bt w3 ?_ | with_reducible refine bf w3 ?_ | with_reducible refine nt w3 ?_ | with_reducible refine nf w3 ?_ | with_reducible refine And.intro w3 ?_)
      refine c_begins hM1 (fun H2 f2 hT2 ef => ?_)
      have hM2 := hM1.fr (f2.mono rfl)
      first | refine bt (ew1.mpr (by omega)) ?_ | refine bf (ew1.mpr (by omega)) ?_ | refine nt (ew1.mpr (by omega)) ?_ | refine nf (ew1.mpr (by omega)) ?_
      refine lp_barsM (d := D + 126) hM2.2.2.1 hM2.1 hM2.2.1 hM2.2.2.2.2 n 0 0 H2 (by omega) fr.rf (fun b _ h => hT2 b h) (fun H3 f3 => ?_)
      exact kk _ _ (hR.z f1 ((f2.mono (S' := JQ) rfl).tr (f3.mono rfl)))
  · have hm : pm_R (D + 200) M_Mo_whole [.ref 55, .int a1] H (pm_i fun y H2 => K (-1) y H2) := by
      refine m_Mo_whole _ ?_
      try rw [hM.2.1]
      ((try (simp only [lgl, lgg, i2l_t, u32_0, u64_0, u32_1, u64_1, u32_2, u64_2, u32_3, u64_3, u32_4, u64_4, u32_5, u64_5, u32_7, u64_7, u32_12, u64_12, u32_24, u64_24, u32_30, u64_30, u32_49, u64_49, u32_60, u64_60, u32_99, u64_99, u32_255, u64_255, u32_999, u64_999, en])); (try (simp only [t_lt, t_le, u32_0, u64_0, u32_1, u64_1, u32_2, u64_2, u32_3, u64_3, u32_4, u64_4, u32_5, u64_5, u32_7, u64_7, u32_12, u64_12, u32_24, u64_24, u32_30, u64_30, u32_49, u64_49, u32_60, u64_60, u32_99, u64_99, u32_255, u64_255, u32_999, u64_999, en])); repeat' (first | with_reducible intro hh | with_reducible apply And.intro | exact vp_in_iff.mpr (by omega) | (exfalso; omega) | exact kk _ _ hR1))
    refine m_PW_whole _ ?_
    try rw [hC.2.1]
    ((try (simp only [lgl, lgg, i2l_t, u32_0, u64_0, u32_1, u64_1, u32_2, u64_2, u32_3, u64_3, u32_4, u64_4, u32_5, u64_5, u32_7, u64_7, u32_12, u64_12, u32_24, u64_24, u32_30, u64_30, u32_49, u64_49, u32_60, u64_60, u32_99, u64_99, u32_255, u64_255, u32_999, u64_999, en])); (try (simp only [t_lt, t_le, u32_0, u64_0, u32_1, u64_1, u32_2, u64_2, u32_3, u64_3, u32_4, u64_4, u32_5, u64_5, u32_7, u64_7, u32_12, u64_12, u32_24, u64_24, u32_30, u64_30, u32_49, u64_49, u32_60, u64_60, u32_99, u64_99, u32_255, u64_255, u32_999, u64_999, en])); repeat' (first | with_reducible intro hh | with_reducible apply And.intro | exact vp_in_iff.mpr (by omega) | (exfalso; omega) | exact hm))
theorem p_finger {D t : Nat} {H : pmT} {K : Int32 → Int32 → pmT → Prop} (a1 a2 : Int32) (hR : Rel t H) (ht : t ≤ 1000) (kk : ∀ x H', Rel (t + 1) H' → K x x H') : pm_R (D + 200) M_PW_finger [.ref 0, .int a1, .int a2] H (pm_i fun x H1 => pm_R (D + 200) M_Mo_finger [.ref 55, .int a1, .int a2] H1 (pm_i fun y H2 => K x y H2)) := by
  obtain ⟨hb, L, n, now, m, hN, hT, hD⟩ := id hR
  have hC := hN.cs ht
  have hM := hN.ms ht
  have hn12 := hC.2.2.1
  have hB := hT.2.2.2.1
  have hSh := hT.2.2.2.2.2.1
  have en : (nI n - (1 : Int32)).toInt = (n : Int) - 1 := nm1_t (by omega)
  have hR1 : Rel (t + 1) H := hR.mono (Nat.le_succ _)
  by_cases hok : (0 ≤ a1.toInt ∧ a1.toInt < n) ∧ (0 ≤ a2.toInt ∧ a2.toInt ≤ 1)
  · obtain ⟨⟨p1, p2⟩, p3, p4⟩ := hok
    obtain ⟨b, _, rfl, eb⟩ := nI_tI a1 p1
    obtain ⟨w, _, rfl, es⟩ := nI_tI a2 p3
    have hbb : b < n := by omega
    have hb' := hbb
    have b0 : ¬ nI b < (0 : Int32) := nI_pos (by omega)
    have b1 : nI b ≤ nI n - (1 : Int32) := le_pred hbb (by omega)
    have b2 : ¬ lg_cmp (nI b).toInt64 (0 : Int64) < 0 := l_0 (by omega)
    have b3 : ¬ 0 < lg_cmp (nI b).toInt64 ((nI n - (1 : Int32)).toInt64) := l_n hbb (by omega)
    have b4 : (nI b).toNatClampNeg = b := nIc (by omega)
    have b5 : vp_in (nI b) 12 := vp_in_nI (by omega) (by decide)
    have w0 : ¬ nI w < (0 : Int32) := nI_pos (by omega)
    have w1 : nI w ≤ (1 : Int32) := nI_le (show w ≤ 1 by omega) (by decide)
    have w2 : ¬ lg_cmp (nI w).toInt64 (0 : Int64) < 0 := l_0 (by omega)
    have w3 : ¬ 0 < lg_cmp (nI w).toInt64 (1 : Int64) := l_c (by omega) (by show (w : Int) ≤ 1; omega)
    have w4 : (nI w).toNatClampNeg = w := nIc (by omega)
    have ew1 : (nI w = (1 : Int32)) = (w = 1) := i_eq w 1 (by omega) (by decide)
    refine m_PW_finger _ _ ?_
    rw [hC.2.1]
    repeat (first | with_reducible refine bt b0 ?_ | with_reducible refine bf b0 ?_ | with_reducible refine nt b0 ?_ | with_reducible refine nf b0 ?_ | with_reducible refine And.intro b0 ?_ | with_reducible refine bt b1 ?_ | with_reducible refine bf b1 ?_ | with_reducible refine nt b1 ?_ | with_reducible refine nf b1 ?_ | with_reducible refine And.intro b1 ?_ | with_reducible refine bt w0 ?_ | with_reducible refine bf w0 ?_ | with_reducible refine nt w0 ?_ | with_reducible refine nf w0 ?_ | with_reducible refine And.intro w0 ?_ | with_reducible refine bt w1 ?_ | with_reducible refine bf w1 ?_ | with_reducible refine nt w1 ?_ | with_reducible refine nf w1 ?_ | with_reducible refine And.intro w1 ?_)
    refine c_fing (d := D + 193) hC hbb (fun H1 f1 => ?_)
    have hM1 := (hN.c f1).ms ht
    have ref0 : ∀ x : Int32, (∀ y, (y = W_fing hb L (now b)) → (w = 1 → x = y) ∧ (¬ w = 1 → (y ≤ 0 → x = 0) ∧ (¬ y ≤ 0 → x = 1))) → pm_R (D + 200) M_Mo_finger [.ref 55, .int (nI b), .int (nI w)] H1 (pm_i fun y H2 => K x y H2) := by
      intro x hx
      have hx := hx _ rfl
      refine m_Mo_finger _ _ ?_
      rw [hM1.2.1]
      repeat (first | with_reducible refine bt b2 ?_ | with_reducible refine bf b2 ?_ | with_reducible refine nt b2 ?_ | with_reducible refine nf b2 ?_ | with_reducible refine And.intro b2 ?_ | with_reducible refine bt b3 ?_ | with_reducible refine bf b3 ?_ | with_reducible refine nt b3 ?_ | with_reducible refine nf b3 ?_ | with_reducible refine And.intro b3 ?_ | with_reducible refine bt w2 ?_ | with_reducible refine bf w2 ?_ | with_reducible refine nt w2 ?_ | with_reducible refine nf w2 ?_ | with_reducible refine And.intro w2 ?_ | with_reducible refine bt w3 ?_ | with_reducible refine bf w3 ?_ | with_reducible refine nt w3 ?_ | with_reducible refine nf w3 ?_ | with_reducible refine And.intro w3 ?_)
      refine c_begins hM1 (fun H2 f2 hT2 ef => ?_)
      have hM2 := hM1.fr (f2.mono rfl)
      have hV := hM2.2.2.2.2 b hbb
      have f2' : fr JQ H1 H2 := f2.mono rfl
      refine c_timesOfM (s := 0) (d := D + 126) (by omega) (by decide) hM2.1 (hT2 b hbb) hV (by decide) (fun H3 f3 => ?_)
      have f3' : fr JQ H2 H3 := f3.fr rfl rfl
      have hM3 := hM2.fr f3'
      refine c_begins hM3 (fun H4 f4 hT4 ef4 => ?_)
      have hM4 := hM3.fr (f4.mono rfl)
      have f4' : fr JQ H3 H4 := f4.mono rfl
      rw [b4]
      refine ⟨b5, ?_⟩
      have u0 : ∀ (h : Nat → Nat → Int32) (o : Nat) (x : Int32), pm_up h o b x o b = x := fun h o x => by rw [pm_up_self]; exact pk_us
      have f5 : fr JQ H4 (pm_up (pm_up H4.1 65 b (0 : Int32)) 66 b (0 : Int32), H4.2) := ((fr.rf.up (o := 65) rfl).up (o := 66) rfl)
      have hM5 := hM4.fr f5
      obtain ⟨z1, z2, z3, z4, z5⟩ := hT4 b hbb
      have hR5 : MR (pm_up (pm_up H4.1 65 b (0 : Int32)) 66 b (0 : Int32), H4.2) b (0, 0, (now b).2.2) := ⟨u0 _ 65 _, u0 _ 66 _, z3, z4, z5⟩
      have hV5 : RV 1000 (0, 0, (now b).2.2) := ⟨Nat.zero_le _, Nat.zero_le _, hV.2.2⟩
      refine c_timesOfM (s := 0) (d := D + 126) (by omega) (by decide) hM5.1 hR5 hV5 (by decide) (fun H6 f6 => ?_)
      have f6' := f5.tr (f6.fr (S' := JQ) rfl rfl)
      have hM6 := hM4.fr f6'
      rw [show H6.1 56 40 = nI (hb 4) from hM6.1.1.2.2.2.2, ew1]
      have hRz := hR.z f1 (f2'.tr (f3'.tr (f4'.tr f6')))
      have k1 := kk x H6 hRz
      have orN : ∀ v : Int32, (v = -2 ∨ ∃ q, q < 100 ∧ v = nI q) → (0 ≤ v → W_orN v = v) ∧ (¬ 0 ≤ v → W_orN v = 1000) := by
        intro v hv
        rcases hv with e | ⟨q, hq, e⟩
        · rw [e]; exact ⟨fun z => absurd z (by decide), fun _ => rfl⟩
        · rw [e]
          refine ⟨fun _ => ?_, fun z => absurd (nI_pos' (by omega)) z⟩
          unfold W_orN
          rw [if_neg (nI_ne_m2 (by omega))]
      obtain ⟨o1, o2⟩ := orN _ (W_till_cases (hb := hb) (L := L) (s := 0) 100 0 (now b) rfl)
      obtain ⟨o3, o4⟩ := orN _ (W_till_cases (hb := hb) (L := L) (s := 0) 100 0 (0, 0, (now b).2.2) rfl)
      unfold W_fing at hx
      have fin : ∀ y : Int32, y = W_orN (W_till hb L 0 100 0 (now b)) - nI (hb 4) - W_orN (W_till hb L 0 100 0 (0, 0, (now b).2.2)) → (¬ w = 1 → (y ≤ 0 → pm_i (fun y H2 => K x y H2) (some (.int (0 : Int32))) H6) ∧ (¬ y ≤ 0 → pm_i (fun y H2 => K x y H2) (some (.int (1 : Int32))) H6)) ∧ (w = 1 → pm_i (fun y H2 => K x y H2) (some (.int y)) H6) := by
        intro y ey
        rw [← ey] at hx
        obtain ⟨hx1, hx2⟩ := hx
        refine ⟨fun cw => ⟨fun c0 => ?_, fun c0 => ?_⟩, fun cw => ?_⟩
        · rw [(hx2 cw).1 c0] at k1 ⊢; exact k1
        · rw [(hx2 cw).2 c0] at k1 ⊢; exact k1
        · rw [hx1 cw] at k1 ⊢; exact k1
      refine ⟨fun c1 => ⟨fun c2 => fin _ ?_, fun c2 => fin _ ?_⟩, fun c1 => ⟨fun c2 => fin _ ?_, fun c2 => fin _ ?_⟩⟩
      · rw [o1 c1, o3 c2]
      · rw [o1 c1, o4 c2]
      · rw [o2 c1, o3 c2]
      · rw [o2 c1, o4 c2]
    rw [ew1]
    generalize hW : W_fing hb L (now b) = W at ref0
    by_cases cw : w = 1
    · first | refine bt cw ?_ | refine bf cw ?_ | refine nt cw ?_ | refine nf cw ?_
      exact ref0 _ (fun y ey => ⟨fun _ => ey.symm, fun z => absurd cw z⟩)
    · first | refine bt cw ?_ | refine bf cw ?_ | refine nt cw ?_ | refine nf cw ?_
      exact ⟨fun c0 => ref0 _ (fun y ey => ⟨fun z => absurd z cw, fun _ => ⟨fun _ => rfl, fun z => absurd (ey ▸ c0) z⟩⟩), fun c0 => ref0 _ (fun y ey => ⟨fun z => absurd z cw, fun _ => ⟨fun z => absurd z (ey ▸ c0), fun _ => rfl⟩⟩)⟩
  · have hm : pm_R (D + 200) M_Mo_finger [.ref 55, .int a1, .int a2] H (pm_i fun y H2 => K (-2000000000) y H2) := by
      refine m_Mo_finger _ _ ?_
      try rw [hM.2.1]
      ((try (simp only [lgl, lgg, i2l_t, u32_0, u64_0, u32_1, u64_1, u32_2, u64_2, u32_3, u64_3, u32_4, u64_4, u32_5, u64_5, u32_7, u64_7, u32_12, u64_12, u32_24, u64_24, u32_30, u64_30, u32_49, u64_49, u32_60, u64_60, u32_99, u64_99, u32_255, u64_255, u32_999, u64_999, en])); (try (simp only [t_lt, t_le, u32_0, u64_0, u32_1, u64_1, u32_2, u64_2, u32_3, u64_3, u32_4, u64_4, u32_5, u64_5, u32_7, u64_7, u32_12, u64_12, u32_24, u64_24, u32_30, u64_30, u32_49, u64_49, u32_60, u64_60, u32_99, u64_99, u32_255, u64_255, u32_999, u64_999, en])); repeat' (first | with_reducible intro hh | with_reducible apply And.intro | exact vp_in_iff.mpr (by omega) | (exfalso; omega) | exact kk _ _ hR1))
    refine m_PW_finger _ _ ?_
    try rw [hC.2.1]
    ((try (simp only [lgl, lgg, i2l_t, u32_0, u64_0, u32_1, u64_1, u32_2, u64_2, u32_3, u64_3, u32_4, u64_4, u32_5, u64_5, u32_7, u64_7, u32_12, u64_12, u32_24, u64_24, u32_30, u64_30, u32_49, u64_49, u32_60, u64_60, u32_99, u64_99, u32_255, u64_255, u32_999, u64_999, en])); (try (simp only [t_lt, t_le, u32_0, u64_0, u32_1, u64_1, u32_2, u64_2, u32_3, u64_3, u32_4, u64_4, u32_5, u64_5, u32_7, u64_7, u32_12, u64_12, u32_24, u64_24, u32_30, u64_30, u32_49, u64_49, u32_60, u64_60, u32_99, u64_99, u32_255, u64_255, u32_999, u64_999, en])); repeat' (first | with_reducible intro hh | with_reducible apply And.intro | exact vp_in_iff.mpr (by omega) | (exfalso; omega) | exact hm))
theorem p_judge {D t : Nat} {H : pmT} {K : Int32 → Int32 → pmT → Prop} (a1 : Int32) (hR : Rel t H) (ht : t ≤ 1000) (kk : ∀ x H', Rel (t + 1) H' → K x x H') : pm_R (D + 200) M_PW_judge [.ref 0, .int a1] H (pm_i fun x H1 => pm_R (D + 200) M_Mo_judge [.ref 55, .int a1] H1 (pm_i fun y H2 => K x y H2)) := by
  obtain ⟨hb, L, n, now, m, hN, hT, hD⟩ := id hR
  have hC := hN.cs ht
  have hM := hN.ms ht
  have hn12 := hC.2.2.1
  have hB := hT.2.2.2.1
  have hSh := hT.2.2.2.2.2.1
  have en : (nI n - (1 : Int32)).toInt = (n : Int) - 1 := nm1_t (by omega)
  have hR1 : Rel (t + 1) H := hR.mono (Nat.le_succ _)
  by_cases hok : 0 ≤ a1.toInt ∧ a1.toInt ≤ 5
  · obtain ⟨p1, p2⟩ := hok
    obtain ⟨d, _, rfl, eb⟩ := nI_tI a1 p1
    have hd : d < 6 := by omega
    have d0 : ¬ nI d < (0 : Int32) := nI_pos (by omega)
    have d1 : nI d ≤ (5 : Int32) := nI_le (show d ≤ 5 by omega) (by decide)
    have d2 : ¬ lg_cmp (nI d).toInt64 (0 : Int64) < 0 := l_0 (by omega)
    have d3 : ¬ 0 < lg_cmp (nI d).toInt64 (5 : Int64) := l_c (by omega) (by show (d : Int) ≤ 5; omega)
    have d4 : (nI d).toNatClampNeg = d := nIc (by omega)
    have dv : vp_in (nI d) 6 := vp_in_nI hd (by decide)
    rcases bytes_cases hB.1 hd (hSh d hd) with ⟨x0, x1, y0⟩ | ⟨x0, x1, y0, y1⟩ | ⟨x0, x1, x2, y0, y1⟩ | ⟨x0, x1, x2, y0, y1, len, hG, hG'⟩
    · refine m_PW_judge _ ?_
      rw [d4]
      try rw [hC.2.1]
      repeat (first | with_reducible refine bt d0 ?_ | with_reducible refine bf d0 ?_ | with_reducible refine nt d0 ?_ | with_reducible refine nf d0 ?_ | with_reducible refine And.intro d0 ?_ | with_reducible refine bt d0 ?_ | with_reducible refine bf d0 ?_ | with_reducible refine nt d0 ?_ | with_reducible refine nf d0 ?_ | with_reducible refine And.intro d0 ?_ | with_reducible refine bt d1 ?_ | with_reducible refine bf d1 ?_ | with_reducible refine nt d1 ?_ | with_reducible refine nf d1 ?_ | with_reducible refine And.intro d1 ?_ | with_reducible refine bt dv ?_ | with_reducible refine bf dv ?_ | with_reducible refine nt dv ?_ | with_reducible refine nf dv ?_ | with_reducible refine And.intro dv ?_ | with_reducible refine bt x0 ?_ | with_reducible refine bf x0 ?_ | with_reducible refine nt x0 ?_ | with_reducible refine nf x0 ?_ | with_reducible refine And.intro x0 ?_ | with_reducible refine bt x1 ?_ | with_reducible refine bf x1 ?_ | with_reducible refine nt x1 ?_ | with_reducible refine nf x1 ?_ | with_reducible refine And.intro x1 ?_ | with_reducible refine bt x2 ?_ | with_reducible refine bf x2 ?_ | with_reducible refine nt x2 ?_ | with_reducible refine nf x2 ?_ | with_reducible refine And.intro x2 ?_)
      refine m_Mo_judge _ ?_
      rw [d4]
      try rw [hM.2.1]
      repeat (first | with_reducible refine bt d0 ?_ | with_reducible refine bf d0 ?_ | with_reducible refine nt d0 ?_ | with_reducible refine nf d0 ?_ | with_reducible refine And.intro d0 ?_ | with_reducible refine bt d2 ?_ | with_reducible refine bf d2 ?_ | with_reducible refine nt d2 ?_ | with_reducible refine nf d2 ?_ | with_reducible refine And.intro d2 ?_ | with_reducible refine bt d3 ?_ | with_reducible refine bf d3 ?_ | with_reducible refine nt d3 ?_ | with_reducible refine nf d3 ?_ | with_reducible refine And.intro d3 ?_ | with_reducible refine bt dv ?_ | with_reducible refine bf dv ?_ | with_reducible refine nt dv ?_ | with_reducible refine nf dv ?_ | with_reducible refine And.intro dv ?_ | with_reducible refine bt y0 ?_ | with_reducible refine bf y0 ?_ | with_reducible refine nt y0 ?_ | with_reducible refine nf y0 ?_ | with_reducible refine And.intro y0 ?_ | with_reducible refine bt y1 ?_ | with_reducible refine bf y1 ?_ | with_reducible refine nt y1 ?_ | with_reducible refine nf y1 ?_ | with_reducible refine And.intro y1 ?_)
      exact kk _ _ hR1
    · refine m_PW_judge _ ?_
      rw [d4]
      try rw [hC.2.1]
      repeat (first | with_reducible refine bt d0 ?_ | with_reducible refine bf d0 ?_ | with_reducible refine nt d0 ?_ | with_reducible refine nf d0 ?_ | with_reducible refine And.intro d0 ?_ | with_reducible refine bt d0 ?_ | with_reducible refine bf d0 ?_ | with_reducible refine nt d0 ?_ | with_reducible refine nf d0 ?_ | with_reducible refine And.intro d0 ?_ | with_reducible refine bt d1 ?_ | with_reducible refine bf d1 ?_ | with_reducible refine nt d1 ?_ | with_reducible refine nf d1 ?_ | with_reducible refine And.intro d1 ?_ | with_reducible refine bt dv ?_ | with_reducible refine bf dv ?_ | with_reducible refine nt dv ?_ | with_reducible refine nf dv ?_ | with_reducible refine And.intro dv ?_ | with_reducible refine bt x0 ?_ | with_reducible refine bf x0 ?_ | with_reducible refine nt x0 ?_ | with_reducible refine nf x0 ?_ | with_reducible refine And.intro x0 ?_ | with_reducible refine bt x1 ?_ | with_reducible refine bf x1 ?_ | with_reducible refine nt x1 ?_ | with_reducible refine nf x1 ?_ | with_reducible refine And.intro x1 ?_ | with_reducible refine bt x2 ?_ | with_reducible refine bf x2 ?_ | with_reducible refine nt x2 ?_ | with_reducible refine nf x2 ?_ | with_reducible refine And.intro x2 ?_)
      refine m_Mo_judge _ ?_
      rw [d4]
      try rw [hM.2.1]
      repeat (first | with_reducible refine bt d0 ?_ | with_reducible refine bf d0 ?_ | with_reducible refine nt d0 ?_ | with_reducible refine nf d0 ?_ | with_reducible refine And.intro d0 ?_ | with_reducible refine bt d2 ?_ | with_reducible refine bf d2 ?_ | with_reducible refine nt d2 ?_ | with_reducible refine nf d2 ?_ | with_reducible refine And.intro d2 ?_ | with_reducible refine bt d3 ?_ | with_reducible refine bf d3 ?_ | with_reducible refine nt d3 ?_ | with_reducible refine nf d3 ?_ | with_reducible refine And.intro d3 ?_ | with_reducible refine bt dv ?_ | with_reducible refine bf dv ?_ | with_reducible refine nt dv ?_ | with_reducible refine nf dv ?_ | with_reducible refine And.intro dv ?_ | with_reducible refine bt y0 ?_ | with_reducible refine bf y0 ?_ | with_reducible refine nt y0 ?_ | with_reducible refine nf y0 ?_ | with_reducible refine And.intro y0 ?_ | with_reducible refine bt y1 ?_ | with_reducible refine bf y1 ?_ | with_reducible refine nt y1 ?_ | with_reducible refine nf y1 ?_ | with_reducible refine And.intro y1 ?_)
      exact kk _ _ hR1
    · refine m_PW_judge _ ?_
      rw [d4]
      try rw [hC.2.1]
      repeat (first | with_reducible refine bt d0 ?_ | with_reducible refine bf d0 ?_ | with_reducible refine nt d0 ?_ | with_reducible refine nf d0 ?_ | with_reducible refine And.intro d0 ?_ | with_reducible refine bt d0 ?_ | with_reducible refine bf d0 ?_ | with_reducible refine nt d0 ?_ | with_reducible refine nf d0 ?_ | with_reducible refine And.intro d0 ?_ | with_reducible refine bt d1 ?_ | with_reducible refine bf d1 ?_ | with_reducible refine nt d1 ?_ | with_reducible refine nf d1 ?_ | with_reducible refine And.intro d1 ?_ | with_reducible refine bt dv ?_ | with_reducible refine bf dv ?_ | with_reducible refine nt dv ?_ | with_reducible refine nf dv ?_ | with_reducible refine And.intro dv ?_ | with_reducible refine bt x0 ?_ | with_reducible refine bf x0 ?_ | with_reducible refine nt x0 ?_ | with_reducible refine nf x0 ?_ | with_reducible refine And.intro x0 ?_ | with_reducible refine bt x1 ?_ | with_reducible refine bf x1 ?_ | with_reducible refine nt x1 ?_ | with_reducible refine nf x1 ?_ | with_reducible refine And.intro x1 ?_ | with_reducible refine bt x2 ?_ | with_reducible refine bf x2 ?_ | with_reducible refine nt x2 ?_ | with_reducible refine nf x2 ?_ | with_reducible refine And.intro x2 ?_)
      refine m_Mo_judge _ ?_
      rw [d4]
      try rw [hM.2.1]
      repeat (first | with_reducible refine bt d0 ?_ | with_reducible refine bf d0 ?_ | with_reducible refine nt d0 ?_ | with_reducible refine nf d0 ?_ | with_reducible refine And.intro d0 ?_ | with_reducible refine bt d2 ?_ | with_reducible refine bf d2 ?_ | with_reducible refine nt d2 ?_ | with_reducible refine nf d2 ?_ | with_reducible refine And.intro d2 ?_ | with_reducible refine bt d3 ?_ | with_reducible refine bf d3 ?_ | with_reducible refine nt d3 ?_ | with_reducible refine nf d3 ?_ | with_reducible refine And.intro d3 ?_ | with_reducible refine bt dv ?_ | with_reducible refine bf dv ?_ | with_reducible refine nt dv ?_ | with_reducible refine nf dv ?_ | with_reducible refine And.intro dv ?_ | with_reducible refine bt y0 ?_ | with_reducible refine bf y0 ?_ | with_reducible refine nt y0 ?_ | with_reducible refine nf y0 ?_ | with_reducible refine And.intro y0 ?_ | with_reducible refine bt y1 ?_ | with_reducible refine bf y1 ?_ | with_reducible refine nt y1 ?_ | with_reducible refine nf y1 ?_ | with_reducible refine And.intro y1 ?_)
      exact kk _ _ hR1
    · refine m_PW_judge _ ?_
      rw [d4]
      repeat (first | with_reducible refine bt d0 ?_ | with_reducible refine bf d0 ?_ | with_reducible refine nt d0 ?_ | with_reducible refine nf d0 ?_ | with_reducible refine And.intro d0 ?_ | with_reducible refine bt d1 ?_ | with_reducible refine bf d1 ?_ | with_reducible refine nt d1 ?_ | with_reducible refine nf d1 ?_ | with_reducible refine And.intro d1 ?_ | with_reducible refine bt dv ?_ | with_reducible refine bf dv ?_ | with_reducible refine nt dv ?_ | with_reducible refine nf dv ?_ | with_reducible refine And.intro dv ?_ | with_reducible refine bt x0 ?_ | with_reducible refine bf x0 ?_ | with_reducible refine nt x0 ?_ | with_reducible refine nf x0 ?_ | with_reducible refine And.intro x0 ?_ | with_reducible refine bt x1 ?_ | with_reducible refine bf x1 ?_ | with_reducible refine nt x1 ?_ | with_reducible refine nf x1 ?_ | with_reducible refine And.intro x1 ?_ | with_reducible refine bt x2 ?_ | with_reducible refine bf x2 ?_ | with_reducible refine nt x2 ?_ | with_reducible refine nf x2 ?_ | with_reducible refine And.intro x2 ?_)
      refine c_judge (d := D + 193) hC hG (fun H1 f1 => ?_)
      have hM1 := (hN.c f1).ms ht
      refine m_Mo_judge _ ?_
      rw [d4, show H1.1 81 d = H.1 81 d from f1.1 81 d rfl]
      repeat (first | with_reducible refine bt d2 ?_ | with_reducible refine bf d2 ?_ | with_reducible refine nt d2 ?_ | with_reducible refine nf d2 ?_ | with_reducible refine And.intro d2 ?_ | with_reducible refine bt d3 ?_ | with_reducible refine bf d3 ?_ | with_reducible refine nt d3 ?_ | with_reducible refine nf d3 ?_ | with_reducible refine And.intro d3 ?_ | with_reducible refine bt dv ?_ | with_reducible refine bf dv ?_ | with_reducible refine nt dv ?_ | with_reducible refine nf dv ?_ | with_reducible refine And.intro dv ?_ | with_reducible refine bt y0 ?_ | with_reducible refine bf y0 ?_ | with_reducible refine nt y0 ?_ | with_reducible refine nf y0 ?_ | with_reducible refine And.intro y0 ?_ | with_reducible refine bt y1 ?_ | with_reducible refine bf y1 ?_ | with_reducible refine nt y1 ?_ | with_reducible refine nf y1 ?_ | with_reducible refine And.intro y1 ?_)
      refine c_begins hM1 (fun H2 f2 hT2 ef => ?_)
      have hM2 := hM1.fr (f2.mono rfl)
      refine c_falseM (d := D + 125) hM2.2.2.1 hM2.1.2.1.2.2.1 hM2.1 ef hM2.2.1 ((hG'.fr f1 rfl).fr f2 rfl) hT2 hM2.2.2.2.2 (by decide) (fun H3 f3 => ?_)
      exact kk _ _ (hR.z f1 ((f2.mono (S' := JQ) rfl).tr (f3.mono rfl)))
  · have hm : pm_R (D + 200) M_Mo_judge [.ref 55, .int a1] H (pm_i fun y H2 => K (-1) y H2) := by
      refine m_Mo_judge _ ?_
      try rw [hM.2.1]
      ((try (simp only [lgl, lgg, i2l_t, u32_0, u64_0, u32_1, u64_1, u32_2, u64_2, u32_3, u64_3, u32_4, u64_4, u32_5, u64_5, u32_7, u64_7, u32_12, u64_12, u32_24, u64_24, u32_30, u64_30, u32_49, u64_49, u32_60, u64_60, u32_99, u64_99, u32_255, u64_255, u32_999, u64_999, en])); (try (simp only [t_lt, t_le, u32_0, u64_0, u32_1, u64_1, u32_2, u64_2, u32_3, u64_3, u32_4, u64_4, u32_5, u64_5, u32_7, u64_7, u32_12, u64_12, u32_24, u64_24, u32_30, u64_30, u32_49, u64_49, u32_60, u64_60, u32_99, u64_99, u32_255, u64_255, u32_999, u64_999, en])); repeat' (first | with_reducible intro hh | with_reducible apply And.intro | exact vp_in_iff.mpr (by omega) | (exfalso; omega) | exact kk _ _ hR1))
    refine m_PW_judge _ ?_
    try rw [hC.2.1]
    ((try (simp only [lgl, lgg, i2l_t, u32_0, u64_0, u32_1, u64_1, u32_2, u64_2, u32_3, u64_3, u32_4, u64_4, u32_5, u64_5, u32_7, u64_7, u32_12, u64_12, u32_24, u64_24, u32_30, u64_30, u32_49, u64_49, u32_60, u64_60, u32_99, u64_99, u32_255, u64_255, u32_999, u64_999, en])); (try (simp only [t_lt, t_le, u32_0, u64_0, u32_1, u64_1, u32_2, u64_2, u32_3, u64_3, u32_4, u64_4, u32_5, u64_5, u32_7, u64_7, u32_12, u64_12, u32_24, u64_24, u32_30, u64_30, u32_49, u64_49, u32_60, u64_60, u32_99, u64_99, u32_255, u64_255, u32_999, u64_999, en])); repeat' (first | with_reducible intro hh | with_reducible apply And.intro | exact vp_in_iff.mpr (by omega) | (exfalso; omega) | exact hm))
