/-! calls in pairs: shelves -/
theorem sh_has {d k : Nat} (hd : d < 6) (hk : k < 3) : pm_has ShL (pm_cd (43 + 2 * d) k) = true := by
  rcases (show d = 0 ∨ d = 1 ∨ d = 2 ∨ d = 3 ∨ d = 4 ∨ d = 5 by omega) with e | e | e | e | e | e <;> subst e <;> rcases (show k = 0 ∨ k = 1 ∨ k = 2 by omega) with e | e | e <;> subst e <;> rfl
theorem RSh.oth {m d : Nat} {H H' : pmT} (h : RSh m d H) (e0 : ∀ k, k < 3 → H'.1 (43 + 2 * d) k = H.1 (43 + 2 * d) k) (e1 : H'.1 81 d = H.1 81 d) (e2 : H'.1 82 d = H.1 82 d) (eL : ∀ j, j < 60 → H'.2.1 (43 + 2 * d + 1) j = H.2.1 (43 + 2 * d + 1) j) (eM : ∀ j, j < 60 → H'.2.1 83 (60 * d + j) = H.2.1 83 (60 * d + j)) : RSh m d H' := by
  rcases h with ⟨h1, h2, h3⟩ | ⟨w, hw, h1, h2, h3⟩ | ⟨so, len, hso, hlen, h1, h2, h3, h4, h5, h6, h7⟩
  · exact Or.inl ⟨(e0 0 (by decide)).trans h1, (e0 1 (by decide)).trans h2, e1.trans h3⟩
  · exact Or.inr (Or.inl ⟨w, hw, (e0 0 (by decide)).trans h1, (e0 1 (by decide)).trans h2, e1.trans h3⟩)
  · refine Or.inr (Or.inr ⟨so, len, hso, hlen, (e0 0 (by decide)).trans h1, (e0 1 (by decide)).trans h2, e1.trans h3, (e0 2 (by decide)).trans h4, e2.trans h5, fun j hj => ?_, fun c j hj => ?_⟩)
    · rw [eL j (by omega), eM j (by omega)]; exact h6 j hj
    · rw [eM j (by omega)]; exact h7 c j hj
theorem Rel.sh {hb : Nat → Nat} {L : Law} {n t m : Nat} {now : Nat → Row} {H H' : pmT} (hN : RNow hb L n t now H) (hT : RRest n t m H) (hD : RDay H) (f : f1 ShL H H') (e : H'.2.2 = H.2.2) (h : ∀ d, d < 6 → RSh m d H') : Rel (t + 1) H' := by
  obtain ⟨t1, t2, t3, t4, t5, t6, t7, t8⟩ := hT
  exact ⟨hb, L, n, now, m, (hN.f1 f e rfl).mono (Nat.le_succ _), ⟨t1.f1 f rfl, t2.f1 f e rfl, t3.f1 f rfl, t4.f1 f rfl, t5.f1 f rfl, h, t7.f1 f rfl, (t8.f1 f rfl).mono (Nat.le_succ _)⟩, hD.f1 f rfl⟩
theorem p_keep {D t : Nat} {H : pmT} {K : Int32 → Int32 → pmT → Prop} (a1 a2 : Int32) (hR : Rel t H) (ht : t ≤ 1000) (kk : ∀ x H', Rel (t + 1) H' → K x x H') : pm_R (D + 200) M_PW_keep [.ref 0, .int a1, .int a2] H (pm_i fun x H1 => pm_R (D + 200) M_Mo_keep [.ref 55, .int a1, .int a2] H1 (pm_i fun y H2 => K x y H2)) := by
  obtain ⟨hb, L, n, now, m, hN, hT, hD⟩ := id hR
  have hC := hN.cs ht
  have hM := hN.ms ht
  have hn12 := hC.2.2.1
  have hB := hT.2.2.2.1
  have hSh := hT.2.2.2.2.2.1
  have en : (nI n - (1 : Int32)).toInt = (n : Int) - 1 := nm1_t (by omega)
  have hR1 : Rel (t + 1) H := hR.mono (Nat.le_succ _)
  have hm50 := hB.1
  have em : (nI m - (1 : Int32)).toInt = (m : Int) - 1 := nm1_t (by omega)
  by_cases hok : (0 ≤ a1.toInt ∧ a1.toInt ≤ 5) ∧ (-1 ≤ a2.toInt ∧ a2.toInt < m)
  · obtain ⟨⟨p1, p2⟩, p3, p4⟩ := hok
    obtain ⟨d, _, rfl, eb⟩ := nI_tI a1 p1
    have hd : d < 6 := by omega
    have d0 : ¬ nI d < (0 : Int32) := nI_pos (by omega)
    have d1 : nI d ≤ (5 : Int32) := nI_le (show d ≤ 5 by omega) (by decide)
    have d2 : ¬ lg_cmp (nI d).toInt64 (0 : Int64) < 0 := l_0 (by omega)
    have d3 : ¬ 0 < lg_cmp (nI d).toInt64 (5 : Int64) := l_c (by omega) (by show (d : Int) ≤ 5; omega)
    have d4 : (nI d).toNatClampNeg = d := nIc (by omega)
    have dv : vp_in (nI d) 6 := vp_in_nI hd (by decide)
    have fin : ∀ w : Int32, w = -1 ∨ (∃ j, j < m ∧ w = nI j) → ∀ H1 : pmT, H1 = (pm_up (pm_up (pm_up H.1 (43 + 2 * d) 0 w) (43 + 2 * d) 1 (-1 : Int32)) (43 + 2 * d) 2 (0 : Int32), H.2) → K 1 1 (pm_up (pm_up H1.1 81 d w) 82 d (0 : Int32), H1.2) := by
      intro w hw H1 eH1
      have f1 : fr ShL H H1 := by
        rw [eH1]
        exact ((fr.rf.up (sh_has hd (by decide))).up (sh_has hd (by decide))).up (sh_has hd (by decide))
      have f2 : fr ShL H1 (pm_up (pm_up H1.1 81 d w) 82 d (0 : Int32), H1.2) := (fr.rf.up (o := 81) rfl).up (o := 82) rfl
      have f := f1.tr f2
      have o1 : ∀ o, o ≠ 43 + 2 * d → H1.1 o = H.1 o := fun o ho => by
        rw [eH1]
        show pm_up (pm_up (pm_up H.1 (43 + 2 * d) 0 w) (43 + 2 * d) 1 (-1 : Int32)) (43 + 2 * d) 2 (0 : Int32) o = _
        rw [pm_up_ne _ _ _ ho, pm_up_ne _ _ _ ho, pm_up_ne _ _ _ ho]
      have o2 : ∀ o, o ≠ 81 → o ≠ 82 → pm_up (pm_up H1.1 81 d w) 82 d (0 : Int32) o = H1.1 o := fun o h1 h2 => by
        rw [pm_up_ne _ _ _ h2, pm_up_ne _ _ _ h1]
      have e81 : ∀ k, pm_up (pm_up H1.1 81 d w) 82 d (0 : Int32) 81 k = upd (H1.1 81) d w k := fun k => by
        rw [pm_up_ne _ _ _ (by decide), pm_up_self]
      have e82 : ∀ k, pm_up (pm_up H1.1 81 d w) 82 d (0 : Int32) 82 k = upd (H1.1 82) d 0 k := fun k => by
        rw [pm_up_self, pm_up_ne _ _ _ (by decide)]
      have s0 : H1.1 (43 + 2 * d) 0 = w := by
        rw [eH1]
        show pm_up (pm_up (pm_up H.1 (43 + 2 * d) 0 w) (43 + 2 * d) 1 (-1 : Int32)) (43 + 2 * d) 2 (0 : Int32) (43 + 2 * d) 0 = _
        rw [pm_up_self, pk_un (by decide), pm_up_self, pk_un (by decide), pm_up_self, pk_us]
      have s1 : H1.1 (43 + 2 * d) 1 = -1 := by
        rw [eH1]
        show pm_up (pm_up (pm_up H.1 (43 + 2 * d) 0 w) (43 + 2 * d) 1 (-1 : Int32)) (43 + 2 * d) 2 (0 : Int32) (43 + 2 * d) 1 = _
        rw [pm_up_self, pk_un (by decide), pm_up_self, pk_us]
      refine kk _ _ (Rel.sh hN hT hD f.1 (by rw [f.2]) (fun d' hd' => ?_))
      by_cases z : d' = d
      · subst z
        have r0 : pm_up (pm_up H1.1 81 d' w) 82 d' (0 : Int32) (43 + 2 * d') 0 = w := by rw [o2 _ (by omega) (by omega)]; exact s0
        have r1 : pm_up (pm_up H1.1 81 d' w) 82 d' (0 : Int32) (43 + 2 * d') 1 = -1 := by rw [o2 _ (by omega) (by omega)]; exact s1
        have r2 := (e81 d').trans pk_us
        rcases hw with ew | ⟨j, hj, ew⟩
        · exact Or.inl ⟨r0.trans ew, r1, r2.trans ew⟩
        · exact Or.inr (Or.inl ⟨j, hj, r0.trans ew, r1, r2.trans ew⟩)
      · refine (hSh d' hd').oth (fun k hk => ?_) ?_ ?_ (fun j hj => by rw [f.2]) (fun j hj => by rw [f.2])
        · show pm_up (pm_up H1.1 81 d w) 82 d (0 : Int32) (43 + 2 * d') k = _
          rw [o2 _ (by omega) (by omega), o1 _ (by omega)]
        · exact (e81 d').trans ((pk_un z).trans (by rw [o1 81 (by omega)]))
        · exact (e82 d').trans ((pk_un z).trans (by rw [o1 82 (by omega)]))
    by_cases neg : a2 = -1
    · subst neg
      have x0 : ¬ (-1 : Int32) < -1 := by decide
      have x1 : (-1 : Int32) ≤ nI m - (1 : Int32) := by
        rw [t_le, em, um1]; omega
      have y1 : (-1 : Int32) = -1 := rfl
      refine m_PW_keep _ _ ?_
      rw [hB.2.1, d4]
      repeat (first | with_reducible refine bt d0 ?_ | with_reducible refine bf d0 ?_ | with_reducible refine nt d0 ?_ | with_reducible refine nf d0 ?_ | with_reducible refine And.intro d0 ?_ | with_reducible refine bt d1 ?_ | with_reducible refine bf d1 ?_ | with_reducible refine nt d1 ?_ | with_reducible refine nf d1 ?_ | with_reducible refine And.intro d1 ?_ | with_reducible refine bt x0 ?_ | with_reducible refine bf x0 ?_ | with_reducible refine nt x0 ?_ | with_reducible refine nf x0 ?_ | with_reducible refine And.intro x0 ?_ | with_reducible refine bt x1 ?_ | with_reducible refine bf x1 ?_ | with_reducible refine nt x1 ?_ | with_reducible refine nf x1 ?_ | with_reducible refine And.intro x1 ?_ | with_reducible refine bt dv ?_ | with_reducible refine bf dv ?_ | with_reducible refine nt dv ?_ | with_reducible refine nf dv ?_ | with_reducible refine And.intro dv ?_)
      generalize hH1 : ((pm_up (pm_up (pm_up H.1 (43 + 2 * d) 0 (-1 : Int32)) (43 + 2 * d) 1 (-1 : Int32)) (43 + 2 * d) 2 (0 : Int32), H.2) : pmT) = H1
      refine m_Mo_keep _ _ ?_
      rw [d4]
      repeat (first | with_reducible refine bt d2 ?_ | with_reducible refine bf d2 ?_ | with_reducible refine nt d2 ?_ | with_reducible refine nf d2 ?_ | with_reducible refine And.intro d2 ?_ | with_reducible refine bt d3 ?_ | with_reducible refine bf d3 ?_ | with_reducible refine nt d3 ?_ | with_reducible refine nf d3 ?_ | with_reducible refine And.intro d3 ?_ | with_reducible refine bt y1 ?_ | with_reducible refine bf y1 ?_ | with_reducible refine nt y1 ?_ | with_reducible refine nf y1 ?_ | with_reducible refine And.intro y1 ?_ | with_reducible refine bt dv ?_ | with_reducible refine bf dv ?_ | with_reducible refine nt dv ?_ | with_reducible refine nf dv ?_ | with_reducible refine And.intro dv ?_)
      exact fin (-1) (Or.inl rfl) H1 hH1.symm
    · have h0 : 0 ≤ a2.toInt := by
        rw [t_eq, um1] at neg
        omega
      obtain ⟨w, _, rfl, ew⟩ := nI_tI a2 h0
      have hw : w < m := by omega
      have x0 : ¬ nI w < (-1 : Int32) := by
        rw [t_lt, um1]; omega
      have x1 : nI w ≤ nI m - (1 : Int32) := le_pred hw (by omega)
      have y2 : ¬ lg_cmp (nI w).toInt64 (0 : Int64) < 0 := l_0 (by omega)
      have y3 : ¬ 0 < lg_cmp (nI w).toInt64 ((nI m - (1 : Int32)).toInt64) := l_n hw (by omega)
      refine m_PW_keep _ _ ?_
      rw [hB.2.1, d4]
      repeat (first | with_reducible refine bt d0 ?_ | with_reducible refine bf d0 ?_ | with_reducible refine nt d0 ?_ | with_reducible refine nf d0 ?_ | with_reducible refine And.intro d0 ?_ | with_reducible refine bt d1 ?_ | with_reducible refine bf d1 ?_ | with_reducible refine nt d1 ?_ | with_reducible refine nf d1 ?_ | with_reducible refine And.intro d1 ?_ | with_reducible refine bt x0 ?_ | with_reducible refine bf x0 ?_ | with_reducible refine nt x0 ?_ | with_reducible refine nf x0 ?_ | with_reducible refine And.intro x0 ?_ | with_reducible refine bt x1 ?_ | with_reducible refine bf x1 ?_ | with_reducible refine nt x1 ?_ | with_reducible refine nf x1 ?_ | with_reducible refine And.intro x1 ?_ | with_reducible refine bt dv ?_ | with_reducible refine bf dv ?_ | with_reducible refine nt dv ?_ | with_reducible refine nf dv ?_ | with_reducible refine And.intro dv ?_)
      generalize hH1 : ((pm_up (pm_up (pm_up H.1 (43 + 2 * d) 0 (nI w)) (43 + 2 * d) 1 (-1 : Int32)) (43 + 2 * d) 2 (0 : Int32), H.2) : pmT) = H1
      have e42 : H1.1 55 42 = nI m := by
        rw [← hH1]
        show pm_up (pm_up (pm_up H.1 (43 + 2 * d) 0 (nI w)) (43 + 2 * d) 1 (-1 : Int32)) (43 + 2 * d) 2 (0 : Int32) 55 42 = _
        by_cases z : 55 = 43 + 2 * d
        · omega
        · rw [pm_up_ne _ _ _ z, pm_up_ne _ _ _ z, pm_up_ne _ _ _ z]
          exact hB.2.2.1
      refine m_Mo_keep _ _ ?_
      rw [d4, e42]
      repeat (first | with_reducible refine bt d2 ?_ | with_reducible refine bf d2 ?_ | with_reducible refine nt d2 ?_ | with_reducible refine nf d2 ?_ | with_reducible refine And.intro d2 ?_ | with_reducible refine bt d3 ?_ | with_reducible refine bf d3 ?_ | with_reducible refine nt d3 ?_ | with_reducible refine nf d3 ?_ | with_reducible refine And.intro d3 ?_ | with_reducible refine bt neg ?_ | with_reducible refine bf neg ?_ | with_reducible refine nt neg ?_ | with_reducible refine nf neg ?_ | with_reducible refine And.intro neg ?_ | with_reducible refine bt y2 ?_ | with_reducible refine bf y2 ?_ | with_reducible refine nt y2 ?_ | with_reducible refine nf y2 ?_ | with_reducible refine And.intro y2 ?_ | with_reducible refine bt y3 ?_ | with_reducible refine bf y3 ?_ | with_reducible refine nt y3 ?_ | with_reducible refine nf y3 ?_ | with_reducible refine And.intro y3 ?_ | with_reducible refine bt dv ?_ | with_reducible refine bf dv ?_ | with_reducible refine nt dv ?_ | with_reducible refine nf dv ?_ | with_reducible refine And.intro dv ?_)
      exact fin (nI w) (Or.inr ⟨w, hw, rfl⟩) H1 hH1.symm
  · have hm : pm_R (D + 200) M_Mo_keep [.ref 55, .int a1, .int a2] H (pm_i fun y H2 => K (-1) y H2) := by
      refine m_Mo_keep _ _ ?_
      rw [hB.2.2.1]
      ((try (simp only [lgl, lgg, i2l_t, u32_0, u64_0, u32_1, u64_1, u32_2, u64_2, u32_3, u64_3, u32_4, u64_4, u32_5, u64_5, u32_7, u64_7, u32_12, u64_12, u32_24, u64_24, u32_30, u64_30, u32_49, u64_49, u32_60, u64_60, u32_99, u64_99, u32_255, u64_255, u32_999, u64_999, em, t_eq, um1])); (try (simp only [t_lt, t_le, u32_0, u64_0, u32_1, u64_1, u32_2, u64_2, u32_3, u64_3, u32_4, u64_4, u32_5, u64_5, u32_7, u64_7, u32_12, u64_12, u32_24, u64_24, u32_30, u64_30, u32_49, u64_49, u32_60, u64_60, u32_99, u64_99, u32_255, u64_255, u32_999, u64_999, em, t_eq, um1])); repeat' (first | with_reducible intro hh | with_reducible apply And.intro | exact vp_in_iff.mpr (by omega) | (exfalso; omega) | exact kk _ _ hR1))
    refine m_PW_keep _ _ ?_
    rw [hB.2.1]
    ((try (simp only [lgl, lgg, i2l_t, u32_0, u64_0, u32_1, u64_1, u32_2, u64_2, u32_3, u64_3, u32_4, u64_4, u32_5, u64_5, u32_7, u64_7, u32_12, u64_12, u32_24, u64_24, u32_30, u64_30, u32_49, u64_49, u32_60, u64_60, u32_99, u64_99, u32_255, u64_255, u32_999, u64_999, em, um1])); (try (simp only [t_lt, t_le, u32_0, u64_0, u32_1, u64_1, u32_2, u64_2, u32_3, u64_3, u32_4, u64_4, u32_5, u64_5, u32_7, u64_7, u32_12, u64_12, u32_24, u64_24, u32_30, u64_30, u32_49, u64_49, u32_60, u64_60, u32_99, u64_99, u32_255, u64_255, u32_999, u64_999, em, um1])); repeat' (first | with_reducible intro hh | with_reducible apply And.intro | exact vp_in_iff.mpr (by omega) | (exfalso; omega) | exact hm))
/-- elements of a row, both shelves alike: none, a body, a row -/
theorem row_cases {m d : Nat} {H : pmT} (hm : m ≤ 50) (h : RSh m d H) :
    (¬ 0 ≤ H.1 (43 + 2 * d) 0 ∧ H.1 (43 + 2 * d) 1 = -1 ∧ ¬ 0 ≤ H.1 81 d ∧ H.1 81 d < 0) ∨
    (∃ w, w < m ∧ 0 ≤ H.1 (43 + 2 * d) 0 ∧ H.1 (43 + 2 * d) 1 = -1 ∧ 0 ≤ H.1 81 d ∧ ¬ H.1 81 d < 0 ∧ ¬ (50 : Int32) ≤ H.1 81 d ∧ H.1 81 d < 50 ∧ H.1 (43 + 2 * d) 0 = nI w ∧ H.1 81 d = nI w) ∨
    (∃ so len, so ≤ 4 ∧ len ≤ 60 ∧ ¬ 0 ≤ H.1 (43 + 2 * d) 0 ∧ ¬ H.1 (43 + 2 * d) 1 = -1 ∧ 0 ≤ H.1 81 d ∧ ¬ H.1 81 d < 0 ∧ (50 : Int32) ≤ H.1 81 d ∧ ¬ H.1 81 d < 50 ∧ H.1 (43 + 2 * d) 0 = -1 ∧ H.1 (43 + 2 * d) 1 = nI so ∧ H.1 81 d = nI (50 + so) ∧ H.1 (43 + 2 * d) 2 = nI len ∧ H.1 82 d = nI len ∧ (∀ j, j < len → H.2.1 (43 + 2 * d + 1) j = H.2.1 83 (60 * d + j)) ∧ (¬ so = 3 → ∀ j, j < len → (H.2.1 83 (60 * d + j)).toInt = (H.2.1 83 (60 * d + j)).toInt32.toInt)) := by
  have n0 : ¬ (0 : Int32) ≤ -1 := by decide
  rcases h with ⟨h1, h2, h3⟩ | ⟨w, hw, h1, h2, h3⟩ | ⟨so, len, hso, hlen, h1, h2, h3, h4, h5, h6, h7⟩
  · refine Or.inl ⟨?_, h2, ?_, ?_⟩ <;> first | rw [h1] | rw [h3]
    · exact n0
    · exact n0
    · decide
  · have e50 : ((50 : Int32) ≤ nI w) = (50 ≤ w) := i_le 50 w (by decide) (by omega)
    have l50 : (nI w < (50 : Int32)) = (w < 50) := i_lt w 50 (by omega) (by decide)
    refine Or.inr (Or.inl ⟨w, hw, ?_, h2, ?_, ?_, ?_, ?_, h1, h3⟩) <;> first | rw [h1] | rw [h3]
    · exact nI_pos' (by omega)
    · exact nI_pos' (by omega)
    · exact nI_pos (by omega)
    · rw [e50]; omega
    · rw [l50]; omega
  · have e50 : ((50 : Int32) ≤ nI (50 + so)) = (50 ≤ 50 + so) := i_le 50 (50 + so) (by decide) (by omega)
    have l50 : (nI (50 + so) < (50 : Int32)) = (50 + so < 50) := i_lt (50 + so) 50 (by omega) (by decide)
    refine Or.inr (Or.inr ⟨so, len, hso, hlen, ?_, ?_, ?_, ?_, ?_, ?_, h1, h2, h3, h4, h5, h6, h7⟩) <;> first | rw [h1] | rw [h2] | rw [h3]
    · exact n0
    · exact nI_nn (by omega) (by decide)
    · exact nI_pos' (by omega)
    · exact nI_pos (by omega)
    · rw [e50]; omega
    · rw [l50]; omega
theorem p_element {D t : Nat} {H : pmT} {K : Int64 → Int64 → pmT → Prop} (a1 a2 : Int32) (hR : Rel t H) (ht : t ≤ 1000) (kk : ∀ x H', Rel (t + 1) H' → K x x H') : pm_R (D + 200) M_PW_element [.ref 0, .int a1, .int a2] H (pm_l fun x H1 => pm_R (D + 200) M_Mo_element [.ref 55, .int a1, .int a2] H1 (pm_l fun y H2 => K x y H2)) := by
  obtain ⟨hb, L, n, now, m, hN, hT, hD⟩ := id hR
  have hC := hN.cs ht
  have hM := hN.ms ht
  have hn12 := hC.2.2.1
  have hB := hT.2.2.2.1
  have hSh := hT.2.2.2.2.2.1
  have en : (nI n - (1 : Int32)).toInt = (n : Int) - 1 := nm1_t (by omega)
  have hR1 : Rel (t + 1) H := hR.mono (Nat.le_succ _)
  by_cases hok : 0 ≤ a1.toInt ∧ a1.toInt ≤ 5
  · obtain ⟨p1, p2⟩ := hok
    obtain ⟨d, _, rfl, eb⟩ := nI_tI a1 p1
    have hd : d < 6 := by omega
    have d0 : ¬ nI d < (0 : Int32) := nI_pos (by omega)
    have d1 : nI d ≤ (5 : Int32) := nI_le (show d ≤ 5 by omega) (by decide)
    have d2 : ¬ lg_cmp (nI d).toInt64 (0 : Int64) < 0 := l_0 (by omega)
    have d3 : ¬ 0 < lg_cmp (nI d).toInt64 (5 : Int64) := l_c (by omega) (by show (d : Int) ≤ 5; omega)
    have d4 : (nI d).toNatClampNeg = d := nIc (by omega)
    have dv : vp_in (nI d) 6 := vp_in_nI hd (by decide)
    rcases row_cases hB.1 (hSh d hd) with ⟨x0, x1, y0, _⟩ | ⟨w, hw, x0, x1, y0, _, y1, _, _, _⟩ | ⟨so, len, hso, hlen, x0, x1, y0, _, y1, _, h1, h2, h3, h4, h5, h6, h7⟩
    · refine m_PW_element _ _ ?_
      rw [d4]
      repeat (first | with_reducible refine bt d0 ?_ | with_reducible refine bf d0 ?_ | with_reducible refine nt d0 ?_ | with_reducible refine nf d0 ?_ | with_reducible refine And.intro d0 ?_ | with_reducible refine bt d1 ?_ | with_reducible refine bf d1 ?_ | with_reducible refine nt d1 ?_ | with_reducible refine nf d1 ?_ | with_reducible refine And.intro d1 ?_ | with_reducible refine bt dv ?_ | with_reducible refine bf dv ?_ | with_reducible refine nt dv ?_ | with_reducible refine nf dv ?_ | with_reducible refine And.intro dv ?_ | with_reducible refine bt x0 ?_ | with_reducible refine bf x0 ?_ | with_reducible refine nt x0 ?_ | with_reducible refine nf x0 ?_ | with_reducible refine And.intro x0 ?_ | with_reducible refine bt x1 ?_ | with_reducible refine bf x1 ?_ | with_reducible refine nt x1 ?_ | with_reducible refine nf x1 ?_ | with_reducible refine And.intro x1 ?_)
      refine m_Mo_element _ _ ?_
      rw [d4]
      repeat (first | with_reducible refine bt d2 ?_ | with_reducible refine bf d2 ?_ | with_reducible refine nt d2 ?_ | with_reducible refine nf d2 ?_ | with_reducible refine And.intro d2 ?_ | with_reducible refine bt d3 ?_ | with_reducible refine bf d3 ?_ | with_reducible refine nt d3 ?_ | with_reducible refine nf d3 ?_ | with_reducible refine And.intro d3 ?_ | with_reducible refine bt dv ?_ | with_reducible refine bf dv ?_ | with_reducible refine nt dv ?_ | with_reducible refine nf dv ?_ | with_reducible refine And.intro dv ?_ | with_reducible refine bt y0 ?_ | with_reducible refine bf y0 ?_ | with_reducible refine nt y0 ?_ | with_reducible refine nf y0 ?_ | with_reducible refine And.intro y0 ?_)
      exact kk _ _ hR1
    · refine m_PW_element _ _ ?_
      rw [d4]
      repeat (first | with_reducible refine bt d0 ?_ | with_reducible refine bf d0 ?_ | with_reducible refine nt d0 ?_ | with_reducible refine nf d0 ?_ | with_reducible refine And.intro d0 ?_ | with_reducible refine bt d1 ?_ | with_reducible refine bf d1 ?_ | with_reducible refine nt d1 ?_ | with_reducible refine nf d1 ?_ | with_reducible refine And.intro d1 ?_ | with_reducible refine bt dv ?_ | with_reducible refine bf dv ?_ | with_reducible refine nt dv ?_ | with_reducible refine nf dv ?_ | with_reducible refine And.intro dv ?_ | with_reducible refine bt x0 ?_ | with_reducible refine bf x0 ?_ | with_reducible refine nt x0 ?_ | with_reducible refine nf x0 ?_ | with_reducible refine And.intro x0 ?_ | with_reducible refine bt x1 ?_ | with_reducible refine bf x1 ?_ | with_reducible refine nt x1 ?_ | with_reducible refine nf x1 ?_ | with_reducible refine And.intro x1 ?_)
      refine m_Mo_element _ _ ?_
      rw [d4]
      repeat (first | with_reducible refine bt d2 ?_ | with_reducible refine bf d2 ?_ | with_reducible refine nt d2 ?_ | with_reducible refine nf d2 ?_ | with_reducible refine And.intro d2 ?_ | with_reducible refine bt d3 ?_ | with_reducible refine bf d3 ?_ | with_reducible refine nt d3 ?_ | with_reducible refine nf d3 ?_ | with_reducible refine And.intro d3 ?_ | with_reducible refine bt dv ?_ | with_reducible refine bf dv ?_ | with_reducible refine nt dv ?_ | with_reducible refine nf dv ?_ | with_reducible refine And.intro dv ?_ | with_reducible refine bt y0 ?_ | with_reducible refine bf y0 ?_ | with_reducible refine nt y0 ?_ | with_reducible refine nf y0 ?_ | with_reducible refine And.intro y0 ?_ | with_reducible refine bt y1 ?_ | with_reducible refine bf y1 ?_ | with_reducible refine nt y1 ?_ | with_reducible refine nf y1 ?_ | with_reducible refine And.intro y1 ?_)
      exact kk _ _ hR1
    · refine m_PW_element _ _ ?_
      rw [d4]
      repeat (first | with_reducible refine bt d0 ?_ | with_reducible refine bf d0 ?_ | with_reducible refine nt d0 ?_ | with_reducible refine nf d0 ?_ | with_reducible refine And.intro d0 ?_ | with_reducible refine bt d1 ?_ | with_reducible refine bf d1 ?_ | with_reducible refine nt d1 ?_ | with_reducible refine nf d1 ?_ | with_reducible refine And.intro d1 ?_ | with_reducible refine bt dv ?_ | with_reducible refine bf dv ?_ | with_reducible refine nt dv ?_ | with_reducible refine nf dv ?_ | with_reducible refine And.intro dv ?_ | with_reducible refine bt x0 ?_ | with_reducible refine bf x0 ?_ | with_reducible refine nt x0 ?_ | with_reducible refine nf x0 ?_ | with_reducible refine And.intro x0 ?_ | with_reducible refine bt x1 ?_ | with_reducible refine bf x1 ?_ | with_reducible refine nt x1 ?_ | with_reducible refine nf x1 ?_ | with_reducible refine And.intro x1 ?_)
      rw [h4]
      by_cases neg : a2 < 0
      · repeat (first | with_reducible refine bt neg ?_ | with_reducible refine bf neg ?_ | with_reducible refine nt neg ?_ | with_reducible refine nf neg ?_ | with_reducible refine And.intro neg ?_)
        refine m_Mo_element _ _ ?_
        rw [d4]
        repeat (first | with_reducible refine bt d2 ?_ | with_reducible refine bf d2 ?_ | with_reducible refine nt d2 ?_ | with_reducible refine nf d2 ?_ | with_reducible refine And.intro d2 ?_ | with_reducible refine bt d3 ?_ | with_reducible refine bf d3 ?_ | with_reducible refine nt d3 ?_ | with_reducible refine nf d3 ?_ | with_reducible refine And.intro d3 ?_ | with_reducible refine bt dv ?_ | with_reducible refine bf dv ?_ | with_reducible refine nt dv ?_ | with_reducible refine nf dv ?_ | with_reducible refine And.intro dv ?_ | with_reducible refine bt y0 ?_ | with_reducible refine bf y0 ?_ | with_reducible refine nt y0 ?_ | with_reducible refine nf y0 ?_ | with_reducible refine And.intro y0 ?_ | with_reducible refine bt y1 ?_ | with_reducible refine bf y1 ?_ | with_reducible refine nt y1 ?_ | with_reducible refine nf y1 ?_ | with_reducible refine And.intro y1 ?_ | with_reducible refine bt neg ?_ | with_reducible refine bf neg ?_ | with_reducible refine nt neg ?_ | with_reducible refine nf neg ?_ | with_reducible refine And.intro neg ?_)
        exact kk _ _ hR1
      · have neg' : 0 ≤ a2.toInt := by
          rw [t_lt] at neg
          have : (0 : Int32).toInt = 0 := rfl
          omega
        obtain ⟨j, hj31, rfl, ej⟩ := nI_tI a2 neg'
        repeat (first | with_reducible refine bt neg ?_ | with_reducible refine bf neg ?_ | with_reducible refine nt neg ?_ | with_reducible refine nf neg ?_ | with_reducible refine And.intro neg ?_)
        rw [i_lt len j (by omega) hj31]
        by_cases c1 : len < j
        · repeat (first | with_reducible refine bt c1 ?_ | with_reducible refine bf c1 ?_ | with_reducible refine nt c1 ?_ | with_reducible refine nf c1 ?_ | with_reducible refine And.intro c1 ?_)
          refine m_Mo_element _ _ ?_
          rw [d4, h5]
          repeat (first | with_reducible refine bt d2 ?_ | with_reducible refine bf d2 ?_ | with_reducible refine nt d2 ?_ | with_reducible refine nf d2 ?_ | with_reducible refine And.intro d2 ?_ | with_reducible refine bt d3 ?_ | with_reducible refine bf d3 ?_ | with_reducible refine nt d3 ?_ | with_reducible refine nf d3 ?_ | with_reducible refine And.intro d3 ?_ | with_reducible refine bt dv ?_ | with_reducible refine bf dv ?_ | with_reducible refine nt dv ?_ | with_reducible refine nf dv ?_ | with_reducible refine And.intro dv ?_ | with_reducible refine bt y0 ?_ | with_reducible refine bf y0 ?_ | with_reducible refine nt y0 ?_ | with_reducible refine nf y0 ?_ | with_reducible refine And.intro y0 ?_ | with_reducible refine bt y1 ?_ | with_reducible refine bf y1 ?_ | with_reducible refine nt y1 ?_ | with_reducible refine nf y1 ?_ | with_reducible refine And.intro y1 ?_ | with_reducible refine bt neg ?_ | with_reducible refine bf neg ?_ | with_reducible refine nt neg ?_ | with_reducible refine nf neg ?_ | with_reducible refine And.intro neg ?_)
          first | refine bt (nI_le (show len ≤ j by omega) hj31) ?_ | refine bf (nI_le (show len ≤ j by omega) hj31) ?_ | refine nt (nI_le (show len ≤ j by omega) hj31) ?_ | refine nf (nI_le (show len ≤ j by omega) hj31) ?_
          exact kk _ _ hR1
        · repeat (first | with_reducible refine bt c1 ?_ | with_reducible refine bf c1 ?_ | with_reducible refine nt c1 ?_ | with_reducible refine nf c1 ?_ | with_reducible refine And.intro c1 ?_)
          have e1 : ((1 : Int32) ≤ nI len - nI j) = (j < len) := by
            have s1 := pk_sub_toInt (a := len) (b := j) (by omega) (by omega)
            rw [t_le, s1, u32_1]
            apply propext
            omega
          rw [e1]
          by_cases c2 : j < len
          · repeat (first | with_reducible refine bt c2 ?_ | with_reducible refine bf c2 ?_ | with_reducible refine nt c2 ?_ | with_reducible refine nf c2 ?_ | with_reducible refine And.intro c2 ?_)
            refine c_at (pm_s0 hd) (pm_s1' hd) h4 hlen c2 ?_
            refine m_Mo_element _ _ ?_
            rw [d4, h5]
            repeat (first | with_reducible refine bt d2 ?_ | with_reducible refine bf d2 ?_ | with_reducible refine nt d2 ?_ | with_reducible refine nf d2 ?_ | with_reducible refine And.intro d2 ?_ | with_reducible refine bt d3 ?_ | with_reducible refine bf d3 ?_ | with_reducible refine nt d3 ?_ | with_reducible refine nf d3 ?_ | with_reducible refine And.intro d3 ?_ | with_reducible refine bt dv ?_ | with_reducible refine bf dv ?_ | with_reducible refine nt dv ?_ | with_reducible refine nf dv ?_ | with_reducible refine And.intro dv ?_ | with_reducible refine bt y0 ?_ | with_reducible refine bf y0 ?_ | with_reducible refine nt y0 ?_ | with_reducible refine nf y0 ?_ | with_reducible refine And.intro y0 ?_ | with_reducible refine bt y1 ?_ | with_reducible refine bf y1 ?_ | with_reducible refine nt y1 ?_ | with_reducible refine nf y1 ?_ | with_reducible refine And.intro y1 ?_ | with_reducible refine bt neg ?_ | with_reducible refine bf neg ?_ | with_reducible refine nt neg ?_ | with_reducible refine nf neg ?_ | with_reducible refine And.intro neg ?_)
            first | refine bt (nI_ge (show j < len by omega) (by omega)) ?_ | refine bf (nI_ge (show j < len by omega) (by omega)) ?_ | refine nt (nI_ge (show j < len by omega) (by omega)) ?_ | refine nf (nI_ge (show j < len by omega) (by omega)) ?_
            have ei : (60 : Int32) * nI d + nI j = nI (60 * d + j) := by rw [show (60 : Int32) = nI 60 from rfl, pk_mul, nI_add]
            rw [ei, nIc (show 60 * d + j < 2 ^ 31 by omega), ← h6 j c2]
            exact ⟨vp_in_nI (by omega) (by decide), kk _ _ hR1⟩
          · repeat (first | with_reducible refine bt c2 ?_ | with_reducible refine bf c2 ?_ | with_reducible refine nt c2 ?_ | with_reducible refine nf c2 ?_ | with_reducible refine And.intro c2 ?_)
            refine m_Mo_element _ _ ?_
            rw [d4, h5]
            repeat (first | with_reducible refine bt d2 ?_ | with_reducible refine bf d2 ?_ | with_reducible refine nt d2 ?_ | with_reducible refine nf d2 ?_ | with_reducible refine And.intro d2 ?_ | with_reducible refine bt d3 ?_ | with_reducible refine bf d3 ?_ | with_reducible refine nt d3 ?_ | with_reducible refine nf d3 ?_ | with_reducible refine And.intro d3 ?_ | with_reducible refine bt dv ?_ | with_reducible refine bf dv ?_ | with_reducible refine nt dv ?_ | with_reducible refine nf dv ?_ | with_reducible refine And.intro dv ?_ | with_reducible refine bt y0 ?_ | with_reducible refine bf y0 ?_ | with_reducible refine nt y0 ?_ | with_reducible refine nf y0 ?_ | with_reducible refine And.intro y0 ?_ | with_reducible refine bt y1 ?_ | with_reducible refine bf y1 ?_ | with_reducible refine nt y1 ?_ | with_reducible refine nf y1 ?_ | with_reducible refine And.intro y1 ?_ | with_reducible refine bt neg ?_ | with_reducible refine bf neg ?_ | with_reducible refine nt neg ?_ | with_reducible refine nf neg ?_ | with_reducible refine And.intro neg ?_)
            first | refine bt (nI_le (show len ≤ j by omega) hj31) ?_ | refine bf (nI_le (show len ≤ j by omega) hj31) ?_ | refine nt (nI_le (show len ≤ j by omega) hj31) ?_ | refine nf (nI_le (show len ≤ j by omega) hj31) ?_
            exact kk _ _ hR1
  · have hm : pm_R (D + 200) M_Mo_element [.ref 55, .int a1, .int a2] H (pm_l fun y H2 => K (-9223372036854775808) y H2) := by
      refine m_Mo_element _ _ ?_
      ((try (simp only [lgl, lgg, i2l_t, u32_0, u64_0, u32_1, u64_1, u32_2, u64_2, u32_3, u64_3, u32_4, u64_4, u32_5, u64_5, u32_7, u64_7, u32_12, u64_12, u32_24, u64_24, u32_30, u64_30, u32_49, u64_49, u32_60, u64_60, u32_99, u64_99, u32_255, u64_255, u32_999, u64_999, en])); (try (simp only [t_lt, t_le, u32_0, u64_0, u32_1, u64_1, u32_2, u64_2, u32_3, u64_3, u32_4, u64_4, u32_5, u64_5, u32_7, u64_7, u32_12, u64_12, u32_24, u64_24, u32_30, u64_30, u32_49, u64_49, u32_60, u64_60, u32_99, u64_99, u32_255, u64_255, u32_999, u64_999, en])); repeat' (first | with_reducible intro hh | with_reducible apply And.intro | exact vp_in_iff.mpr (by omega) | (exfalso; omega) | exact kk _ _ hR1))
    refine m_PW_element _ _ ?_
    ((try (simp only [lgl, lgg, i2l_t, u32_0, u64_0, u32_1, u64_1, u32_2, u64_2, u32_3, u64_3, u32_4, u64_4, u32_5, u64_5, u32_7, u64_7, u32_12, u64_12, u32_24, u64_24, u32_30, u64_30, u32_49, u64_49, u32_60, u64_60, u32_99, u64_99, u32_255, u64_255, u32_999, u64_999, en])); (try (simp only [t_lt, t_le, u32_0, u64_0, u32_1, u64_1, u32_2, u64_2, u32_3, u64_3, u32_4, u64_4, u32_5, u64_5, u32_7, u64_7, u32_12, u64_12, u32_24, u64_24, u32_30, u64_30, u32_49, u64_49, u32_60, u64_60, u32_99, u64_99, u32_255, u64_255, u32_999, u64_999, en])); repeat' (first | with_reducible intro hh | with_reducible apply And.intro | exact vp_in_iff.mpr (by omega) | (exfalso; omega) | exact hm))
