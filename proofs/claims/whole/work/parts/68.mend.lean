/-! calls in pairs: values mended, changes taken back -/
theorem G_W : ∀ w, w ≤ 7 → pm_G w = nI (W_grt w) := by decide +kernel
theorem W_grt_le (w : Nat) : W_grt w ≤ 999 := by
  unfold W_grt
  split
  · exact Nat.le_refl _
  · split
    · decide
    · split
      · decide
      · split <;> decide
theorem grt31 {v w : Nat} (h : v ≤ W_grt w) : v < 2 ^ 31 := by have := W_grt_le w; omega
theorem old_of {hb : Nat → Nat} {L : Law} {n t nb w : Nat} {now : Nat → Row} {H : pmT} (hN : RNow hb L n t now H) (hw : w ≤ 7) (h1 : w ≤ 2 → nb < n) : ∃ old, old ≤ W_grt w ∧ H.1 (W_o w) (W_k nb w) = nI old ∧ H.1 56 (W_at nb w) = nI old := by
  by_cases z : w ≤ 2
  · obtain ⟨⟨q1, q2, q3, q4, q5⟩, ⟨r1, r2, r3, r4, r5⟩, v1, v2, v3, v4, v5⟩ := hN.2.2.2.2.2 nb (h1 z)
    unfold W_o W_k W_at
    rw [if_pos z, if_pos z, if_pos z]
    rcases (show w = 0 ∨ w = 1 ∨ w = 2 by omega) with y | y | y <;> subst y
    · exact ⟨_, v1, q1, by rw [show 12 * 0 + nb = nb by omega]; exact r1⟩
    · exact ⟨_, v2, q2, r2⟩
    · exact ⟨_, v3, q3, r3⟩
  · unfold W_o W_k W_at
    rw [if_neg z, if_neg z, if_neg z]
    refine ⟨hb (w - 3), ?_, habC hN.1 (by omega) hw, habM hN.2.1 (by omega) hw⟩
    obtain ⟨u0, u1, u2, u3, u4⟩ := hN.1.2.1
    rcases (show w = 3 ∨ w = 4 ∨ w = 5 ∨ w = 6 ∨ w = 7 by omega) with y | y | y | y | y <;> subst y
    · exact u0
    · exact u1
    · exact u2
    · exact u3
    · exact u4
theorem W_o_ne {w o : Nat} (h : o = 26 ∨ o = 27 ∨ o = 28 ∨ o = 29 ∨ o = 30 ∨ o = 55 ∨ o = 56 ∨ o = 57 ∨ o = 58 ∨ o = 59) : o ≠ W_o w ∨ 7 < w := by
  unfold W_o; split <;> omega
theorem W_o_has {nb w : Nat} (hw : w ≤ 7) : pm_has (300 :: 400 :: 500 :: 2000 :: 5600 :: ChgL) (pm_cd (W_o w) (W_k nb w)) = true := by
  rcases (show w = 0 ∨ w = 1 ∨ w = 2 ∨ w = 3 ∨ w = 4 ∨ w = 5 ∨ w = 6 ∨ w = 7 by omega) with y | y | y | y | y | y | y | y <;> subst y <;> rfl
theorem set_c {w nb v : Nat} {H : pmT} (o k : Nat) : pm_up H.1 (W_o w) (W_k nb w) (nI v) o k = if o = W_o w ∧ k = W_k nb w then nI v else H.1 o k := by
  by_cases z : o = W_o w
  · rw [z, pm_up_self]
    by_cases y : k = W_k nb w
    · rw [if_pos ⟨rfl, y⟩, y, pk_us]
    · rw [if_neg (fun q => y q.2), pk_un y]
  · rw [if_neg (fun q => z q.1), pm_up_ne _ _ _ z]
theorem mend_end {D t : Nat} {hb : Nat → Nat} {L : Law} {n m nb w v old : Nat} {now : Nat → Row} {H : pmT} {K : Int32 → Int32 → pmT → Prop} (hN : RNow hb L n t now H) (hT : RRest n t m H) (hD : RDay H) (hw : w ≤ 7) (h1 : w ≤ 2 → nb < n) (h2 : ¬ w ≤ 2 → nb = 0) (hv : v ≤ W_grt w) (hold : old ≤ W_grt w) (hoC : H.1 (W_o w) (W_k nb w) = nI old) (hoM : H.1 56 (W_at nb w) = nI old) (kk : ∀ x H', Rel (t + 1) H' → K x x H') :
    (nI old = nI v → pm_R (D + 200) M_Mo_mend [.ref 55, .int (nI nb), .int (nI w), .int (nI v)] H (pm_i fun y H2 => K (nI old) y H2)) ∧ (¬ nI old = nI v → pm_R (D + 199) M_Ch_add [.ref 26, .int (nI nb), .int (nI w), .int (nI old), .int (nI v)] (pm_up H.1 (W_o w) (W_k nb w) (nI v), H.2) (pm_v fun H1 => pm_R (D + 200) M_Mo_mend [.ref 55, .int (nI nb), .int (nI w), .int (nI v)] H1 (pm_i fun y H2 => K (nI old) y H2))) := by
  have hn12 := hN.2.2.2.2.1
  have hR1 : Rel (t + 1) H := ⟨hb, L, n, now, m, hN.mono (Nat.le_succ _), hT.mono (Nat.le_succ _), hD⟩
  have hg2 := W_grt_le w
  have hgi : ∀ x, x ≤ W_grt w → x < 2 ^ 31 := fun x hx => by omega
  have hp : W_at nb w < 41 := by
    unfold W_at
    by_cases z : w ≤ 2
    · have := h1 z; rw [if_pos z]; omega
    · rw [if_neg z]; omega
  obtain ⟨dn, td, g1, g2, g3, g4, g5, g6, g7⟩ := hT.2.2.1
  refine ⟨fun e => ?_, fun e => ?_⟩
  · refine c_mendM (d := D + 197) (nI v) hN.2.2.2.1 hn12 hw h1 h2 (fun z => absurd ?_ z) (fun v' ev hv' => ?_)
    · rw [nI_toInt (hgi v hv)]; omega
    · have := (nI_eq (a := v) (b := v') (hgi v hv) (hgi v' hv')).mp ev
      subst this
      exact c_becomes g5 (by omega) hp hoM (fun _ => kk _ _ hR1) (fun z => absurd e z)
  · have fa : fr (300 :: 400 :: 500 :: 2000 :: 5600 :: ChgL) H (pm_up H.1 (W_o w) (W_k nb w) (nI v), H.2) := fr.rf.up (W_o_has hw)
    have ne : ∀ o, (o = 26 ∨ o = 27 ∨ o = 28 ∨ o = 29 ∨ o = 30 ∨ o = 55 ∨ o = 56 ∨ o = 57 ∨ o = 58 ∨ o = 59) → pm_up H.1 (W_o w) (W_k nb w) (nI v) o = H.1 o := fun o ho => pm_up_ne _ _ _ (by rcases W_o_ne (w := w) ho with z | z; exact z; omega)
    have hs : ∀ o k, pm_up H.1 (W_o w) (W_k nb w) (nI v) o k = if o = W_o w ∧ k = W_k nb w then nI v else H.1 o k := set_c
    generalize hX : pm_up H.1 (W_o w) (W_k nb w) (nI v) = X at fa ne hs
    refine c_chAdd (d := D + 197) (H := (X, H.2)) (show X 26 4 = nI dn by rw [ne 26 (by decide)]; exact g3) (by omega) (fun H1 f1 k4 k5 kr kl => ?_)
    refine c_mendM (d := D + 197) (nI v) ((f1.1 55 6 rfl).trans (by show X 55 6 = _; rw [ne 55 (by decide)]; exact hN.2.2.2.1)) hn12 hw h1 h2 (fun z => absurd ?_ z) (fun v' ev hv' => ?_)
    · rw [nI_toInt (hgi v hv)]; omega
    · have := (nI_eq (a := v) (b := v') (hgi v hv) (hgi v' hv')).mp ev
      subst this
      have o1 : ∀ o, o = 55 ∨ o = 56 ∨ o = 57 ∨ o = 58 ∨ o = 59 → ∀ k, H1.1 o k = H.1 o k := fun o ho k => by
        rcases ho with z | z | z | z | z <;> subst z
        · exact (f1.1 55 k (by have : pm_cd 55 k = 5501 + k := by rfl
                               rw [this]
                               have : ∀ k, pm_has [2605, 2606, 2700, 2800, 2900, 3000] (5501 + k) = false := fun k => by
                                 show (Nat.beq 2605 (5501 + k) || _) = false
                                 have q : ∀ c, c < 5501 → Nat.beq c (5501 + k) = false := fun c hc => by
                                   cases y : Nat.beq c (5501 + k) with
                                   | false => rfl
                                   | true => have := Nat.eq_of_beq_eq_true y; omega
                                 rw [q 2605 (by decide)]
                                 show (Nat.beq 2606 (5501 + k) || (Nat.beq 2700 (5501 + k) || (Nat.beq 2800 (5501 + k) || (Nat.beq 2900 (5501 + k) || (Nat.beq 3000 (5501 + k) || false))))) = false
                                 rw [q 2606 (by decide), q 2700 (by decide), q 2800 (by decide), q 2900 (by decide), q 3000 (by decide)]; rfl
                               exact this k)).trans (by show X 55 k = _; rw [ne 55 (by decide)])
        · exact (f1.1 56 k rfl).trans (by show X 56 k = _; rw [ne 56 (by decide)])
        · exact (f1.1 57 k rfl).trans (by show X 57 k = _; rw [ne 57 (by decide)])
        · exact (f1.1 58 k rfl).trans (by show X 58 k = _; rw [ne 58 (by decide)])
        · exact (f1.1 59 k rfl).trans (by show X 59 k = _; rw [ne 59 (by decide)])
      refine c_becomes ((o1 55 (by decide) 5).trans g5) (by omega) hp ((o1 56 (by decide) _).trans hoM) (fun z => absurd z e) (fun _ H2 hb2 => ?_)
      obtain ⟨b1, b2, b3, b4, b5, b6⟩ := hb2
      have hsh : dn - shf dn + shf dn = dn ∧ dn - shf dn + 1 ≤ 40 := by unfold shf; split <;> omega
      refine kk _ _ (Rel_set (w := w) (nb := nb) (v := v) hN hT hD hw h1 hv ((fa.tr (f1.mono rfl)).tr (b1.mono rfl)) (fun o k ho => ?_) (fun k => ?_) ⟨dn - shf dn + 1, dn - shf dn + 1, Nat.le_refl _, hsh.2, (b1.1 26 4 rfl).trans k4, (b1.1 26 5 rfl).trans k5, b2, b3, fun j hj => ?_⟩)
      · have e2 : H2.1 o k = H1.1 o k := by rcases ho with z | z | z | z <;> subst z <;> exact b1.1 _ k rfl
        have e1 : H1.1 o k = X o k := by rcases ho with z | z | z | z <;> subst z <;> exact f1.1 _ k rfl
        rw [e2, e1]
        exact hs o k
      · rw [b6 k]
        by_cases z : k = W_at nb w
        · rw [if_pos z, if_pos z]
        · rw [if_neg z, if_neg z, o1 56 (by decide)]
      · have l27 : H2.1 27 j = H1.1 27 j := b1.1 27 j rfl
        have l28 : H2.1 28 j = H1.1 28 j := b1.1 28 j rfl
        have l29 : H2.1 29 j = H1.1 29 j := b1.1 29 j rfl
        have l30 : H2.1 30 j = H1.1 30 j := b1.1 30 j rfl
        by_cases z : j = dn - shf dn
        · subst z
          exact ⟨nb, w, old, v, hw, h1, h2, hold, hv, l27.trans kl.1, l28.trans kl.2.1, l29.trans kl.2.2.1, l30.trans kl.2.2.2, b5.1, b5.2.1, b5.2.2⟩
        · obtain ⟨u1, u2, u3, u4⟩ := kr j (by omega)
          obtain ⟨s1, s2, s3⟩ := b4 j (by omega)
          obtain ⟨nb', w', x, y, q1, q2, q3, q4, q5, q6, q7, q8, q9, q10, q11, q12⟩ := g7 (j + shf dn) (by omega)
          refine ⟨nb', w', x, y, q1, q2, q3, q4, q5, l27.trans (u1.trans ?_), l28.trans (u2.trans ?_), l29.trans (u3.trans ?_), l30.trans (u4.trans ?_), s1.trans ((o1 57 (by decide) _).trans q10), s2.trans ((o1 58 (by decide) _).trans q11), s3.trans ((o1 59 (by decide) _).trans q12)⟩
          · show X 27 _ = _
            rw [ne 27 (by decide)]; exact q6
          · show X 28 _ = _
            rw [ne 28 (by decide)]; exact q7
          · show X 29 _ = _
            rw [ne 29 (by decide)]; exact q8
          · show X 30 _ = _
            rw [ne 30 (by decide)]; exact q9
theorem p_mend {D t : Nat} {H : pmT} {K : Int32 → Int32 → pmT → Prop} (a1 a2 a3 : Int32) (hR : Rel t H) (ht : t ≤ 1000) (kk : ∀ x H', Rel (t + 1) H' → K x x H') : pm_R (D + 200) M_PW_mend [.ref 0, .int a1, .int a2, .int a3] H (pm_i fun x H1 => pm_R (D + 200) M_Mo_mend [.ref 55, .int a1, .int a2, .int a3] H1 (pm_i fun y H2 => K x y H2)) := by
  obtain ⟨hb, L, n, now, m, hN, hT, hD⟩ := id hR
  have hC := hN.cs ht
  have hM := hN.ms ht
  have hn12 := hC.2.2.1
  have hB := hT.2.2.2.1
  have hSh := hT.2.2.2.2.2.1
  have en : (nI n - (1 : Int32)).toInt = (n : Int) - 1 := nm1_t (by omega)
  have hR1 : Rel (t + 1) H := hR.mono (Nat.le_succ _)
  have z0 : (0 : Int32).toInt = 0 := rfl
  by_cases P : (0 ≤ a2.toInt ∧ a2.toInt ≤ 2 ∧ 0 ≤ a1.toInt ∧ a1.toInt < n) ∨ (a1.toInt = 0 ∧ 3 ≤ a2.toInt ∧ a2.toInt ≤ 7)
  · obtain ⟨nb, hnb31, rfl, e1⟩ := nI_tI a1 (by omega)
    obtain ⟨w, hw31, rfl, e2⟩ := nI_tI a2 (by omega)
    have hw : w ≤ 7 := by omega
    have h1 : w ≤ 2 → nb < n := by omega
    have h2 : ¬ w ≤ 2 → nb = 0 := by omega
    obtain ⟨old, hold, hoC, hoM⟩ := old_of hN hw h1
    have bad : ¬ (0 ≤ a3.toInt ∧ a3.toInt ≤ W_grt w) → pm_R (D + 200) M_Mo_mend [.ref 55, .int (nI nb), .int (nI w), .int a3] H (pm_i fun y H2 => K (-1) y H2) := fun hV =>
      c_mendM (d := D + 197) a3 hM.2.1 hn12 hw h1 h2 (fun _ => kk _ _ hR1) (fun v ev hv => absurd ⟨by rw [ev, nI_toInt (grt31 hv)]; omega, by rw [ev, nI_toInt (grt31 hv)]; omega⟩ hV)
    have good : ∀ (a3' : Int32), ¬ a3' < (0 : Int32) → a3' ≤ nI (W_grt w) → (H.1 (W_o w) (W_k nb w) = a3' → pm_R (D + 200) M_Mo_mend [.ref 55, .int (nI nb), .int (nI w), .int a3'] H (pm_i fun y H2 => K (H.1 (W_o w) (W_k nb w)) y H2)) ∧ (¬ H.1 (W_o w) (W_k nb w) = a3' → pm_R (D + 199) M_Ch_add [.ref 26, .int (nI nb), .int (nI w), .int (H.1 (W_o w) (W_k nb w)), .int a3'] (pm_up H.1 (W_o w) (W_k nb w) a3', H.2) (pm_v fun H1 => pm_R (D + 200) M_Mo_mend [.ref 55, .int (nI nb), .int (nI w), .int a3'] H1 (pm_i fun y H2 => K (H.1 (W_o w) (W_k nb w)) y H2))) := by
      intro a3' v0 v1
      have hg := W_grt_le w
      have p0 : 0 ≤ a3'.toInt := by rw [t_lt] at v0; omega
      obtain ⟨v, _, rfl, ev⟩ := nI_tI a3' p0
      have hv : v ≤ W_grt w := by rw [t_le, nI_toInt (n := W_grt w) (by omega)] at v1; omega
      rw [hoC]
      exact mend_end (D := D) hN hT hD hw h1 h2 hv hold hoC hoM kk
    refine m_PW_mend _ _ _ ?_
    rw [hC.2.1, nIc hw31, G_W w hw]
    rcases (show w = 0 ∨ w = 1 ∨ w = 2 ∨ 3 ≤ w by omega) with y | y | y | y
    · subst y
      have hnb := h1 (by omega)
      have b0 : ¬ nI nb < (0 : Int32) := nI_pos (by omega)
      have b1 : nI nb ≤ nI n - (1 : Int32) := le_pred hnb (by omega)
      have b5 : vp_in (nI nb) 12 := vp_in_nI (by omega) (by decide)
      have c0 : ¬ nI 0 < (0 : Int32) := by decide
      have c1 : nI 0 ≤ (8 : Int32) - (1 : Int32) := by decide
      have c2 : ¬ (3 : Int32) ≤ nI 0 := by decide
      have dv : vp_in (nI 0) 8 := vp_in_nI (by decide) (by decide)
      have z0 : nI 0 = (0 : Int32) := by decide
      repeat (first | with_reducible refine bt c0 ?_ | with_reducible refine bf c0 ?_ | with_reducible refine nt c0 ?_ | with_reducible refine nf c0 ?_ | with_reducible refine And.intro c0 ?_ | with_reducible refine bt c1 ?_ | with_reducible refine bf c1 ?_ | with_reducible refine nt c1 ?_ | with_reducible refine nf c1 ?_ | with_reducible refine And.intro c1 ?_ | with_reducible refine bt c2 ?_ | with_reducible refine bf c2 ?_ | with_reducible refine nt c2 ?_ | with_reducible refine nf c2 ?_ | with_reducible refine And.intro c2 ?_ | with_reducible refine bt b0 ?_ | with_reducible refine bf b0 ?_ | with_reducible refine nt b0 ?_ | with_reducible refine nf b0 ?_ | with_reducible refine And.intro b0 ?_ | with_reducible refine bt b1 ?_ | with_reducible refine bf b1 ?_ | with_reducible refine nt b1 ?_ | with_reducible refine nf b1 ?_ | with_reducible refine And.intro b1 ?_ | with_reducible refine bt dv ?_ | with_reducible refine bf dv ?_ | with_reducible refine nt dv ?_ | with_reducible refine nf dv ?_ | with_reducible refine And.intro dv ?_)
      by_cases v0 : a3 < (0 : Int32)
      · repeat (first | with_reducible refine bt v0 ?_ | with_reducible refine bf v0 ?_ | with_reducible refine nt v0 ?_ | with_reducible refine nf v0 ?_ | with_reducible refine And.intro v0 ?_)
        exact bad (fun z => by rw [t_lt] at v0; have : (0 : Int32).toInt = 0 := rfl; omega)
      · repeat (first | with_reducible refine bt v0 ?_ | with_reducible refine bf v0 ?_ | with_reducible refine nt v0 ?_ | with_reducible refine nf v0 ?_ | with_reducible refine And.intro v0 ?_)
        by_cases v1 : a3 ≤ nI (W_grt 0)
        · repeat (first | with_reducible refine bt v1 ?_ | with_reducible refine bf v1 ?_ | with_reducible refine nt v1 ?_ | with_reducible refine nf v1 ?_ | with_reducible refine And.intro v1 ?_ | with_reducible refine bt z0 ?_ | with_reducible refine bf z0 ?_ | with_reducible refine nt z0 ?_ | with_reducible refine nf z0 ?_ | with_reducible refine And.intro z0 ?_ | with_reducible refine bt b5 ?_ | with_reducible refine bf b5 ?_ | with_reducible refine nt b5 ?_ | with_reducible refine nf b5 ?_ | with_reducible refine And.intro b5 ?_)
          rw [nIc (show nb < 2 ^ 31 by omega)]
          exact good _ v0 v1
        · repeat (first | with_reducible refine bt v1 ?_ | with_reducible refine bf v1 ?_ | with_reducible refine nt v1 ?_ | with_reducible refine nf v1 ?_ | with_reducible refine And.intro v1 ?_)
          exact bad (fun z => v1 (by rw [t_le, nI_toInt (by decide)]; exact z.2))
    · subst y
      have hnb := h1 (by omega)
      have b0 : ¬ nI nb < (0 : Int32) := nI_pos (by omega)
      have b1 : nI nb ≤ nI n - (1 : Int32) := le_pred hnb (by omega)
      have b5 : vp_in (nI nb) 12 := vp_in_nI (by omega) (by decide)
      have c0 : ¬ nI 1 < (0 : Int32) := by decide
      have c1 : nI 1 ≤ (8 : Int32) - (1 : Int32) := by decide
      have c2 : ¬ (3 : Int32) ≤ nI 1 := by decide
      have dv : vp_in (nI 1) 8 := vp_in_nI (by decide) (by decide)
      have z0 : ¬ nI 1 = (0 : Int32) := by decide
      have z1 : nI 1 = (1 : Int32) := by decide
      repeat (first | with_reducible refine bt c0 ?_ | with_reducible refine bf c0 ?_ | with_reducible refine nt c0 ?_ | with_reducible refine nf c0 ?_ | with_reducible refine And.intro c0 ?_ | with_reducible refine bt c1 ?_ | with_reducible refine bf c1 ?_ | with_reducible refine nt c1 ?_ | with_reducible refine nf c1 ?_ | with_reducible refine And.intro c1 ?_ | with_reducible refine bt c2 ?_ | with_reducible refine bf c2 ?_ | with_reducible refine nt c2 ?_ | with_reducible refine nf c2 ?_ | with_reducible refine And.intro c2 ?_ | with_reducible refine bt b0 ?_ | with_reducible refine bf b0 ?_ | with_reducible refine nt b0 ?_ | with_reducible refine nf b0 ?_ | with_reducible refine And.intro b0 ?_ | with_reducible refine bt b1 ?_ | with_reducible refine bf b1 ?_ | with_reducible refine nt b1 ?_ | with_reducible refine nf b1 ?_ | with_reducible refine And.intro b1 ?_ | with_reducible refine bt dv ?_ | with_reducible refine bf dv ?_ | with_reducible refine nt dv ?_ | with_reducible refine nf dv ?_ | with_reducible refine And.intro dv ?_)
      by_cases v0 : a3 < (0 : Int32)
      · repeat (first | with_reducible refine bt v0 ?_ | with_reducible refine bf v0 ?_ | with_reducible refine nt v0 ?_ | with_reducible refine nf v0 ?_ | with_reducible refine And.intro v0 ?_)
        exact bad (fun z => by rw [t_lt] at v0; have : (0 : Int32).toInt = 0 := rfl; omega)
      · repeat (first | with_reducible refine bt v0 ?_ | with_reducible refine bf v0 ?_ | with_reducible refine nt v0 ?_ | with_reducible refine nf v0 ?_ | with_reducible refine And.intro v0 ?_)
        by_cases v1 : a3 ≤ nI (W_grt 1)
        · repeat (first | with_reducible refine bt v1 ?_ | with_reducible refine bf v1 ?_ | with_reducible refine nt v1 ?_ | with_reducible refine nf v1 ?_ | with_reducible refine And.intro v1 ?_ | with_reducible refine bt z0 ?_ | with_reducible refine bf z0 ?_ | with_reducible refine nt z0 ?_ | with_reducible refine nf z0 ?_ | with_reducible refine And.intro z0 ?_ | with_reducible refine bt z1 ?_ | with_reducible refine bf z1 ?_ | with_reducible refine nt z1 ?_ | with_reducible refine nf z1 ?_ | with_reducible refine And.intro z1 ?_ | with_reducible refine bt b5 ?_ | with_reducible refine bf b5 ?_ | with_reducible refine nt b5 ?_ | with_reducible refine nf b5 ?_ | with_reducible refine And.intro b5 ?_)
          rw [nIc (show nb < 2 ^ 31 by omega)]
          exact good _ v0 v1
        · repeat (first | with_reducible refine bt v1 ?_ | with_reducible refine bf v1 ?_ | with_reducible refine nt v1 ?_ | with_reducible refine nf v1 ?_ | with_reducible refine And.intro v1 ?_)
          exact bad (fun z => v1 (by rw [t_le, nI_toInt (by decide)]; exact z.2))
    · subst y
      have hnb := h1 (by omega)
      have b0 : ¬ nI nb < (0 : Int32) := nI_pos (by omega)
      have b1 : nI nb ≤ nI n - (1 : Int32) := le_pred hnb (by omega)
      have b5 : vp_in (nI nb) 12 := vp_in_nI (by omega) (by decide)
      have c0 : ¬ nI 2 < (0 : Int32) := by decide
      have c1 : nI 2 ≤ (8 : Int32) - (1 : Int32) := by decide
      have c2 : ¬ (3 : Int32) ≤ nI 2 := by decide
      have dv : vp_in (nI 2) 8 := vp_in_nI (by decide) (by decide)
      have z0 : ¬ nI 2 = (0 : Int32) := by decide
      have z1 : ¬ nI 2 = (1 : Int32) := by decide
      have z2 : nI 2 = (2 : Int32) := by decide
      repeat (first | with_reducible refine bt c0 ?_ | with_reducible refine bf c0 ?_ | with_reducible refine nt c0 ?_ | with_reducible refine nf c0 ?_ | with_reducible refine And.intro c0 ?_ | with_reducible refine bt c1 ?_ | with_reducible refine bf c1 ?_ | with_reducible refine nt c1 ?_ | with_reducible refine nf c1 ?_ | with_reducible refine And.intro c1 ?_ | with_reducible refine bt c2 ?_ | with_reducible refine bf c2 ?_ | with_reducible refine nt c2 ?_ | with_reducible refine nf c2 ?_ | with_reducible refine And.intro c2 ?_ | with_reducible refine bt b0 ?_ | with_reducible refine bf b0 ?_ | with_reducible refine nt b0 ?_ | with_reducible refine nf b0 ?_ | with_reducible refine And.intro b0 ?_ | with_reducible refine bt b1 ?_ | with_reducible refine bf b1 ?_ | with_reducible refine nt b1 ?_ | with_reducible refine nf b1 ?_ | with_reducible refine And.intro b1 ?_ | with_reducible refine bt dv ?_ | with_reducible refine bf dv ?_ | with_reducible refine nt dv ?_ | with_reducible refine nf dv ?_ | with_reducible refine And.intro dv ?_)
      by_cases v0 : a3 < (0 : Int32)
      · repeat (first | with_reducible refine bt v0 ?_ | with_reducible refine bf v0 ?_ | with_reducible refine nt v0 ?_ | with_reducible refine nf v0 ?_ | with_reducible refine And.intro v0 ?_)
        exact bad (fun z => by rw [t_lt] at v0; have : (0 : Int32).toInt = 0 := rfl; omega)
      · repeat (first | with_reducible refine bt v0 ?_ | with_reducible refine bf v0 ?_ | with_reducible refine nt v0 ?_ | with_reducible refine nf v0 ?_ | with_reducible refine And.intro v0 ?_)
        by_cases v1 : a3 ≤ nI (W_grt 2)
        · repeat (first | with_reducible refine bt v1 ?_ | with_reducible refine bf v1 ?_ | with_reducible refine nt v1 ?_ | with_reducible refine nf v1 ?_ | with_reducible refine And.intro v1 ?_ | with_reducible refine bt z0 ?_ | with_reducible refine bf z0 ?_ | with_reducible refine nt z0 ?_ | with_reducible refine nf z0 ?_ | with_reducible refine And.intro z0 ?_ | with_reducible refine bt z1 ?_ | with_reducible refine bf z1 ?_ | with_reducible refine nt z1 ?_ | with_reducible refine nf z1 ?_ | with_reducible refine And.intro z1 ?_ | with_reducible refine bt z2 ?_ | with_reducible refine bf z2 ?_ | with_reducible refine nt z2 ?_ | with_reducible refine nf z2 ?_ | with_reducible refine And.intro z2 ?_ | with_reducible refine bt b5 ?_ | with_reducible refine bf b5 ?_ | with_reducible refine nt b5 ?_ | with_reducible refine nf b5 ?_ | with_reducible refine And.intro b5 ?_)
          rw [nIc (show nb < 2 ^ 31 by omega)]
          exact good _ v0 v1
        · repeat (first | with_reducible refine bt v1 ?_ | with_reducible refine bf v1 ?_ | with_reducible refine nt v1 ?_ | with_reducible refine nf v1 ?_ | with_reducible refine And.intro v1 ?_)
          exact bad (fun z => v1 (by rw [t_le, nI_toInt (by decide)]; exact z.2))
    · have hz := h2 (by omega)
      subst hz
      have c0 : ¬ nI w < (0 : Int32) := nI_pos hw31
      have c1 : nI w ≤ (8 : Int32) - (1 : Int32) := by rw [show (8 : Int32) - (1 : Int32) = 7 from rfl]; exact nI_le (show w ≤ 7 by omega) (by decide)
      have c2 : (3 : Int32) ≤ nI w := nI_le (show 3 ≤ w by omega) hw31
      have c3 : nI 0 = 0 := rfl
      have dv : vp_in (nI w) 8 := vp_in_nI (by omega) (by decide)
      have y0 : ¬ nI w = (0 : Int32) := fun z => by have := (nI_eq (a := w) (b := 0) hw31 (by decide)).mp z; omega
      have y1 : ¬ nI w = (1 : Int32) := fun z => by have := (nI_eq (a := w) (b := 1) hw31 (by decide)).mp z; omega
      have y2 : ¬ nI w = (2 : Int32) := fun z => by have := (nI_eq (a := w) (b := 2) hw31 (by decide)).mp z; omega
      have es : nI w - (3 : Int32) = nI (w - 3) := pk_sub (a := w) (b := 3) (by omega)
      have ek : W_k 0 w = w - 3 := if_neg (by omega)
      have eo : W_o w = 20 := if_neg (by omega)
      rw [ek, eo] at good
      repeat (first | with_reducible refine bt c0 ?_ | with_reducible refine bf c0 ?_ | with_reducible refine nt c0 ?_ | with_reducible refine nf c0 ?_ | with_reducible refine And.intro c0 ?_ | with_reducible refine bt c1 ?_ | with_reducible refine bf c1 ?_ | with_reducible refine nt c1 ?_ | with_reducible refine nf c1 ?_ | with_reducible refine And.intro c1 ?_ | with_reducible refine bt c2 ?_ | with_reducible refine bf c2 ?_ | with_reducible refine nt c2 ?_ | with_reducible refine nf c2 ?_ | with_reducible refine And.intro c2 ?_ | with_reducible refine bt c3 ?_ | with_reducible refine bf c3 ?_ | with_reducible refine nt c3 ?_ | with_reducible refine nf c3 ?_ | with_reducible refine And.intro c3 ?_ | with_reducible refine bt dv ?_ | with_reducible refine bf dv ?_ | with_reducible refine nt dv ?_ | with_reducible refine nf dv ?_ | with_reducible refine And.intro dv ?_)
      by_cases v0 : a3 < (0 : Int32)
      · repeat (first | with_reducible refine bt v0 ?_ | with_reducible refine bf v0 ?_ | with_reducible refine nt v0 ?_ | with_reducible refine nf v0 ?_ | with_reducible refine And.intro v0 ?_)
        exact bad (fun z => by rw [t_lt] at v0; omega)
      · repeat (first | with_reducible refine bt v0 ?_ | with_reducible refine bf v0 ?_ | with_reducible refine nt v0 ?_ | with_reducible refine nf v0 ?_ | with_reducible refine And.intro v0 ?_)
        by_cases v1 : a3 ≤ nI (W_grt w)
        · repeat (first | with_reducible refine bt v1 ?_ | with_reducible refine bf v1 ?_ | with_reducible refine nt v1 ?_ | with_reducible refine nf v1 ?_ | with_reducible refine And.intro v1 ?_ | with_reducible refine bt y0 ?_ | with_reducible refine bf y0 ?_ | with_reducible refine nt y0 ?_ | with_reducible refine nf y0 ?_ | with_reducible refine And.intro y0 ?_ | with_reducible refine bt y1 ?_ | with_reducible refine bf y1 ?_ | with_reducible refine nt y1 ?_ | with_reducible refine nf y1 ?_ | with_reducible refine And.intro y1 ?_ | with_reducible refine bt y2 ?_ | with_reducible refine bf y2 ?_ | with_reducible refine nt y2 ?_ | with_reducible refine nf y2 ?_ | with_reducible refine And.intro y2 ?_)
          rw [es, nIc (show w - 3 < 2 ^ 31 by omega)]
          exact ⟨vp_in_nI (by omega) (by decide), good _ v0 v1⟩
        · repeat (first | with_reducible refine bt v1 ?_ | with_reducible refine bf v1 ?_ | with_reducible refine nt v1 ?_ | with_reducible refine nf v1 ?_ | with_reducible refine And.intro v1 ?_)
          exact bad (fun z => v1 (by rw [t_le, nI_toInt (n := W_grt w) (grt31 (Nat.le_refl _))]; exact z.2))
  · have hm : pm_R (D + 200) M_Mo_mend [.ref 55, .int a1, .int a2, .int a3] H (pm_i fun y H2 => K (-1) y H2) := by
      refine m_Mo_mend _ _ _ ?_
      refine c_place (d := D + 197) hM.2.1 hn12 a1 a2 (fun nb w e1 e2 g1 g2 => ?_) (fun w e1 e2 g1 g2 => ?_) (fun _ => ?_)
      · exfalso
        apply P
        have i1 := nI_toInt (n := w) (by omega)
        have i2 := nI_toInt (n := nb) (by omega)
        rw [← e1] at i2
        rw [← e2] at i1
        left; omega
      · exfalso
        apply P
        have i1 := nI_toInt (n := w) (by omega)
        rw [← e2] at i1
        rw [← e1] at z0
        right; omega
      · first | refine bt (show (-1 : Int32) < 0 by decide) ?_ | refine bf (show (-1 : Int32) < 0 by decide) ?_ | refine nt (show (-1 : Int32) < 0 by decide) ?_ | refine nf (show (-1 : Int32) < 0 by decide) ?_
        exact kk _ _ hR1
    have e7 : ((8 : Int32) - (1 : Int32)).toInt = 7 := rfl
    refine m_PW_mend _ _ _ ?_
    rw [hC.2.1]
    by_cases q0 : a2 < (0 : Int32)
    · first | refine bt q0 ?_ | refine bf q0 ?_ | refine nt q0 ?_ | refine nf q0 ?_
      exact hm
    · first | refine bt q0 ?_ | refine bf q0 ?_ | refine nt q0 ?_ | refine nf q0 ?_
      by_cases q1 : a2 ≤ (8 : Int32) - (1 : Int32)
      · first | refine bt q1 ?_ | refine bf q1 ?_ | refine nt q1 ?_ | refine nf q1 ?_
        rw [t_lt] at q0
        rw [t_le, e7] at q1
        by_cases q2 : (3 : Int32) ≤ a2
        · first | refine bt q2 ?_ | refine bf q2 ?_ | refine nt q2 ?_ | refine nf q2 ?_
          rw [t_le, u32_3] at q2
          by_cases q3 : a1 = 0
          · subst q3
            exfalso; apply P; right; omega
          · first | refine bt q3 ?_ | refine bf q3 ?_ | refine nt q3 ?_ | refine nf q3 ?_
            exact hm
        · first | refine bt q2 ?_ | refine bf q2 ?_ | refine nt q2 ?_ | refine nf q2 ?_
          rw [t_le, u32_3] at q2
          by_cases q3 : a1 < (0 : Int32)
          · first | refine bt q3 ?_ | refine bf q3 ?_ | refine nt q3 ?_ | refine nf q3 ?_
            exact hm
          · first | refine bt q3 ?_ | refine bf q3 ?_ | refine nt q3 ?_ | refine nf q3 ?_
            by_cases q4 : a1 ≤ nI n - (1 : Int32)
            · rw [t_lt] at q3
              rw [t_le, en] at q4
              exfalso; apply P; left; omega
            · first | refine bt q4 ?_ | refine bf q4 ?_ | refine nt q4 ?_ | refine nf q4 ?_
              exact hm
      · first | refine bt q1 ?_ | refine bf q1 ?_ | refine nt q1 ?_ | refine nf q1 ?_
        exact hm
