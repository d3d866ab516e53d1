/-! calls in pairs: undo and redo -/
theorem un_end {t : Nat} {hb : Nat → Nat} {L : Law} {n m nb w v dn : Nat} {now : Nat → Row} {H H2 : pmT} (hN : RNow hb L n t now H) (hT : RRest n t m H) (hD : RDay H) (hw : w ≤ 7) (h1 : w ≤ 2 → nb < n) (hv : v ≤ W_grt w) (f : fr [5506, 5600] (pm_up (pm_up H.1 26 4 (nI dn)) (W_o w) (W_k nb w) (nI v), H.2) H2) (e5 : H2.1 55 5 = nI dn) (hm : ∀ k, H2.1 56 k = if k = W_at nb w then nI v else (pm_up (pm_up H.1 26 4 (nI dn)) (W_o w) (W_k nb w) (nI v)) 56 k) (hdn : ∀ td, H.1 26 5 = nI td → td ≤ 40 → dn ≤ td) : Rel (t + 1) H2 := by
  have fa : fr (300 :: 400 :: 500 :: 2000 :: 5600 :: ChgL) H (pm_up (pm_up H.1 26 4 (nI dn)) (W_o w) (W_k nb w) (nI v), H.2) := (fr.rf.up (o := 26) (k := 4) rfl).up (W_o_has hw)
  have ne : ∀ o, (o = 26 ∨ o = 27 ∨ o = 28 ∨ o = 29 ∨ o = 30 ∨ o = 55 ∨ o = 56 ∨ o = 57 ∨ o = 58 ∨ o = 59) → pm_up (pm_up H.1 26 4 (nI dn)) (W_o w) (W_k nb w) (nI v) o = pm_up H.1 26 4 (nI dn) o := fun o ho => pm_up_ne _ _ _ (by rcases W_o_ne (w := w) ho with z | z; exact z; omega)
  have n6 : ∀ o, o ≠ 26 → pm_up H.1 26 4 (nI dn) o = H.1 o := fun o ho => pm_up_ne _ _ _ ho
  have hs : ∀ o k, pm_up (pm_up H.1 26 4 (nI dn)) (W_o w) (W_k nb w) (nI v) o k = if o = W_o w ∧ k = W_k nb w then nI v else pm_up H.1 26 4 (nI dn) o k := fun o k => set_c (H := (pm_up H.1 26 4 (nI dn), H.2)) o k
  generalize hX : pm_up (pm_up H.1 26 4 (nI dn)) (W_o w) (W_k nb w) (nI v) = X at f hm fa ne hs
  obtain ⟨d0, td, g1, g2, g3, g4, g5, g6, g7⟩ := hT.2.2.1
  refine Rel_set (w := w) (nb := nb) (v := v) hN hT hD hw h1 hv (fa.tr (f.mono rfl)) (fun o k ho => ?_) (fun k => ?_) ⟨dn, td, hdn td g4 g2, g2, ?_, ?_, e5, ?_, fun j hj => ?_⟩
  · have e2 : H2.1 o k = X o k := by rcases ho with z | z | z | z <;> subst z <;> exact f.1 _ k rfl
    rw [e2, hs o k, n6 o (by omega)]
  · rw [hm k, ne 56 (by decide), n6 56 (by decide)]
  · refine (f.1 26 4 rfl).trans ?_
    show X 26 4 = _
    rw [ne 26 (by decide), pm_up_self, pk_us]
  · refine (f.1 26 5 rfl).trans ?_
    show X 26 5 = _
    rw [ne 26 (by decide), pm_up_self, pk_un (by decide)]
    exact g4
  · refine (f.1 55 4 rfl).trans ?_
    show X 55 4 = _
    rw [ne 55 (by decide), n6 55 (by decide)]
    exact g6
  · obtain ⟨nb', w', x, y, q1, q2, q3, q4, q5, q6, q7, q8, q9, q10, q11, q12⟩ := g7 j hj
    refine ⟨nb', w', x, y, q1, q2, q3, q4, q5, (f.1 27 j rfl).trans ?_, (f.1 28 j rfl).trans ?_, (f.1 29 j rfl).trans ?_, (f.1 30 j rfl).trans ?_, (f.1 57 j rfl).trans ?_, (f.1 58 j rfl).trans ?_, (f.1 59 j rfl).trans ?_⟩
    · show X 27 j = _
      rw [ne 27 (by decide), n6 27 (by decide)]; exact q6
    · show X 28 j = _
      rw [ne 28 (by decide), n6 28 (by decide)]; exact q7
    · show X 29 j = _
      rw [ne 29 (by decide), n6 29 (by decide)]; exact q8
    · show X 30 j = _
      rw [ne 30 (by decide), n6 30 (by decide)]; exact q9
    · show X 57 j = _
      rw [ne 57 (by decide), n6 57 (by decide)]; exact q10
    · show X 58 j = _
      rw [ne 58 (by decide), n6 58 (by decide)]; exact q11
    · show X 59 j = _
      rw [ne 59 (by decide), n6 59 (by decide)]; exact q12
theorem at41 {n nb w : Nat} (hn12 : n ≤ 12) (hw : w ≤ 7) (h1 : w ≤ 2 → nb < n) : W_at nb w < 41 := by
  unfold W_at
  by_cases z : w ≤ 2
  · have := h1 z; rw [if_pos z]; omega
  · rw [if_neg z]; omega
theorem p_undo {D t : Nat} {H : pmT} {K : Int32 → Int32 → pmT → Prop} (hR : Rel t H) (ht : t ≤ 1000) (kk : ∀ x H', Rel (t + 1) H' → K x x H') : pm_R (D + 200) M_PW_undo [.ref 0] H (pm_i fun x H1 => pm_R (D + 200) M_Mo_undo [.ref 55] H1 (pm_i fun y H2 => K x y H2)) := by
  obtain ⟨hb, L, n, now, m, hN, hT, hD⟩ := id hR
  have hC := hN.cs ht
  have hM := hN.ms ht
  have hn12 := hC.2.2.1
  have hB := hT.2.2.2.1
  have hSh := hT.2.2.2.2.2.1
  have en : (nI n - (1 : Int32)).toInt = (n : Int) - 1 := nm1_t (by omega)
  have hR1 : Rel (t + 1) H := hR.mono (Nat.le_succ _)
  obtain ⟨dn, td, g1, g2, g3, g4, g5, g6, g7⟩ := id hT.2.2.1
  by_cases c : dn = 0
  · subst c
    refine m_PW_undo ?_
    rw [g3]
    first | refine bt (show ¬ 0 < nI 0 by decide) ?_ | refine bf (show ¬ 0 < nI 0 by decide) ?_ | refine nt (show ¬ 0 < nI 0 by decide) ?_ | refine nf (show ¬ 0 < nI 0 by decide) ?_
    refine m_Mo_undo ?_
    rw [g5]
    first | refine bt (show nI 0 = 0 from rfl) ?_ | refine bf (show nI 0 = 0 from rfl) ?_ | refine nt (show nI 0 = 0 from rfl) ?_ | refine nf (show nI 0 = 0 from rfl) ?_
    exact kk _ _ hR1
  · obtain ⟨nb, w, x, y, q1, q2, q3, q4, q5, q6, q7, q8, q9, q10, q11, q12⟩ := g7 (dn - 1) (by omega)
    have hp := at41 hn12 q1 q2
    refine m_PW_undo ?_
    rw [g3, i_s1 (t := dn) (by omega), nIc (show dn - 1 < 2 ^ 31 by omega), q6, q7, q8]
    first | refine bt (show 0 < nI dn from nI_lt (a := 0) (b := dn) (by omega) (by omega)) ?_ | refine bf (show 0 < nI dn from nI_lt (a := 0) (b := dn) (by omega) (by omega)) ?_ | refine nt (show 0 < nI dn from nI_lt (a := 0) (b := dn) (by omega) (by omega)) ?_ | refine nf (show 0 < nI dn from nI_lt (a := 0) (b := dn) (by omega) (by omega)) ?_
    first | refine bt (show 0 ≤ nI (dn - 1) from nI_pos' (by omega)) ?_ | refine bf (show 0 ≤ nI (dn - 1) from nI_pos' (by omega)) ?_ | refine nt (show 0 ≤ nI (dn - 1) from nI_pos' (by omega)) ?_ | refine nf (show 0 ≤ nI (dn - 1) from nI_pos' (by omega)) ?_
    have v40 : vp_in (nI (dn - 1)) 40 := vp_in_nI (by omega) (by decide)
    have fin : pm_R (D + 200) M_Mo_undo [.ref 55] (pm_up (pm_up H.1 26 4 (nI (dn - 1))) (W_o w) (W_k nb w) (nI x), H.2) (pm_i fun y H2 => K (nI (dn - 1)) y H2) := by
      have f0 : ∀ o k, (o = 55 ∨ o = 57 ∨ o = 58) → (pm_up (pm_up H.1 26 4 (nI (dn - 1))) (W_o w) (W_k nb w) (nI x)) o k = H.1 o k := fun o k ho => by
        rw [pm_up_ne _ _ _ (by rcases W_o_ne (w := w) (o := o) (by omega) with z | z; exact z; omega), pm_up_ne _ _ _ (by omega)]
      generalize hH1 : ((pm_up (pm_up H.1 26 4 (nI (dn - 1))) (W_o w) (W_k nb w) (nI x), H.2) : pmT) = H1
      have f1 : ∀ o k, (o = 55 ∨ o = 57 ∨ o = 58) → H1.1 o k = H.1 o k := fun o k ho => by rw [← hH1]; exact f0 o k ho
      refine m_Mo_undo ?_
      rw [f1 55 5 (by decide), g5, i_s1 (t := dn) (by omega), nIc (show dn - 1 < 2 ^ 31 by omega), f1 57 _ (by decide), f1 58 _ (by decide), q10, q11, nIc (show W_at nb w < 2 ^ 31 by omega)]
      first | refine bt (show ¬ nI dn = 0 from fun z => by have := (nI_eq (a := dn) (b := 0) (by omega) (by decide)).mp z; omega) ?_ | refine bf (show ¬ nI dn = 0 from fun z => by have := (nI_eq (a := dn) (b := 0) (by omega) (by decide)).mp z; omega) ?_ | refine nt (show ¬ nI dn = 0 from fun z => by have := (nI_eq (a := dn) (b := 0) (by omega) (by decide)).mp z; omega) ?_ | refine nf (show ¬ nI dn = 0 from fun z => by have := (nI_eq (a := dn) (b := 0) (by omega) (by decide)).mp z; omega) ?_
      refine ⟨vp_in_nI (by omega) (by decide), vp_in_nI hp (by decide), ?_⟩
      have f2 : fr [5506, 5600] H1 (pm_up (pm_up H1.1 55 5 (nI (dn - 1))) 56 (W_at nb w) (nI x), H1.2) := (fr.rf.up (o := 55) rfl).up (o := 56) rfl
      have x5 : (pm_up (pm_up H1.1 55 5 (nI (dn - 1))) 56 (W_at nb w) (nI x)) 55 5 = nI (dn - 1) := by rw [pm_up_ne _ _ _ (by decide), pm_up_self, pk_us]
      have x56 : ∀ k, (pm_up (pm_up H1.1 55 5 (nI (dn - 1))) 56 (W_at nb w) (nI x)) 56 k = if k = W_at nb w then nI x else H1.1 56 k := fun k => by
        rw [pm_up_self, pm_up_ne _ _ _ (by decide)]
        by_cases z : k = W_at nb w
        · rw [if_pos z, z, pk_us]
        · rw [if_neg z, pk_un z]
      rw [← hH1] at f2 x56 ⊢
      exact kk _ _ (un_end hN hT hD q1 q2 q4 f2 (by rw [← hH1] at x5; exact x5) x56 (fun td' h _ => by
        rw [g4] at h
        have := (nI_eq (a := td) (b := td') (by omega) (by omega)).mp h
        omega))
    refine ⟨v40, ?_⟩
    rcases (show w = 0 ∨ w = 1 ∨ w = 2 ∨ 3 ≤ w by omega) with y0 | y0 | y0 | y0
    · subst y0
      have b5 : vp_in (nI nb) 12 := vp_in_nI (by have := q2 (by omega); omega) (by decide)
      have z0 : nI 0 = (0 : Int32) := by decide
      repeat (first | with_reducible refine bt z0 ?_ | with_reducible refine bf z0 ?_ | with_reducible refine nt z0 ?_ | with_reducible refine nf z0 ?_ | with_reducible refine And.intro z0 ?_ | with_reducible refine bt b5 ?_ | with_reducible refine bf b5 ?_ | with_reducible refine nt b5 ?_ | with_reducible refine nf b5 ?_ | with_reducible refine And.intro b5 ?_)
      rw [nIc (show nb < 2 ^ 31 by have := q2 (by omega); omega)]
      exact fin
    · subst y0
      have b5 : vp_in (nI nb) 12 := vp_in_nI (by have := q2 (by omega); omega) (by decide)
      have z0 : ¬ nI 1 = (0 : Int32) := by decide
      have z1 : nI 1 = (1 : Int32) := by decide
      repeat (first | with_reducible refine bt z0 ?_ | with_reducible refine bf z0 ?_ | with_reducible refine nt z0 ?_ | with_reducible refine nf z0 ?_ | with_reducible refine And.intro z0 ?_ | with_reducible refine bt z1 ?_ | with_reducible refine bf z1 ?_ | with_reducible refine nt z1 ?_ | with_reducible refine nf z1 ?_ | with_reducible refine And.intro z1 ?_ | with_reducible refine bt b5 ?_ | with_reducible refine bf b5 ?_ | with_reducible refine nt b5 ?_ | with_reducible refine nf b5 ?_ | with_reducible refine And.intro b5 ?_)
      rw [nIc (show nb < 2 ^ 31 by have := q2 (by omega); omega)]
      exact fin
    · subst y0
      have b5 : vp_in (nI nb) 12 := vp_in_nI (by have := q2 (by omega); omega) (by decide)
      have z0 : ¬ nI 2 = (0 : Int32) := by decide
      have z1 : ¬ nI 2 = (1 : Int32) := by decide
      have z2 : nI 2 = (2 : Int32) := by decide
      repeat (first | with_reducible refine bt z0 ?_ | with_reducible refine bf z0 ?_ | with_reducible refine nt z0 ?_ | with_reducible refine nf z0 ?_ | with_reducible refine And.intro z0 ?_ | with_reducible refine bt z1 ?_ | with_reducible refine bf z1 ?_ | with_reducible refine nt z1 ?_ | with_reducible refine nf z1 ?_ | with_reducible refine And.intro z1 ?_ | with_reducible refine bt z2 ?_ | with_reducible refine bf z2 ?_ | with_reducible refine nt z2 ?_ | with_reducible refine nf z2 ?_ | with_reducible refine And.intro z2 ?_ | with_reducible refine bt b5 ?_ | with_reducible refine bf b5 ?_ | with_reducible refine nt b5 ?_ | with_reducible refine nf b5 ?_ | with_reducible refine And.intro b5 ?_)
      rw [nIc (show nb < 2 ^ 31 by have := q2 (by omega); omega)]
      exact fin
    · have z0 : ¬ nI w = (0 : Int32) := fun z => by have := (nI_eq (a := w) (b := 0) (by omega) (by decide)).mp z; omega
      have z1 : ¬ nI w = (1 : Int32) := fun z => by have := (nI_eq (a := w) (b := 1) (by omega) (by decide)).mp z; omega
      have z2 : ¬ nI w = (2 : Int32) := fun z => by have := (nI_eq (a := w) (b := 2) (by omega) (by decide)).mp z; omega
      have es : nI w - (3 : Int32) = nI (w - 3) := pk_sub (a := w) (b := 3) (by omega)
      have ek : W_k nb w = w - 3 := if_neg (by omega)
      have eo : W_o w = 20 := if_neg (by omega)
      repeat (first | with_reducible refine bt z0 ?_ | with_reducible refine bf z0 ?_ | with_reducible refine nt z0 ?_ | with_reducible refine nf z0 ?_ | with_reducible refine And.intro z0 ?_ | with_reducible refine bt z1 ?_ | with_reducible refine bf z1 ?_ | with_reducible refine nt z1 ?_ | with_reducible refine nf z1 ?_ | with_reducible refine And.intro z1 ?_ | with_reducible refine bt z2 ?_ | with_reducible refine bf z2 ?_ | with_reducible refine nt z2 ?_ | with_reducible refine nf z2 ?_ | with_reducible refine And.intro z2 ?_)
      rw [es, nIc (show w - 3 < 2 ^ 31 by omega)]
      rw [ek, eo] at fin
      exact ⟨vp_in_nI (by omega) (by decide), fin⟩
theorem p_redo {D t : Nat} {H : pmT} {K : Int32 → Int32 → pmT → Prop} (hR : Rel t H) (ht : t ≤ 1000) (kk : ∀ x H', Rel (t + 1) H' → K x x H') : pm_R (D + 200) M_PW_redo [.ref 0] H (pm_i fun x H1 => pm_R (D + 200) M_Mo_redo [.ref 55] H1 (pm_i fun y H2 => K x y H2)) := by
  obtain ⟨hb, L, n, now, m, hN, hT, hD⟩ := id hR
  have hC := hN.cs ht
  have hM := hN.ms ht
  have hn12 := hC.2.2.1
  have hB := hT.2.2.2.1
  have hSh := hT.2.2.2.2.2.1
  have en : (nI n - (1 : Int32)).toInt = (n : Int) - 1 := nm1_t (by omega)
  have hR1 : Rel (t + 1) H := hR.mono (Nat.le_succ _)
  obtain ⟨dn, td, g1, g2, g3, g4, g5, g6, g7⟩ := id hT.2.2.1
  by_cases c : dn = td
  · subst c
    refine m_PW_redo ?_
    rw [g3, g4]
    first | refine bt (show ¬ nI dn < nI dn from nI_nlt (a := dn) (b := dn) (by omega) (by omega)) ?_ | refine bf (show ¬ nI dn < nI dn from nI_nlt (a := dn) (b := dn) (by omega) (by omega)) ?_ | refine nt (show ¬ nI dn < nI dn from nI_nlt (a := dn) (b := dn) (by omega) (by omega)) ?_ | refine nf (show ¬ nI dn < nI dn from nI_nlt (a := dn) (b := dn) (by omega) (by omega)) ?_
    refine m_Mo_redo ?_
    rw [g5, g6]
    first | refine bt (show nI dn = nI dn from rfl) ?_ | refine bf (show nI dn = nI dn from rfl) ?_ | refine nt (show nI dn = nI dn from rfl) ?_ | refine nf (show nI dn = nI dn from rfl) ?_
    exact kk _ _ hR1
  · obtain ⟨nb, w, x, y, q1, q2, q3, q4, q5, q6, q7, q8, q9, q10, q11, q12⟩ := g7 dn (by omega)
    have hp := at41 hn12 q1 q2
    refine m_PW_redo ?_
    rw [g3, g4, nI_1 dn, i_s1 (t := dn + 1) (by omega), show dn + 1 - 1 = dn by omega, nIc (show dn < 2 ^ 31 by omega), q6, q7, q9]
    first | refine bt (show nI dn < nI td from nI_lt (a := dn) (b := td) (by omega) (by omega)) ?_ | refine bf (show nI dn < nI td from nI_lt (a := dn) (b := td) (by omega) (by omega)) ?_ | refine nt (show nI dn < nI td from nI_lt (a := dn) (b := td) (by omega) (by omega)) ?_ | refine nf (show nI dn < nI td from nI_lt (a := dn) (b := td) (by omega) (by omega)) ?_
    first | refine bt (show 0 ≤ nI dn from nI_pos' (by omega)) ?_ | refine bf (show 0 ≤ nI dn from nI_pos' (by omega)) ?_ | refine nt (show 0 ≤ nI dn from nI_pos' (by omega)) ?_ | refine nf (show 0 ≤ nI dn from nI_pos' (by omega)) ?_
    have v40 : vp_in (nI dn) 40 := vp_in_nI (by omega) (by decide)
    have fin : pm_R (D + 200) M_Mo_redo [.ref 55] (pm_up (pm_up H.1 26 4 (nI (dn + 1))) (W_o w) (W_k nb w) (nI y), H.2) (pm_i fun y H2 => K (nI td - nI (dn + 1)) y H2) := by
      have f0 : ∀ o k, (o = 55 ∨ o = 57 ∨ o = 59) → (pm_up (pm_up H.1 26 4 (nI (dn + 1))) (W_o w) (W_k nb w) (nI y)) o k = H.1 o k := fun o k ho => by
        rw [pm_up_ne _ _ _ (by rcases W_o_ne (w := w) (o := o) (by omega) with z | z; exact z; omega), pm_up_ne _ _ _ (by omega)]
      generalize hH1 : ((pm_up (pm_up H.1 26 4 (nI (dn + 1))) (W_o w) (W_k nb w) (nI y), H.2) : pmT) = H1
      have f1 : ∀ o k, (o = 55 ∨ o = 57 ∨ o = 59) → H1.1 o k = H.1 o k := fun o k ho => by rw [← hH1]; exact f0 o k ho
      refine m_Mo_redo ?_
      rw [f1 55 5 (by decide), f1 55 4 (by decide), g5, g6, nIc (show dn < 2 ^ 31 by omega), nI_1 dn, f1 57 _ (by decide), f1 59 _ (by decide), q10, q12, nIc (show W_at nb w < 2 ^ 31 by omega)]
      first | refine bt (show ¬ nI dn = nI td from fun z => by have := (nI_eq (a := dn) (b := td) (by omega) (by omega)).mp z; omega) ?_ | refine bf (show ¬ nI dn = nI td from fun z => by have := (nI_eq (a := dn) (b := td) (by omega) (by omega)).mp z; omega) ?_ | refine nt (show ¬ nI dn = nI td from fun z => by have := (nI_eq (a := dn) (b := td) (by omega) (by omega)).mp z; omega) ?_ | refine nf (show ¬ nI dn = nI td from fun z => by have := (nI_eq (a := dn) (b := td) (by omega) (by omega)).mp z; omega) ?_
      refine ⟨v40, vp_in_nI hp (by decide), ?_⟩
      have f2 : fr [5506, 5600] H1 (pm_up (pm_up H1.1 56 (W_at nb w) (nI y)) 55 5 (nI (dn + 1)), H1.2) := (fr.rf.up (o := 56) rfl).up (o := 55) rfl
      have x5 : (pm_up (pm_up H1.1 56 (W_at nb w) (nI y)) 55 5 (nI (dn + 1))) 55 5 = nI (dn + 1) := by rw [pm_up_self, pk_us]
      have x56 : ∀ k, (pm_up (pm_up H1.1 56 (W_at nb w) (nI y)) 55 5 (nI (dn + 1))) 56 k = if k = W_at nb w then nI y else H1.1 56 k := fun k => by
        rw [pm_up_ne _ _ _ (by decide), pm_up_self]
        by_cases z : k = W_at nb w
        · rw [if_pos z, z, pk_us]
        · rw [if_neg z, pk_un z]
      rw [← hH1] at f2 x56 ⊢
      exact kk _ _ (un_end hN hT hD q1 q2 q5 f2 (by rw [← hH1] at x5; exact x5) x56 (fun td' h _ => by
        rw [g4] at h
        have := (nI_eq (a := td) (b := td') (by omega) (by omega)).mp h
        omega))
    refine ⟨v40, ?_⟩
    rcases (show w = 0 ∨ w = 1 ∨ w = 2 ∨ 3 ≤ w by omega) with y0 | y0 | y0 | y0
    · subst y0
      have b5 : vp_in (nI nb) 12 := vp_in_nI (by have := q2 (by omega); omega) (by decide)
      have z0 : nI 0 = (0 : Int32) := by decide
      repeat (first | with_reducible refine bt z0 ?_ | with_reducible refine bf z0 ?_ | with_reducible refine nt z0 ?_ | with_reducible refine nf z0 ?_ | with_reducible refine And.intro z0 ?_ | with_reducible refine bt b5 ?_ | with_reducible refine bf b5 ?_ | with_reducible refine nt b5 ?_ | with_reducible refine nf b5 ?_ | with_reducible refine And.intro b5 ?_)
      rw [nIc (show nb < 2 ^ 31 by have := q2 (by omega); omega)]
      exact fin
    · subst y0
      have b5 : vp_in (nI nb) 12 := vp_in_nI (by have := q2 (by omega); omega) (by decide)
      have z0 : ¬ nI 1 = (0 : Int32) := by decide
      have z1 : nI 1 = (1 : Int32) := by decide
      repeat (first | with_reducible refine bt z0 ?_ | with_reducible refine bf z0 ?_ | with_reducible refine nt z0 ?_ | with_reducible refine nf z0 ?_ | with_reducible refine And.intro z0 ?_ | with_reducible refine bt z1 ?_ | with_reducible refine bf z1 ?_ | with_reducible refine nt z1 ?_ | with_reducible refine nf z1 ?_ | with_reducible refine And.intro z1 ?_ | with_reducible refine bt b5 ?_ | with_reducible refine bf b5 ?_ | with_reducible refine nt b5 ?_ | with_reducible refine nf b5 ?_ | with_reducible refine And.intro b5 ?_)
      rw [nIc (show nb < 2 ^ 31 by have := q2 (by omega); omega)]
      exact fin
    · subst y0
      have b5 : vp_in (nI nb) 12 := vp_in_nI (by have := q2 (by omega); omega) (by decide)
      have z0 : ¬ nI 2 = (0 : Int32) := by decide
      have z1 : ¬ nI 2 = (1 : Int32) := by decide
      have z2 : nI 2 = (2 : Int32) := by decide
      repeat (first | with_reducible refine bt z0 ?_ | with_reducible refine bf z0 ?_ | with_reducible refine nt z0 ?_ | with_reducible refine nf z0 ?_ | with_reducible refine And.intro z0 ?_ | with_reducible refine bt z1 ?_ | with_reducible refine bf z1 ?_ | with_reducible refine nt z1 ?_ | with_reducible refine nf z1 ?_ | with_reducible refine And.intro z1 ?_ | with_reducible refine bt z2 ?_ | with_reducible refine bf z2 ?_ | with_reducible refine nt z2 ?_ | with_reducible refine nf z2 ?_ | with_reducible refine And.intro z2 ?_ | with_reducible refine bt b5 ?_ | with_reducible refine bf b5 ?_ | with_reducible refine nt b5 ?_ | with_reducible refine nf b5 ?_ | with_reducible refine And.intro b5 ?_)
      rw [nIc (show nb < 2 ^ 31 by have := q2 (by omega); omega)]
      exact fin
    · have z0 : ¬ nI w = (0 : Int32) := fun z => by have := (nI_eq (a := w) (b := 0) (by omega) (by decide)).mp z; omega
      have z1 : ¬ nI w = (1 : Int32) := fun z => by have := (nI_eq (a := w) (b := 1) (by omega) (by decide)).mp z; omega
      have z2 : ¬ nI w = (2 : Int32) := fun z => by have := (nI_eq (a := w) (b := 2) (by omega) (by decide)).mp z; omega
      have es : nI w - (3 : Int32) = nI (w - 3) := pk_sub (a := w) (b := 3) (by omega)
      have ek : W_k nb w = w - 3 := if_neg (by omega)
      have eo : W_o w = 20 := if_neg (by omega)
      repeat (first | with_reducible refine bt z0 ?_ | with_reducible refine bf z0 ?_ | with_reducible refine nt z0 ?_ | with_reducible refine nf z0 ?_ | with_reducible refine And.intro z0 ?_ | with_reducible refine bt z1 ?_ | with_reducible refine bf z1 ?_ | with_reducible refine nt z1 ?_ | with_reducible refine nf z1 ?_ | with_reducible refine And.intro z1 ?_ | with_reducible refine bt z2 ?_ | with_reducible refine bf z2 ?_ | with_reducible refine nt z2 ?_ | with_reducible refine nf z2 ?_ | with_reducible refine And.intro z2 ?_)
      rw [es, nIc (show w - 3 < 2 ^ 31 by omega)]
      rw [ek, eo] at fin
      exact ⟨vp_in_nI (by omega) (by decide), fin⟩
