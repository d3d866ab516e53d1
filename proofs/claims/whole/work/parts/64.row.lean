/-! calls in pairs: rows made and shifted -/
/-- the same but for numbers in one row of longs -/
def sl (o : Nat) (H H' : pmT) : Prop := H'.1 = H.1 ∧ H'.2.2 = H.2.2 ∧ ∀ o', o' ≠ o → H'.2.1 o' = H.2.1 o'
theorem sl.rf {o : Nat} {H : pmT} : sl o H H := ⟨rfl, rfl, fun _ _ => rfl⟩
theorem sl.s {o k : Nat} {v : Int64} {H H' : pmT} (h : sl o H H') : sl o H (H'.1, pm_upL H'.2.1 o k v, H'.2.2) :=
  ⟨h.1, h.2.1, fun o' ho => (by show pm_upL H'.2.1 o k v o' = _; rw [pm_upL_ne _ _ _ ho]; exact h.2.2 o' ho)⟩
theorem sl.at {o k : Nat} {v : Int64} {H' : pmT} (j : Nat) : ((H'.1, pm_upL H'.2.1 o k v, H'.2.2) : pmT).2.1 o j = vp_updL (H'.2.1 o) k v j := by
  show pm_upL H'.2.1 o k v o j = _
  rw [pm_upL_self]
theorem lp_hold {D d len : Nat} {K : pmT → Prop} {H0 : pmT} (hd : d < 6) (hl : len ≤ 60) (kk : ∀ H', sl (43 + 2 * d + 1) H0 H' → (∀ j, j < len → H'.2.1 (43 + 2 * d + 1) j = 0) → K H') : ∀ (m i : Nat) (H : pmT), i + m = len → sl (43 + 2 * d + 1) H0 H → (∀ j, j < i → H.2.1 (43 + 2 * d + 1) j = 0) → pm_RW none D M_Sh_holdRow (pm_v K) 17 [(0, .ref (43 + 2 * d)), (2, .int (nI len)), (3, .int (nI i))] [] H
  | 0, i, H, hi, hs, hz => by
    refine b_Sh_holdRow_17 _ _ _ (pm_s0 hd) (pm_s1' hd) ?_
    first | refine bt (nI_le (show len ≤ i by omega) (by omega)) ?_ | refine bf (nI_le (show len ≤ i by omega) (by omega)) ?_ | refine nt (nI_le (show len ≤ i by omega) (by omega)) ?_ | refine nf (nI_le (show len ≤ i by omega) (by omega)) ?_
    exact kk H hs (fun j hj => hz j (by omega))
  | m + 1, i, H, hi, hs, hz => by
    refine b_Sh_holdRow_17 _ _ _ (pm_s0 hd) (pm_s1' hd) ?_
    first | refine bt (nI_ge (show i < len by omega) (by omega)) ?_ | refine bf (nI_ge (show i < len by omega) (by omega)) ?_ | refine nt (nI_ge (show i < len by omega) (by omega)) ?_ | refine nf (nI_ge (show i < len by omega) (by omega)) ?_
    first | refine bt (nI_ge (a := i) (b := 60) (by omega) (by decide)) ?_ | refine bf (nI_ge (a := i) (b := 60) (by omega) (by decide)) ?_ | refine nt (nI_ge (a := i) (b := 60) (by omega) (by decide)) ?_ | refine nf (nI_ge (a := i) (b := 60) (by omega) (by decide)) ?_
    refine ⟨vp_in_nI (by omega) (by decide), ?_⟩
    rw [nIc (by omega), nI_1 i]
    refine lp_hold hd hl kk m (i + 1) _ (by omega) hs.s (fun j hj => ?_)
    rw [sl.at]
    by_cases z : j = i
    · rw [z, pk_uLs]
    · rw [pk_uLn z]; exact hz j (by omega)
theorem lp_rowM {D d : Nat} {K : Int32 → pmT → Prop} {H0 : pmT} (hd : d < 6) (kk : ∀ H', sl 83 H0 H' → (∀ j, j < 60 → H'.2.1 83 (60 * d + j) = 0) → (∀ k, k < 60 * d ∨ 60 * d + 60 ≤ k → H'.2.1 83 k = H0.2.1 83 k) → K 1 H') : ∀ (m i : Nat) (H : pmT), i + m = 60 → sl 83 H0 H → (∀ j, j < i → H.2.1 83 (60 * d + j) = 0) → (∀ k, k < 60 * d ∨ 60 * d + 60 ≤ k → H.2.1 83 k = H0.2.1 83 k) → pm_RW none (D + 2) M_Mo_row (pm_i K) 57 [(0, .ref 55), (1, .int (nI d)), (4, .int (nI (60 * d + i)))] [] H
  | 0, i, H, hi, hs, hz, ho => by
    have e : (60 : Int32) * nI d + (60 : Int32) = nI (60 * d + 60) := by rw [show (60 : Int32) = nI 60 from rfl, pk_mul, nI_add]
    refine b_Mo_row_57 _ _ ?_
    rw [e]
    first | refine bt (nI_le (show 60 * d + 60 ≤ 60 * d + i by omega) (by omega)) ?_ | refine bf (nI_le (show 60 * d + 60 ≤ 60 * d + i by omega) (by omega)) ?_ | refine nt (nI_le (show 60 * d + 60 ≤ 60 * d + i by omega) (by omega)) ?_ | refine nf (nI_le (show 60 * d + 60 ≤ 60 * d + i by omega) (by omega)) ?_
    exact kk H hs (fun j hj => hz j (by omega)) ho
  | m + 1, i, H, hi, hs, hz, ho => by
    have e : (60 : Int32) * nI d + (60 : Int32) = nI (60 * d + 60) := by rw [show (60 : Int32) = nI 60 from rfl, pk_mul, nI_add]
    refine b_Mo_row_57 _ _ ?_
    rw [e]
    first | refine bt (nI_ge (show 60 * d + i < 60 * d + 60 by omega) (by omega)) ?_ | refine bf (nI_ge (show 60 * d + i < 60 * d + 60 by omega) (by omega)) ?_ | refine nt (nI_ge (show 60 * d + i < 60 * d + 60 by omega) (by omega)) ?_ | refine nf (nI_ge (show 60 * d + i < 60 * d + 60 by omega) (by omega)) ?_
    refine ⟨vp_in_nI (by omega) (by decide), ?_⟩
    rw [nIc (by omega), nI_1 (60 * d + i)]
    refine lp_rowM hd kk m (i + 1) _ (by omega) hs.s (fun j hj => ?_) (fun k hk => ?_)
    · rw [sl.at]
      by_cases z : j = i
      · rw [z, pk_uLs]
      · rw [pk_uLn (by omega)]; exact hz j (by omega)
    · rw [sl.at, pk_uLn (by omega)]; exact ho k hk
theorem p_row {D t : Nat} {H : pmT} {K : Int32 → Int32 → pmT → Prop} (a1 a2 a3 : Int32) (hR : Rel t H) (ht : t ≤ 1000) (kk : ∀ x H', Rel (t + 1) H' → K x x H') : pm_R (D + 200) M_PW_row [.ref 0, .int a1, .int a2, .int a3] H (pm_i fun x H1 => pm_R (D + 200) M_Mo_row [.ref 55, .int a1, .int a2, .int a3] H1 (pm_i fun y H2 => K x y H2)) := by
  obtain ⟨hb, L, n, now, m, hN, hT, hD⟩ := id hR
  have hC := hN.cs ht
  have hM := hN.ms ht
  have hn12 := hC.2.2.1
  have hB := hT.2.2.2.1
  have hSh := hT.2.2.2.2.2.1
  have en : (nI n - (1 : Int32)).toInt = (n : Int) - 1 := nm1_t (by omega)
  have hR1 : Rel (t + 1) H := hR.mono (Nat.le_succ _)
  by_cases hok : (0 ≤ a1.toInt ∧ a1.toInt ≤ 5) ∧ (0 ≤ a2.toInt ∧ a2.toInt ≤ 4)
  · obtain ⟨⟨p1, p2⟩, p3, p4⟩ := hok
    obtain ⟨d, _, rfl, eb⟩ := nI_tI a1 p1
    obtain ⟨c, _, rfl, ec⟩ := nI_tI a2 p3
    have hd : d < 6 := by omega
    have d0 : ¬ nI d < (0 : Int32) := nI_pos (by omega)
    have d1 : nI d ≤ (5 : Int32) := nI_le (show d ≤ 5 by omega) (by decide)
    have d2 : ¬ lg_cmp (nI d).toInt64 (0 : Int64) < 0 := l_0 (by omega)
    have d3 : ¬ 0 < lg_cmp (nI d).toInt64 (5 : Int64) := l_c (by omega) (by show (d : Int) ≤ 5; omega)
    have d4 : (nI d).toNatClampNeg = d := nIc (by omega)
    have c0 : ¬ nI c < (0 : Int32) := nI_pos (by omega)
    have c1 : nI c ≤ (4 : Int32) := nI_le (show c ≤ 4 by omega) (by decide)
    have c2 : ¬ lg_cmp (nI c).toInt64 (0 : Int64) < 0 := l_0 (by omega)
    have c3 : ¬ 0 < lg_cmp (nI c).toInt64 (4 : Int64) := l_c (by omega) (by show (c : Int) ≤ 4; omega)
    have c4 : (nI c).toNatClampNeg = c := nIc (by omega)
    have dv : vp_in (nI d) 6 := vp_in_nI hd (by decide)
    by_cases c60 : a3 ≤ (60 : Int32)
    · by_cases cn : 0 ≤ a3
      · have n0 : 0 ≤ a3.toInt := by
          rw [t_le] at cn
          have : (0 : Int32).toInt = 0 := rfl
          omega
        obtain ⟨len, _, rfl, el⟩ := nI_tI a3 n0
        have hl : len ≤ 60 := by
          rw [t_le] at c60
          have : (60 : Int32).toInt = 60 := rfl
          omega
        refine m_PW_row _ _ _ ?_
        rw [d4]
        repeat (first | with_reducible refine bt d0 ?_ | with_reducible refine bf d0 ?_ | with_reducible refine nt d0 ?_ | with_reducible refine nf d0 ?_ | with_reducible refine And.intro d0 ?_ | with_reducible refine bt d1 ?_ | with_reducible refine bf d1 ?_ | with_reducible refine nt d1 ?_ | with_reducible refine nf d1 ?_ | with_reducible refine And.intro d1 ?_ | with_reducible refine bt c0 ?_ | with_reducible refine bf c0 ?_ | with_reducible refine nt c0 ?_ | with_reducible refine nf c0 ?_ | with_reducible refine And.intro c0 ?_ | with_reducible refine bt c1 ?_ | with_reducible refine bf c1 ?_ | with_reducible refine nt c1 ?_ | with_reducible refine nf c1 ?_ | with_reducible refine And.intro c1 ?_ | with_reducible refine bt c60 ?_ | with_reducible refine bf c60 ?_ | with_reducible refine nt c60 ?_ | with_reducible refine nf c60 ?_ | with_reducible refine And.intro c60 ?_ | with_reducible refine bt cn ?_ | with_reducible refine bf cn ?_ | with_reducible refine nt cn ?_ | with_reducible refine nf cn ?_ | with_reducible refine And.intro cn ?_ | with_reducible refine bt dv ?_ | with_reducible refine bf dv ?_ | with_reducible refine nt dv ?_ | with_reducible refine nf dv ?_ | with_reducible refine And.intro dv ?_)
        refine m_Sh_holdRow _ _ _ (pm_s0 hd) ?_
        generalize hHa : ((pm_up (pm_up (pm_up H.1 (43 + 2 * d) 0 (-1 : Int32)) (43 + 2 * d) 1 (nI c)) (43 + 2 * d) 2 (nI len), H.2) : pmT) = Ha
        refine lp_hold hd hl (fun H1 s1 z1 => ?_) len 0 Ha (by omega) sl.rf (fun j hj => absurd hj (Nat.not_lt_zero _))
        refine m_Mo_row _ _ _ ?_
        rw [d4, show (50 : Int32) + nI c = nI (50 + c) from nI_pl 50, show (60 : Int32) * nI d = nI (60 * d + 0) from pk_mul 60 d]
        repeat (first | with_reducible refine bt d2 ?_ | with_reducible refine bf d2 ?_ | with_reducible refine nt d2 ?_ | with_reducible refine nf d2 ?_ | with_reducible refine And.intro d2 ?_ | with_reducible refine bt d3 ?_ | with_reducible refine bf d3 ?_ | with_reducible refine nt d3 ?_ | with_reducible refine nf d3 ?_ | with_reducible refine And.intro d3 ?_ | with_reducible refine bt c2 ?_ | with_reducible refine bf c2 ?_ | with_reducible refine nt c2 ?_ | with_reducible refine nf c2 ?_ | with_reducible refine And.intro c2 ?_ | with_reducible refine bt c3 ?_ | with_reducible refine bf c3 ?_ | with_reducible refine nt c3 ?_ | with_reducible refine nf c3 ?_ | with_reducible refine And.intro c3 ?_ | with_reducible refine bt c60 ?_ | with_reducible refine bf c60 ?_ | with_reducible refine nt c60 ?_ | with_reducible refine nf c60 ?_ | with_reducible refine And.intro c60 ?_ | with_reducible refine bt cn ?_ | with_reducible refine bf cn ?_ | with_reducible refine nt cn ?_ | with_reducible refine nf cn ?_ | with_reducible refine And.intro cn ?_ | with_reducible refine bt dv ?_ | with_reducible refine bf dv ?_ | with_reducible refine nt dv ?_ | with_reducible refine nf dv ?_ | with_reducible refine And.intro dv ?_)
        generalize hHb : ((pm_up (pm_up H1.1 81 d (nI (50 + c))) 82 d (nI len), H1.2) : pmT) = Hb
        refine lp_rowM (D := D + 198) hd (fun H2 s2 z2 o2 => ?_) 60 0 Hb (by omega) sl.rf (fun j hj => absurd hj (Nat.not_lt_zero _)) (fun _ _ => rfl)
        have fa : fr ShL H Ha := by
          rw [← hHa]
          exact ((fr.rf.up (sh_has hd (by decide))).up (sh_has hd (by decide))).up (sh_has hd (by decide))
        have fb' : fr ShL H1 Hb := by
          rw [← hHb]
          exact (fr.rf.up (o := 81) rfl).up (o := 82) rfl
        have oa : ∀ o, o ≠ 43 + 2 * d → Ha.1 o = H.1 o := fun o ho => by
          rw [← hHa]
          show pm_up (pm_up (pm_up H.1 (43 + 2 * d) 0 (-1 : Int32)) (43 + 2 * d) 1 (nI c)) (43 + 2 * d) 2 (nI len) o = _
          rw [pm_up_ne _ _ _ ho, pm_up_ne _ _ _ ho, pm_up_ne _ _ _ ho]
        have ob : ∀ o, o ≠ 81 → o ≠ 82 → H2.1 o = Ha.1 o := fun o h1 h2 => by
          rw [s2.1, ← hHb]
          show pm_up (pm_up H1.1 81 d (nI (50 + c))) 82 d (nI len) o = _
          rw [pm_up_ne _ _ _ h2, pm_up_ne _ _ _ h1, s1.1]
        have e81 : ∀ k, H2.1 81 k = upd (H.1 81) d (nI (50 + c)) k := fun k => by
          rw [s2.1, ← hHb]
          show pm_up (pm_up H1.1 81 d (nI (50 + c))) 82 d (nI len) 81 k = _
          rw [pm_up_ne _ _ _ (by decide), pm_up_self, s1.1, oa 81 (by omega)]
        have e82 : ∀ k, H2.1 82 k = upd (H.1 82) d (nI len) k := fun k => by
          rw [s2.1, ← hHb]
          show pm_up (pm_up H1.1 81 d (nI (50 + c))) 82 d (nI len) 82 k = _
          rw [pm_up_self, pm_up_ne _ _ _ (by decide), s1.1, oa 82 (by omega)]
        have es : ∀ k, H2.1 (43 + 2 * d) k = upd (upd (upd (H.1 (43 + 2 * d)) 0 (-1)) 1 (nI c)) 2 (nI len) k := fun k => by
          rw [ob _ (by omega) (by omega), ← hHa]
          show pm_up (pm_up (pm_up H.1 (43 + 2 * d) 0 (-1 : Int32)) (43 + 2 * d) 1 (nI c)) (43 + 2 * d) 2 (nI len) (43 + 2 * d) k = _
          rw [pm_up_self, pm_up_self, pm_up_self]
        have ff : f1 ShL H H2 := fun o k h => by
          rw [s2.1]
          refine (fb'.1 o k h).trans ?_
          rw [s1.1]
          exact fa.1 o k h
        have ea : Ha.2 = H.2 := fa.2
        have eb' : Hb.2 = H1.2 := fb'.2
        have e2 : H2.2.2 = H.2.2 := by rw [s2.2.1, eb', s1.2.1, ea]
        have z83 : Hb.2.1 83 = H.2.1 83 := by rw [eb', s1.2.2 83 (by omega), ea]
        have zs : H2.2.1 (43 + 2 * d + 1) = H1.2.1 (43 + 2 * d + 1) := by rw [s2.2.2 _ (by omega), eb']
        refine kk _ _ (Rel.sh hN hT hD ff e2 (fun d' hd' => ?_))
        by_cases z : d' = d
        · subst z
          refine Or.inr (Or.inr ⟨c, len, by omega, hl, ?_, ?_, (e81 _).trans pk_us, (es 2).trans pk_us, (e82 _).trans pk_us, fun j hj => ?_, fun _ j hj => ?_⟩)
          · rw [es, pk_un (by decide), pk_un (by decide), pk_us]
          · rw [es, pk_un (by decide), pk_us]
          · rw [zs, z1 j hj, z2 j (by omega)]
          · rw [z2 j (by omega)]; decide
        · refine (hSh d' hd').oth (fun k hk => ?_) ((e81 _).trans (pk_un z)) ((e82 _).trans (pk_un z)) (fun j hj => ?_) (fun j hj => ?_)
          · rw [ob _ (by omega) (by omega), oa _ (by omega)]
          · rw [s2.2.2 _ (by omega), eb', s1.2.2 _ (by omega), ea]
          · rw [o2 _ (by omega), z83]
      · refine m_PW_row _ _ _ ?_
        repeat (first | with_reducible refine bt d0 ?_ | with_reducible refine bf d0 ?_ | with_reducible refine nt d0 ?_ | with_reducible refine nf d0 ?_ | with_reducible refine And.intro d0 ?_ | with_reducible refine bt d1 ?_ | with_reducible refine bf d1 ?_ | with_reducible refine nt d1 ?_ | with_reducible refine nf d1 ?_ | with_reducible refine And.intro d1 ?_ | with_reducible refine bt c0 ?_ | with_reducible refine bf c0 ?_ | with_reducible refine nt c0 ?_ | with_reducible refine nf c0 ?_ | with_reducible refine And.intro c0 ?_ | with_reducible refine bt c1 ?_ | with_reducible refine bf c1 ?_ | with_reducible refine nt c1 ?_ | with_reducible refine nf c1 ?_ | with_reducible refine And.intro c1 ?_ | with_reducible refine bt c60 ?_ | with_reducible refine bf c60 ?_ | with_reducible refine nt c60 ?_ | with_reducible refine nf c60 ?_ | with_reducible refine And.intro c60 ?_ | with_reducible refine bt cn ?_ | with_reducible refine bf cn ?_ | with_reducible refine nt cn ?_ | with_reducible refine nf cn ?_ | with_reducible refine And.intro cn ?_)
        refine m_Mo_row _ _ _ ?_
        repeat (first | with_reducible refine bt d2 ?_ | with_reducible refine bf d2 ?_ | with_reducible refine nt d2 ?_ | with_reducible refine nf d2 ?_ | with_reducible refine And.intro d2 ?_ | with_reducible refine bt d3 ?_ | with_reducible refine bf d3 ?_ | with_reducible refine nt d3 ?_ | with_reducible refine nf d3 ?_ | with_reducible refine And.intro d3 ?_ | with_reducible refine bt c2 ?_ | with_reducible refine bf c2 ?_ | with_reducible refine nt c2 ?_ | with_reducible refine nf c2 ?_ | with_reducible refine And.intro c2 ?_ | with_reducible refine bt c3 ?_ | with_reducible refine bf c3 ?_ | with_reducible refine nt c3 ?_ | with_reducible refine nf c3 ?_ | with_reducible refine And.intro c3 ?_ | with_reducible refine bt c60 ?_ | with_reducible refine bf c60 ?_ | with_reducible refine nt c60 ?_ | with_reducible refine nf c60 ?_ | with_reducible refine And.intro c60 ?_ | with_reducible refine bt cn ?_ | with_reducible refine bf cn ?_ | with_reducible refine nt cn ?_ | with_reducible refine nf cn ?_ | with_reducible refine And.intro cn ?_)
        exact kk _ _ hR1
    · refine m_PW_row _ _ _ ?_
      repeat (first | with_reducible refine bt d0 ?_ | with_reducible refine bf d0 ?_ | with_reducible refine nt d0 ?_ | with_reducible refine nf d0 ?_ | with_reducible refine And.intro d0 ?_ | with_reducible refine bt d1 ?_ | with_reducible refine bf d1 ?_ | with_reducible refine nt d1 ?_ | with_reducible refine nf d1 ?_ | with_reducible refine And.intro d1 ?_ | with_reducible refine bt c0 ?_ | with_reducible refine bf c0 ?_ | with_reducible refine nt c0 ?_ | with_reducible refine nf c0 ?_ | with_reducible refine And.intro c0 ?_ | with_reducible refine bt c1 ?_ | with_reducible refine bf c1 ?_ | with_reducible refine nt c1 ?_ | with_reducible refine nf c1 ?_ | with_reducible refine And.intro c1 ?_ | with_reducible refine bt c60 ?_ | with_reducible refine bf c60 ?_ | with_reducible refine nt c60 ?_ | with_reducible refine nf c60 ?_ | with_reducible refine And.intro c60 ?_)
      refine m_Mo_row _ _ _ ?_
      repeat (first | with_reducible refine bt d2 ?_ | with_reducible refine bf d2 ?_ | with_reducible refine nt d2 ?_ | with_reducible refine nf d2 ?_ | with_reducible refine And.intro d2 ?_ | with_reducible refine bt d3 ?_ | with_reducible refine bf d3 ?_ | with_reducible refine nt d3 ?_ | with_reducible refine nf d3 ?_ | with_reducible refine And.intro d3 ?_ | with_reducible refine bt c2 ?_ | with_reducible refine bf c2 ?_ | with_reducible refine nt c2 ?_ | with_reducible refine nf c2 ?_ | with_reducible refine And.intro c2 ?_ | with_reducible refine bt c3 ?_ | with_reducible refine bf c3 ?_ | with_reducible refine nt c3 ?_ | with_reducible refine nf c3 ?_ | with_reducible refine And.intro c3 ?_ | with_reducible refine bt c60 ?_ | with_reducible refine bf c60 ?_ | with_reducible refine nt c60 ?_ | with_reducible refine nf c60 ?_ | with_reducible refine And.intro c60 ?_)
      exact kk _ _ hR1
  · have hm : pm_R (D + 200) M_Mo_row [.ref 55, .int a1, .int a2, .int a3] H (pm_i fun y H2 => K (-1) y H2) := by
      refine m_Mo_row _ _ _ ?_
      try rw [hM.2.1]
      ((try (simp only [lgl, lgg, i2l_t, u32_0, u64_0, u32_1, u64_1, u32_2, u64_2, u32_3, u64_3, u32_4, u64_4, u32_5, u64_5, u32_7, u64_7, u32_12, u64_12, u32_24, u64_24, u32_30, u64_30, u32_49, u64_49, u32_60, u64_60, u32_99, u64_99, u32_255, u64_255, u32_999, u64_999, en])); (try (simp only [t_lt, t_le, u32_0, u64_0, u32_1, u64_1, u32_2, u64_2, u32_3, u64_3, u32_4, u64_4, u32_5, u64_5, u32_7, u64_7, u32_12, u64_12, u32_24, u64_24, u32_30, u64_30, u32_49, u64_49, u32_60, u64_60, u32_99, u64_99, u32_255, u64_255, u32_999, u64_999, en])); repeat' (first | with_reducible intro hh | with_reducible apply And.intro | exact vp_in_iff.mpr (by omega) | (exfalso; omega) | exact kk _ _ hR1))
    refine m_PW_row _ _ _ ?_
    try rw [hC.2.1]
    ((try (simp only [lgl, lgg, i2l_t, u32_0, u64_0, u32_1, u64_1, u32_2, u64_2, u32_3, u64_3, u32_4, u64_4, u32_5, u64_5, u32_7, u64_7, u32_12, u64_12, u32_24, u64_24, u32_30, u64_30, u32_49, u64_49, u32_60, u64_60, u32_99, u64_99, u32_255, u64_255, u32_999, u64_999, en])); (try (simp only [t_lt, t_le, u32_0, u64_0, u32_1, u64_1, u32_2, u64_2, u32_3, u64_3, u32_4, u64_4, u32_5, u64_5, u32_7, u64_7, u32_12, u64_12, u32_24, u64_24, u32_30, u64_30, u32_49, u64_49, u32_60, u64_60, u32_99, u64_99, u32_255, u64_255, u32_999, u64_999, en])); repeat' (first | with_reducible intro hh | with_reducible apply And.intro | exact vp_in_iff.mpr (by omega) | (exfalso; omega) | exact hm))
theorem lp_sh1 {D d p r e2 c : Nat} {Q : pmQ} {H0 : pmT} (hd : d < 6) (hp : p + c ≤ 60) (kk : ∀ H', sl 84 H0 H' → (∀ j, j < c → H'.2.1 84 j = H0.2.1 83 (60 * d + p + j)) → pm_RW none (D + 2) M_Mo_shift Q 150 [(0, .ref 55), (3, .int (nI e2)), (4, .int (nI r)), (5, .int (nI c)), (6, .int (nI 0))] [] H') : ∀ (m i : Nat) (H : pmT), i + m = c → sl 84 H0 H → (∀ j, j < i → H.2.1 84 j = H0.2.1 83 (60 * d + p + j)) → pm_RW none (D + 2) M_Mo_shift Q 113 [(0, .ref 55), (1, .int (nI d)), (2, .int (nI p)), (3, .int (nI e2)), (4, .int (nI r)), (5, .int (nI c)), (6, .int (nI i))] [] H
  | 0, i, H, hi, hs, hz => by
    refine b_Mo_shift_113 _ _ _ _ _ _ ?_
    first | refine bt (nI_le (show c ≤ i by omega) (by omega)) ?_ | refine bf (nI_le (show c ≤ i by omega) (by omega)) ?_ | refine nt (nI_le (show c ≤ i by omega) (by omega)) ?_ | refine nf (nI_le (show c ≤ i by omega) (by omega)) ?_
    exact kk H hs (fun j hj => hz j (by omega))
  | m + 1, i, H, hi, hs, hz => by
    refine b_Mo_shift_113 _ _ _ _ _ _ ?_
    first | refine bt (nI_ge (show i < c by omega) (by omega)) ?_ | refine bf (nI_ge (show i < c by omega) (by omega)) ?_ | refine nt (nI_ge (show i < c by omega) (by omega)) ?_ | refine nf (nI_ge (show i < c by omega) (by omega)) ?_
    have ei : (60 : Int32) * nI d + nI p + nI i = nI (60 * d + p + i) := by rw [show (60 : Int32) = nI 60 from rfl, pk_mul, nI_add, nI_add]
    rw [ei]
    refine ⟨vp_in_nI (by omega) (by decide), vp_in_nI (by omega) (by decide), ?_⟩
    rw [nIc (show i < 2 ^ 31 by omega), nIc (show 60 * d + p + i < 2 ^ 31 by omega), nI_1 i, hs.2.2 83 (by decide)]
    refine lp_sh1 hd hp kk m (i + 1) _ (by omega) hs.s (fun j hj => ?_)
    rw [sl.at]
    by_cases z : j = i
    · rw [z, pk_uLs]
    · rw [pk_uLn z]; exact hz j (by omega)
theorem lp_sh2 {D d r c : Nat} {K : Int32 → pmT → Prop} {H0 : pmT} (hd : d < 6) (hr : r + c ≤ 60) (kk : ∀ H', sl 83 H0 H' → (∀ j, j < c → H'.2.1 83 (60 * d + r + j) = H0.2.1 84 j) → (∀ k, k < 60 * d + r ∨ 60 * d + r + c ≤ k → H'.2.1 83 k = H0.2.1 83 k) → K (nI c) H') : ∀ (m i : Nat) (H : pmT), i + m = c → sl 83 H0 H → (∀ j, j < i → H.2.1 83 (60 * d + r + j) = H0.2.1 84 j) → (∀ k, k < 60 * d + r ∨ 60 * d + r + c ≤ k → H.2.1 83 k = H0.2.1 83 k) → pm_RW none (D + 2) M_Mo_shift (pm_i K) 150 [(0, .ref 55), (3, .int (nI d)), (4, .int (nI r)), (5, .int (nI c)), (6, .int (nI i))] [] H
  | 0, i, H, hi, hs, hz, ho => by
    refine b_Mo_shift_150 _ _ _ _ ?_
    first | refine bt (nI_le (show c ≤ i by omega) (by omega)) ?_ | refine bf (nI_le (show c ≤ i by omega) (by omega)) ?_ | refine nt (nI_le (show c ≤ i by omega) (by omega)) ?_ | refine nf (nI_le (show c ≤ i by omega) (by omega)) ?_
    exact kk H hs (fun j hj => hz j (by omega)) ho
  | m + 1, i, H, hi, hs, hz, ho => by
    refine b_Mo_shift_150 _ _ _ _ ?_
    first | refine bt (nI_ge (show i < c by omega) (by omega)) ?_ | refine bf (nI_ge (show i < c by omega) (by omega)) ?_ | refine nt (nI_ge (show i < c by omega) (by omega)) ?_ | refine nf (nI_ge (show i < c by omega) (by omega)) ?_
    have ei : (60 : Int32) * nI d + nI r + nI i = nI (60 * d + r + i) := by rw [show (60 : Int32) = nI 60 from rfl, pk_mul, nI_add, nI_add]
    rw [ei]
    refine ⟨vp_in_nI (by omega) (by decide), vp_in_nI (by omega) (by decide), ?_⟩
    rw [nIc (show i < 2 ^ 31 by omega), nIc (show 60 * d + r + i < 2 ^ 31 by omega), nI_1 i, hs.2.2 84 (by decide)]
    refine lp_sh2 hd hr kk m (i + 1) _ (by omega) hs.s (fun j hj => ?_) (fun k hk => ?_)
    · rw [sl.at]
      by_cases z : j = i
      · rw [z, pk_uLs]
      · rw [pk_uLn (by omega)]; exact hz j (by omega)
    · rw [sl.at, pk_uLn (by omega)]; exact ho k hk
