/-! calls in pairs: deeds of bodies -/
abbrev ActL : List Nat := [3104, 3105, 3300, 5546, 5547, 5548, 8000]
theorem Rel_act {hb : Nat → Nat} {L : Law} {n t m : Nat} {now : Nat → Row} {H H' : pmT} (hN : RNow hb L n t now H) (hT : RRest n t m H) (hD : RDay H) (f : fr ActL H H') (h : RTrc H') : Rel (t + 1) H' := by
  obtain ⟨t1, t2, t3, t4, t5, t6, t7, t8⟩ := hT
  exact ⟨hb, L, n, now, m, (hN.f1 f.f1 (by rw [f.2]) rfl).mono (Nat.le_succ _), ⟨t1.f1 f.f1 rfl, t2.f1 f.f1 (by rw [f.2]) rfl, t3.f1 f.f1 rfl, t4.f1 f.f1 rfl, h, fun d hd => (t6 d hd).f1 hd f.f1 (by rw [f.2]) rfl, t7.f1 f.f1 rfl, (t8.f1 f.f1 rfl).mono (Nat.le_succ _)⟩, hD.f1 f.f1 rfl⟩
theorem cn_at {kd k a : Nat} (hkd : kd ≤ 7) (hk : k ≤ 7) (ha : a ≤ 3) : ∃ n, cn kd 14 k a = some n ∧ n ≤ 200 := by
  have h := cn_all kd hkd k hk a ha
  cases e : cn kd 14 k a with
  | none => rw [e] at h; cases h
  | some n => rw [e] at h; exact ⟨n, rfl, Nat.le_of_ble_eq_true h⟩
theorem p_act {D t : Nat} {H : pmT} {K : Int32 → Int32 → pmT → Prop} (a1 a2 a3 : Int32) (hR : Rel t H) (ht : t ≤ 1000) (kk : ∀ x H', Rel (t + 1) H' → K x x H') : pm_R (D + 200) M_PW_act [.ref 0, .int a1, .int a2, .int a3] H (pm_i fun x H1 => pm_R (D + 200) M_Mo_act [.ref 55, .int a1, .int a2, .int a3] H1 (pm_i fun y H2 => K x y H2)) := by
  obtain ⟨hb, L, n, now, m, hN, hT, hD⟩ := id hR
  have hC := hN.cs ht
  have hM := hN.ms ht
  have hn12 := hC.2.2.1
  have hB := hT.2.2.2.1
  have hSh := hT.2.2.2.2.2.1
  have en : (nI n - (1 : Int32)).toInt = (n : Int) - 1 := nm1_t (by omega)
  have hR1 : Rel (t + 1) H := hR.mono (Nat.le_succ _)
  have hm50 := hB.1
  have em : (nI m - (1 : Int32)).toInt = (m : Int) - 1 := nm1_t (by omega)
  have f1 : fr ActL H (pm_up H.1 31 3 (0 : Int32), H.2) := fr.rf.up (o := 31) rfl
  have x31 : pm_up H.1 31 3 (0 : Int32) 31 3 = 0 := by rw [pm_up_self, pk_us]
  have o31 : ∀ o k, o ≠ 31 → pm_up H.1 31 3 (0 : Int32) o k = H.1 o k := fun o k ho => by rw [pm_up_ne _ _ _ ho]
  obtain ⟨b1, b2, b3, b4⟩ := hB
  refine m_PW_act _ _ _ ?_
  refine m_Bo_perform _ _ _ ?_
  rw [b2]
  generalize hX : pm_up H.1 31 3 (0 : Int32) = X at f1 x31 o31 ⊢
  have z0 : (0 : Int32).toInt = 0 := rfl
  have fin0 : ∀ H2 : pmT, fr [5546, 5547, 5548] (X, H.2) H2 → H2.1 55 45 = 0 → K 0 0 H2 := fun H2 f2 e => by
    refine kk _ _ (Rel_act hN hT hD (f1.tr (f2.mono rfl)) ⟨0, by decide, (f2.1 31 3 rfl).trans x31, e, fun j _ h => absurd h (Nat.not_lt_zero _)⟩)
  by_cases hbd : 0 ≤ a1.toInt ∧ a1.toInt < m
  · obtain ⟨p1, p2⟩ := hbd
    obtain ⟨v, _, rfl, ev1⟩ := nI_tI a1 p1
    have hv : v < m := by omega
    obtain ⟨kd, k1, k2, k3⟩ := b4 v hv
    have v0 : ¬ nI v < (0 : Int32) := nI_pos (by omega)
    have v1 : nI v ≤ nI m - (1 : Int32) := le_pred hv (by omega)
    have v2 : ¬ lg_cmp (nI v).toInt64 (0 : Int64) < 0 := l_0 (by omega)
    have v3 : ¬ 0 < lg_cmp (nI v).toInt64 ((nI m - (1 : Int32)).toInt64) := l_n hv (by omega)
    have v5 : vp_in (nI v) 50 := vp_in_nI (by omega) (by decide)
    have kp : ¬ nI kd < 0 := nI_pos (by omega)
    rw [nIc (show v < 2 ^ 31 by omega), k2]
    repeat (first | with_reducible refine bt v0 ?_ | with_reducible refine bf v0 ?_ | with_reducible refine nt v0 ?_ | with_reducible refine nf v0 ?_ | with_reducible refine And.intro v0 ?_ | with_reducible refine bt v1 ?_ | with_reducible refine bf v1 ?_ | with_reducible refine nt v1 ?_ | with_reducible refine nf v1 ?_ | with_reducible refine And.intro v1 ?_ | with_reducible refine bt v5 ?_ | with_reducible refine bf v5 ?_ | with_reducible refine nt v5 ?_ | with_reducible refine nf v5 ?_ | with_reducible refine And.intro v5 ?_ | with_reducible refine bt kp ?_ | with_reducible refine bf kp ?_ | with_reducible refine nt kp ?_ | with_reducible refine nf kp ?_ | with_reducible refine And.intro kp ?_)
    by_cases ha : 0 ≤ a2.toInt ∧ a2.toInt ≤ 3
    · obtain ⟨p3, p4⟩ := ha
      obtain ⟨a, _, rfl, ea⟩ := nI_tI a2 p3
      have ha3 : a ≤ 3 := by omega
      have w0 : ¬ nI a < (0 : Int32) := nI_pos (by omega)
      have w1 : nI a ≤ (3 : Int32) := nI_le (show a ≤ 3 from ha3) (by decide)
      repeat (first | with_reducible refine bt w0 ?_ | with_reducible refine bf w0 ?_ | with_reducible refine nt w0 ?_ | with_reducible refine nf w0 ?_ | with_reducible refine And.intro w0 ?_ | with_reducible refine bt w1 ?_ | with_reducible refine bf w1 ?_ | with_reducible refine nt w1 ?_ | with_reducible refine nf w1 ?_ | with_reducible refine And.intro w1 ?_)
      obtain ⟨c, hc1, hc2⟩ := cn_at k1 k1 ha3
      have f2 : fr [3105] (X, H.2) (pm_up X 31 4 (nI v), H.2) := fr.rf.up (o := 31) rfl
      have y4 : pm_up X 31 4 (nI v) 31 4 = nI v := by rw [pm_up_self, pk_us]
      have y3 : pm_up X 31 4 (nI v) 31 3 = 0 := by rw [pm_up_self, pk_un (by decide)]; exact x31
      generalize pm_up X 31 4 (nI v) = Y at f2 y4 y3 ⊢
      have fY : fr ActL H (Y, H.2) := f1.tr (f2.mono rfl)
      refine pm_Rc (d := D + 183 + 14 + 1) rfl (c_run (D := D + 183) k1 (show v < 50 by omega) 14 kd a 0 a3 c (fun _ => 0) 0 (Y, H.2) _ k1 ha3 hc1 (by decide) (by omega) y4 ((fY.1 32 v rfl).trans k2) ⟨y3, fun j _ h => absurd h (Nat.not_lt_zero _)⟩ (fun H1 g1 t1 => ?_))
      have fH : fr ActL H H1 := fY.tr (g1.mono rfl)
      have run : ∀ Z : pmT, Z = (pm_up (pm_up (pm_up H1.1 55 45 (0 : Int32)) 55 46 (nI kd)) 55 47 (nI v), H1.2) → pm_R (D + 199) (M_as a) [.ref 55, .int (nI kd), .int a3] Z (pm_i fun x24 H23 => K (ev kd (nI v) 14 kd a a3 (fun _ => 0) 0).2.2 x24 H23) := by
        intro Z eZ
        have fZ : fr [5546, 5547, 5548] H1 Z := by
          rw [eZ]
          exact ((fr.rf.up (o := 55) rfl).up (o := 55) rfl).up (o := 55) rfl
        have z45 : Z.1 55 45 = 0 := by
          rw [eZ]
          show pm_up (pm_up (pm_up H1.1 55 45 (0 : Int32)) 55 46 (nI kd)) 55 47 (nI v) 55 45 = _
          rw [pm_up_self, pk_un (by decide), pm_up_self, pk_un (by decide), pm_up_self, pk_us]
        have z46 : Z.1 55 46 = nI kd := by
          rw [eZ]
          show pm_up (pm_up (pm_up H1.1 55 45 (0 : Int32)) 55 46 (nI kd)) 55 47 (nI v) 55 46 = _
          rw [pm_up_self, pk_un (by decide), pm_up_self, pk_us]
        have z47 : Z.1 55 47 = nI v := by
          rw [eZ]
          show pm_up (pm_up (pm_up H1.1 55 45 (0 : Int32)) 55 46 (nI kd)) 55 47 (nI v) 55 47 = _
          rw [pm_up_self, pk_us]
        refine pm_Rc (d := D + 184 + 14 + 1) rfl (c_as (D := D + 184) (ix := v) k1 14 kd a a3 c (fun _ => 0) 0 Z _ k1 ha3 hc1 (by omega) z46 z47 ⟨z45, fun j _ h => absurd h (Nat.not_lt_zero _)⟩ (fun H2 g2 t2 => ?_))
        have er := ev_r (ix := nI v) k1 14 kd a a3 (fun _ => 0) 0 c k1 ha3 hc1
        have f3c : fr [5546, 5547, 5548, 8000] H1 H2 := (fZ.mono rfl).tr (g2.mono rfl)
        have f3 : fr ActL H1 H2 := (fZ.mono rfl).tr (g2.mono rfl)
        refine kk _ _ (Rel_act hN hT hD (fH.tr f3) ⟨_, ?_, (f3c.1 31 3 rfl).trans t1.1, t2.1, fun j h1 h2 => ((f3c.1 33 j rfl).trans (t1.2 j h1 h2)).trans (t2.2 j h1 h2).symm⟩)
        rw [er]; omega
      refine m_Mo_act _ _ _ ?_
      rw [show H1.1 55 42 = nI m from (fH.1 55 42 rfl).trans b3, nIc (show v < 2 ^ 31 by omega), show H1.1 79 v = nI kd from (fH.1 79 v rfl).trans k3]
      rcases (show a = 0 ∨ a = 1 ∨ a = 2 ∨ a = 3 by omega) with y | y | y | y
      · subst y
        have z0 : nI 0 = (0 : Int32) := by decide
        repeat (first | with_reducible refine bt v2 ?_ | with_reducible refine bf v2 ?_ | with_reducible refine nt v2 ?_ | with_reducible refine nf v2 ?_ | with_reducible refine And.intro v2 ?_ | with_reducible refine bt v3 ?_ | with_reducible refine bf v3 ?_ | with_reducible refine nt v3 ?_ | with_reducible refine nf v3 ?_ | with_reducible refine And.intro v3 ?_ | with_reducible refine bt v5 ?_ | with_reducible refine bf v5 ?_ | with_reducible refine nt v5 ?_ | with_reducible refine nf v5 ?_ | with_reducible refine And.intro v5 ?_ | with_reducible refine bt z0 ?_ | with_reducible refine bf z0 ?_ | with_reducible refine nt z0 ?_ | with_reducible refine nf z0 ?_ | with_reducible refine And.intro z0 ?_)
        exact run _ rfl
      · subst y
        have z0 : ¬ nI 1 = (0 : Int32) := by decide
        have z1 : nI 1 = (1 : Int32) := by decide
        repeat (first | with_reducible refine bt v2 ?_ | with_reducible refine bf v2 ?_ | with_reducible refine nt v2 ?_ | with_reducible refine nf v2 ?_ | with_reducible refine And.intro v2 ?_ | with_reducible refine bt v3 ?_ | with_reducible refine bf v3 ?_ | with_reducible refine nt v3 ?_ | with_reducible refine nf v3 ?_ | with_reducible refine And.intro v3 ?_ | with_reducible refine bt v5 ?_ | with_reducible refine bf v5 ?_ | with_reducible refine nt v5 ?_ | with_reducible refine nf v5 ?_ | with_reducible refine And.intro v5 ?_ | with_reducible refine bt z0 ?_ | with_reducible refine bf z0 ?_ | with_reducible refine nt z0 ?_ | with_reducible refine nf z0 ?_ | with_reducible refine And.intro z0 ?_ | with_reducible refine bt z1 ?_ | with_reducible refine bf z1 ?_ | with_reducible refine nt z1 ?_ | with_reducible refine nf z1 ?_ | with_reducible refine And.intro z1 ?_)
        exact run _ rfl
      · subst y
        have z0 : ¬ nI 2 = (0 : Int32) := by decide
        have z1 : ¬ nI 2 = (1 : Int32) := by decide
        have z2 : nI 2 = (2 : Int32) := by decide
        repeat (first | with_reducible refine bt v2 ?_ | with_reducible refine bf v2 ?_ | with_reducible refine nt v2 ?_ | with_reducible refine nf v2 ?_ | with_reducible refine And.intro v2 ?_ | with_reducible refine bt v3 ?_ | with_reducible refine bf v3 ?_ | with_reducible refine nt v3 ?_ | with_reducible refine nf v3 ?_ | with_reducible refine And.intro v3 ?_ | with_reducible refine bt v5 ?_ | with_reducible refine bf v5 ?_ | with_reducible refine nt v5 ?_ | with_reducible refine nf v5 ?_ | with_reducible refine And.intro v5 ?_ | with_reducible refine bt z0 ?_ | with_reducible refine bf z0 ?_ | with_reducible refine nt z0 ?_ | with_reducible refine nf z0 ?_ | with_reducible refine And.intro z0 ?_ | with_reducible refine bt z1 ?_ | with_reducible refine bf z1 ?_ | with_reducible refine nt z1 ?_ | with_reducible refine nf z1 ?_ | with_reducible refine And.intro z1 ?_ | with_reducible refine bt z2 ?_ | with_reducible refine bf z2 ?_ | with_reducible refine nt z2 ?_ | with_reducible refine nf z2 ?_ | with_reducible refine And.intro z2 ?_)
        exact run _ rfl
      · subst y
        have z0 : ¬ nI 3 = (0 : Int32) := by decide
        have z1 : ¬ nI 3 = (1 : Int32) := by decide
        have z2 : ¬ nI 3 = (2 : Int32) := by decide
        have z3 : nI 3 = (3 : Int32) := by decide
        repeat (first | with_reducible refine bt v2 ?_ | with_reducible refine bf v2 ?_ | with_reducible refine nt v2 ?_ | with_reducible refine nf v2 ?_ | with_reducible refine And.intro v2 ?_ | with_reducible refine bt v3 ?_ | with_reducible refine bf v3 ?_ | with_reducible refine nt v3 ?_ | with_reducible refine nf v3 ?_ | with_reducible refine And.intro v3 ?_ | with_reducible refine bt v5 ?_ | with_reducible refine bf v5 ?_ | with_reducible refine nt v5 ?_ | with_reducible refine nf v5 ?_ | with_reducible refine And.intro v5 ?_ | with_reducible refine bt z0 ?_ | with_reducible refine bf z0 ?_ | with_reducible refine nt z0 ?_ | with_reducible refine nf z0 ?_ | with_reducible refine And.intro z0 ?_ | with_reducible refine bt z1 ?_ | with_reducible refine bf z1 ?_ | with_reducible refine nt z1 ?_ | with_reducible refine nf z1 ?_ | with_reducible refine And.intro z1 ?_ | with_reducible refine bt z2 ?_ | with_reducible refine bf z2 ?_ | with_reducible refine nt z2 ?_ | with_reducible refine nf z2 ?_ | with_reducible refine And.intro z2 ?_ | with_reducible refine bt z3 ?_ | with_reducible refine bf z3 ?_ | with_reducible refine nt z3 ?_ | with_reducible refine nf z3 ?_ | with_reducible refine And.intro z3 ?_)
        exact run _ rfl
    · have hm : pm_R (D + 200) M_Mo_act [.ref 55, .int (nI v), .int a2, .int a3] (X, H.2) (pm_i fun y H2 => K 0 y H2) := by
        refine m_Mo_act _ _ _ ?_
        have k3' : (X, H.2).1 79 v = nI kd := (o31 79 v (by decide)).trans k3
        rw [show (X, H.2).1 55 42 = nI m from (o31 55 42 (by decide)).trans b3, nIc (show v < 2 ^ 31 by omega), k3']
        have y0 : ¬ a2 = (0 : Int32) := fun z => by rw [z] at ha; exact ha (by decide)
        have y1 : ¬ a2 = (1 : Int32) := fun z => by rw [z] at ha; exact ha (by decide)
        have y2 : ¬ a2 = (2 : Int32) := fun z => by rw [z] at ha; exact ha (by decide)
        have y3 : ¬ a2 = (3 : Int32) := fun z => by rw [z] at ha; exact ha (by decide)
        repeat (first | with_reducible refine bt v2 ?_ | with_reducible refine bf v2 ?_ | with_reducible refine nt v2 ?_ | with_reducible refine nf v2 ?_ | with_reducible refine And.intro v2 ?_ | with_reducible refine bt v3 ?_ | with_reducible refine bf v3 ?_ | with_reducible refine nt v3 ?_ | with_reducible refine nf v3 ?_ | with_reducible refine And.intro v3 ?_ | with_reducible refine bt v5 ?_ | with_reducible refine bf v5 ?_ | with_reducible refine nt v5 ?_ | with_reducible refine nf v5 ?_ | with_reducible refine And.intro v5 ?_ | with_reducible refine bt y0 ?_ | with_reducible refine bf y0 ?_ | with_reducible refine nt y0 ?_ | with_reducible refine nf y0 ?_ | with_reducible refine And.intro y0 ?_ | with_reducible refine bt y1 ?_ | with_reducible refine bf y1 ?_ | with_reducible refine nt y1 ?_ | with_reducible refine nf y1 ?_ | with_reducible refine And.intro y1 ?_ | with_reducible refine bt y2 ?_ | with_reducible refine bf y2 ?_ | with_reducible refine nt y2 ?_ | with_reducible refine nf y2 ?_ | with_reducible refine And.intro y2 ?_ | with_reducible refine bt y3 ?_ | with_reducible refine bf y3 ?_ | with_reducible refine nt y3 ?_ | with_reducible refine nf y3 ?_ | with_reducible refine And.intro y3 ?_)
        refine fin0 _ (((fr.rf.up (o := 55) rfl).up (o := 55) rfl).up (o := 55) rfl) ?_
        show pm_up (pm_up (pm_up X 55 45 (0 : Int32)) 55 46 (nI kd)) 55 47 (nI v) 55 45 = _
        rw [pm_up_self, pk_un (by decide), pm_up_self, pk_un (by decide), pm_up_self, pk_us]
      by_cases w0 : a2 < (0 : Int32)
      · repeat (first | with_reducible refine bt w0 ?_ | with_reducible refine bf w0 ?_ | with_reducible refine nt w0 ?_ | with_reducible refine nf w0 ?_ | with_reducible refine And.intro w0 ?_)
        exact hm
      · have w1 : ¬ a2 ≤ (3 : Int32) := fun z => by
          rw [t_lt] at w0
          rw [t_le, u32_3] at z
          exact ha ⟨by omega, by omega⟩
        repeat (first | with_reducible refine bt w0 ?_ | with_reducible refine bf w0 ?_ | with_reducible refine nt w0 ?_ | with_reducible refine nf w0 ?_ | with_reducible refine And.intro w0 ?_ | with_reducible refine bt w1 ?_ | with_reducible refine bf w1 ?_ | with_reducible refine nt w1 ?_ | with_reducible refine nf w1 ?_ | with_reducible refine And.intro w1 ?_)
        exact hm
  · have hm : pm_R (D + 200) M_Mo_act [.ref 55, .int a1, .int a2, .int a3] (X, H.2) (pm_i fun y H2 => K 0 y H2) := by
      refine m_Mo_act _ _ _ ?_
      rw [show (X, H.2).1 55 42 = nI m from (o31 55 42 (by decide)).trans b3]
      have last : K 0 0 (pm_up X 55 45 (0 : Int32), H.2) := by
        refine fin0 _ (fr.rf.up (o := 55) rfl) ?_
        show pm_up X 55 45 (0 : Int32) 55 45 = _
        rw [pm_up_self, pk_us]
      by_cases w0 : a1.toInt < 0
      · have q0 : lg_cmp a1.toInt64 (0 : Int64) < 0 := by rw [lgl, i2l_t]; exact w0
        first | refine bt q0 ?_ | refine bf q0 ?_ | refine nt q0 ?_ | refine nf q0 ?_
        exact last
      · have q0 : ¬ lg_cmp a1.toInt64 (0 : Int64) < 0 := by rw [lgl, i2l_t]; exact w0
        have q1 : 0 < lg_cmp a1.toInt64 ((nI m - (1 : Int32)).toInt64) := by rw [lgg, i2l_t, i2l_t]; omega
        first | refine bt q0 ?_ | refine bf q0 ?_ | refine nt q0 ?_ | refine nf q0 ?_
        first | refine bt q1 ?_ | refine bf q1 ?_ | refine nt q1 ?_ | refine nf q1 ?_
        exact last
    by_cases w0 : a1 < (0 : Int32)
    · repeat (first | with_reducible refine bt w0 ?_ | with_reducible refine bf w0 ?_ | with_reducible refine nt w0 ?_ | with_reducible refine nf w0 ?_ | with_reducible refine And.intro w0 ?_)
      exact hm
    · have w1 : ¬ a1 ≤ nI m - (1 : Int32) := fun z => by
        rw [t_lt] at w0
        rw [t_le, em] at z
        exact hbd ⟨by omega, by omega⟩
      repeat (first | with_reducible refine bt w0 ?_ | with_reducible refine bf w0 ?_ | with_reducible refine nt w0 ?_ | with_reducible refine nf w0 ?_ | with_reducible refine And.intro w0 ?_ | with_reducible refine bt w1 ?_ | with_reducible refine bf w1 ?_ | with_reducible refine nt w1 ?_ | with_reducible refine nf w1 ?_ | with_reducible refine And.intro w1 ?_)
      exact hm
