/-! calls in pairs: in deed -/
theorem lf.f1 {H H' : pmT} (a : lf H H') : f1 [1402, 1403, 1405, 1407, 1500, 1600, 1700] H H' := by
  intro o k h
  refine a.1 o k (fun z => ?_) (fun z => ?_)
  · rcases (show o = 15 ∨ o = 16 ∨ o = 17 by omega) with e | e | e <;> subst e
    · exact absurd (show pm_has [1402, 1403, 1405, 1407, 1500, 1600, 1700] 1500 = false from h) (by decide)
    · exact absurd (show pm_has [1402, 1403, 1405, 1407, 1500, 1600, 1700] 1600 = false from h) (by decide)
    · exact absurd (show pm_has [1402, 1403, 1405, 1407, 1500, 1600, 1700] 1700 = false from h) (by decide)
  · subst z
    refine ⟨fun e => ?_, fun e => ?_, fun e => ?_, fun e => ?_⟩ <;> subst e <;> exact absurd h (by decide)
theorem f1.tr {S S' : List Nat} {H H1 H2 : pmT} (a : f1 S H H1) (b : f1 S' H1 H2) : f1 (S ++ S') H H2 := by
  intro o k h
  have hs : ∀ (A B : List Nat) c, pm_has (A ++ B) c = (pm_has A c || pm_has B c) := by
    intro A B c
    induction A with
    | nil => rfl
    | cons x r ih => show (Nat.beq x c || pm_has (r ++ B) c) = ((Nat.beq x c || pm_has r c) || pm_has B c); rw [ih, Bool.or_assoc]
  rw [hs, Bool.or_eq_false_iff] at h
  exact (b o k h.2).trans (a o k h.1)
theorem p_feed {D t : Nat} {H : pmT} {K : Int32 → Int32 → pmT → Prop} (a1 : Int32) (hR : Rel t H) (ht : t ≤ 1000) (kk : ∀ x H', Rel (t + 1) H' → K x x H') : pm_R (D + 200) M_PW_feed [.ref 0, .int a1] H (pm_i fun x H1 => pm_R (D + 200) M_Mo_feed [.ref 55, .int a1] H1 (pm_i fun y H2 => K x y H2)) := by
  obtain ⟨hb, L, n, now, m, hN, hT, hD⟩ := id hR
  have hC := hN.cs ht
  have hM := hN.ms ht
  have hn12 := hC.2.2.1
  have hB := hT.2.2.2.1
  have hSh := hT.2.2.2.2.2.1
  have en : (nI n - (1 : Int32)).toInt = (n : Int) - 1 := nm1_t (by omega)
  have hR1 : Rel (t + 1) H := hR.mono (Nat.le_succ _)
  obtain ⟨tn, tt, ⟨c1, c2, c3, c4⟩, m1, m2, m3⟩ := hT.2.1
  by_cases hok : 0 ≤ a1.toInt ∧ a1.toInt ≤ 255
  · obtain ⟨p1, p2⟩ := hok
    obtain ⟨v, _, rfl, ev⟩ := nI_tI a1 p1
    have v0 : ¬ nI v < (0 : Int32) := nI_pos (by omega)
    have v1 : nI v ≤ (255 : Int32) := nI_le (show v ≤ 255 by omega) (by decide)
    have v2 : ¬ lg_cmp (nI v).toInt64 (0 : Int64) < 0 := l_0 (by omega)
    have v3 : ¬ 0 < lg_cmp (nI v).toInt64 (255 : Int64) := l_c (by omega) (by show (v : Int) ≤ 255; omega)
    have v4 : (nI v).toNatClampNeg = v := nIc (by omega)
    by_cases cf : tn < 120
    · have z1 : nI tn < (120 : Int32) := nI_lt cf (by decide)
      have z2 : ¬ nI tn = (120 : Int32) := fun z => by have := (nI_eq (a := tn) (b := 120) (by omega) (by decide)).mp z; omega
      refine m_PW_feed _ ?_
      rw [c1, nIc (show tn < 2 ^ 31 by omega), show nI tn + (1 : Int32) = nI (tn + 1) from nI_1 tn]
      repeat (first | with_reducible refine bt v0 ?_ | with_reducible refine bf v0 ?_ | with_reducible refine nt v0 ?_ | with_reducible refine nf v0 ?_ | with_reducible refine And.intro v0 ?_ | with_reducible refine bt v1 ?_ | with_reducible refine bf v1 ?_ | with_reducible refine nt v1 ?_ | with_reducible refine nf v1 ?_ | with_reducible refine And.intro v1 ?_ | with_reducible refine bt z1 ?_ | with_reducible refine bf z1 ?_ | with_reducible refine nt z1 ?_ | with_reducible refine nf z1 ?_ | with_reducible refine And.intro z1 ?_)
      refine ⟨vp_in_nI cf (by decide), ?_⟩
      have f1c : fr [1500, 1402] H (pm_up (pm_up H.1 15 tn (nI v)) 14 1 (nI (tn + 1)), H.2) := (fr.rf.up (o := 15) rfl).up (o := 14) rfl
      refine m_Mo_feed _ ?_
      rw [show (pm_up (pm_up H.1 15 tn (nI v)) 14 1 (nI (tn + 1)), H.2).1 55 10 = nI tn from (f1c.1 55 10 rfl).trans m1, nIc (show tn < 2 ^ 31 by omega), show nI tn + (1 : Int32) = nI (tn + 1) from nI_1 tn]
      repeat (first | with_reducible refine bt v2 ?_ | with_reducible refine bf v2 ?_ | with_reducible refine nt v2 ?_ | with_reducible refine nf v2 ?_ | with_reducible refine And.intro v2 ?_ | with_reducible refine bt v3 ?_ | with_reducible refine bf v3 ?_ | with_reducible refine nt v3 ?_ | with_reducible refine nf v3 ?_ | with_reducible refine And.intro v3 ?_ | with_reducible refine bt z2 ?_ | with_reducible refine bf z2 ?_ | with_reducible refine nt z2 ?_ | with_reducible refine nf z2 ?_ | with_reducible refine And.intro z2 ?_)
      refine ⟨vp_in_nI cf (by decide), ?_⟩
      generalize hH1 : ((pm_up (pm_up H.1 15 tn (nI v)) 14 1 (nI (tn + 1)), H.2) : pmT) = H1 at f1c
      have f1m : fr [6200, 5511] H1 (pm_up (pm_up H1.1 62 tn (nI v)) 55 10 (nI (tn + 1)), H1.2) := (fr.rf.up (o := 62) rfl).up (o := 55) rfl
      have f : fr [1500, 1402, 6200, 5511] H (pm_up (pm_up H1.1 62 tn (nI v)) 55 10 (nI (tn + 1)), H1.2) := (f1c.mono rfl).tr (f1m.mono rfl)
      obtain ⟨t1, t2, t3, t4, t5, t6, t7, t8⟩ := hT
      have e1 : ∀ j, H1.1 15 j = upd (H.1 15) tn (nI v) j := fun j => by
        rw [← hH1]
        show pm_up (pm_up H.1 15 tn (nI v)) 14 1 (nI (tn + 1)) 15 j = _
        rw [pm_up_ne _ _ _ (by decide), pm_up_self]
      have e2 : H1.1 14 1 = nI (tn + 1) := by
        rw [← hH1]
        show pm_up (pm_up H.1 15 tn (nI v)) 14 1 (nI (tn + 1)) 14 1 = _
        rw [pm_up_self, pk_us]
      refine kk _ _ ⟨hb, L, n, now, m, (hN.f1 f.f1 (by rw [f.2]) rfl).mono (Nat.le_succ _), ⟨t1.f1 f.f1 rfl, ⟨tn + 1, fun j => if j = tn then nI v else tt j, ⟨(f1m.1 14 1 rfl).trans e2, cf, fun j hj => ?_, by rw [f.2]; exact c4⟩, ?_, cf, fun j hj => ?_⟩, t3.f1 f.f1 rfl, t4.f1 f.f1 rfl, t5.f1 f.f1 rfl, fun d hd => (t6 d hd).f1 hd f.f1 (by rw [f.2]) rfl, t7.f1 f.f1 rfl, (t8.f1 f.f1 rfl).mono (Nat.le_succ _)⟩, hD.f1 f.f1 rfl⟩
      · rw [f1m.1 15 j rfl, e1 j]
        show upd (H.1 15) tn (nI v) j = if j = tn then nI v else tt j
        by_cases z : j = tn
        · rw [if_pos z, z, pk_us]
        · rw [if_neg z, pk_un z]; exact c3 j (by omega)
      · show pm_up (pm_up H1.1 62 tn (nI v)) 55 10 (nI (tn + 1)) 55 10 = _
        rw [pm_up_self, pk_us]
      · show pm_up (pm_up H1.1 62 tn (nI v)) 55 10 (nI (tn + 1)) 62 j = if j = tn then nI v else tt j
        rw [pm_up_ne _ _ _ (by decide), pm_up_self]
        by_cases z : j = tn
        · rw [if_pos z, z, pk_us]
        · rw [if_neg z, pk_un z, f1c.1 62 j rfl]; exact m3 j (by omega)
    · have z1 : ¬ nI tn < (120 : Int32) := nI_nlt (a := tn) (b := 120) (by omega) (by omega)
      have z2 : nI tn = (120 : Int32) := by rw [show tn = 120 by omega]; rfl
      refine m_PW_feed _ ?_
      rw [c1]
      repeat (first | with_reducible refine bt v0 ?_ | with_reducible refine bf v0 ?_ | with_reducible refine nt v0 ?_ | with_reducible refine nf v0 ?_ | with_reducible refine And.intro v0 ?_ | with_reducible refine bt v1 ?_ | with_reducible refine bf v1 ?_ | with_reducible refine nt v1 ?_ | with_reducible refine nf v1 ?_ | with_reducible refine And.intro v1 ?_ | with_reducible refine bt z1 ?_ | with_reducible refine bf z1 ?_ | with_reducible refine nt z1 ?_ | with_reducible refine nf z1 ?_ | with_reducible refine And.intro z1 ?_)
      refine m_Mo_feed _ ?_
      rw [m1]
      repeat (first | with_reducible refine bt v2 ?_ | with_reducible refine bf v2 ?_ | with_reducible refine nt v2 ?_ | with_reducible refine nf v2 ?_ | with_reducible refine And.intro v2 ?_ | with_reducible refine bt v3 ?_ | with_reducible refine bf v3 ?_ | with_reducible refine nt v3 ?_ | with_reducible refine nf v3 ?_ | with_reducible refine And.intro v3 ?_ | with_reducible refine bt z2 ?_ | with_reducible refine bf z2 ?_ | with_reducible refine nt z2 ?_ | with_reducible refine nf z2 ?_ | with_reducible refine And.intro z2 ?_)
      exact kk _ _ hR1
  · have hm : pm_R (D + 200) M_Mo_feed [.ref 55, .int a1] H (pm_i fun y H2 => K (-1) y H2) := by
      refine m_Mo_feed _ ?_
      try rw [hM.2.1]
      ((try (simp only [lgl, lgg, i2l_t, u32_0, u64_0, u32_1, u64_1, u32_2, u64_2, u32_3, u64_3, u32_4, u64_4, u32_5, u64_5, u32_7, u64_7, u32_12, u64_12, u32_24, u64_24, u32_30, u64_30, u32_49, u64_49, u32_60, u64_60, u32_99, u64_99, u32_255, u64_255, u32_999, u64_999, en])); (try (simp only [t_lt, t_le, u32_0, u64_0, u32_1, u64_1, u32_2, u64_2, u32_3, u64_3, u32_4, u64_4, u32_5, u64_5, u32_7, u64_7, u32_12, u64_12, u32_24, u64_24, u32_30, u64_30, u32_49, u64_49, u32_60, u64_60, u32_99, u64_99, u32_255, u64_255, u32_999, u64_999, en])); repeat' (first | with_reducible intro hh | with_reducible apply And.intro | exact vp_in_iff.mpr (by omega) | (exfalso; omega) | exact kk _ _ hR1))
    refine m_PW_feed _ ?_
    try rw [hC.2.1]
    ((try (simp only [lgl, lgg, i2l_t, u32_0, u64_0, u32_1, u64_1, u32_2, u64_2, u32_3, u64_3, u32_4, u64_4, u32_5, u64_5, u32_7, u64_7, u32_12, u64_12, u32_24, u64_24, u32_30, u64_30, u32_49, u64_49, u32_60, u64_60, u32_99, u64_99, u32_255, u64_255, u32_999, u64_999, en])); (try (simp only [t_lt, t_le, u32_0, u64_0, u32_1, u64_1, u32_2, u64_2, u32_3, u64_3, u32_4, u64_4, u32_5, u64_5, u32_7, u64_7, u32_12, u64_12, u32_24, u64_24, u32_30, u64_30, u32_49, u64_49, u32_60, u64_60, u32_99, u64_99, u32_255, u64_255, u32_999, u64_999, en])); repeat' (first | with_reducible intro hh | with_reducible apply And.intro | exact vp_in_iff.mpr (by omega) | (exfalso; omega) | exact hm))
theorem p_law {D t : Nat} {H : pmT} {K : Int32 → Int32 → pmT → Prop} (hR : Rel t H) (ht : t ≤ 1000) (kk : ∀ x H', Rel (t + 1) H' → K x x H') : pm_R (D + 200) M_PW_law [.ref 0] H (pm_i fun x H1 => pm_R (D + 200) M_Mo_law [.ref 55] H1 (pm_i fun y H2 => K x y H2)) := by
  obtain ⟨hb, L, n, now, m, hN, hT, hD⟩ := id hR
  have hC := hN.cs ht
  have hM := hN.ms ht
  have hn12 := hC.2.2.1
  have hB := hT.2.2.2.1
  have hSh := hT.2.2.2.2.2.1
  have en : (nI n - (1 : Int32)).toInt = (n : Int) - 1 := nm1_t (by omega)
  have hR1 : Rel (t + 1) H := hR.mono (Nat.le_succ _)
  obtain ⟨tn, tt, hTC, hTM⟩ := hT.2.1
  obtain ⟨t1, t2, t3, t4, t5, t6, t7, t8⟩ := hT
  have fin : ∀ (L' : Law) (H1 H2 : pmT), lf H H1 → fr JL H1 H2 → TapC tt 0 H1 → LawC L' H1 → TapM tt 0 H2 → LawM L' H2 → Rel (t + 1) H2 := by
    intro L' H1 H2 a b q1 q2 q3 q4
    have f := a.f1.tr b.f1
    have e1 : H2.2.1 = H.2.1 := by rw [b.2]; exact a.2
    refine ⟨hb, L', n, now, m, ⟨⟨hN.1.1.f1 f rfl, hN.1.2.1, q2.fr b rfl⟩, ⟨hN.2.1.1.f1 f rfl, hN.2.1.2.1, q4⟩, (f.at rfl (show 201 ∈ [201] by decide)).trans hN.2.2.1, (f.at rfl (show 5507 ∈ [5507] by decide)).trans hN.2.2.2.1, hn12, fun b' hb' => ⟨(hN.2.2.2.2.2 b' hb').1.f1 f rfl, (hN.2.2.2.2.2 b' hb').2.1.f1 f rfl, (hN.2.2.2.2.2 b' hb').2.2.mono (Nat.le_succ _)⟩⟩, ⟨t1.f1 f rfl, ⟨0, tt, ⟨(b.1 14 1 rfl).trans q1.1, by decide, fun j hj => absurd hj (Nat.not_lt_zero _), by rw [b.2]; exact q1.2.2.2⟩, q3⟩, t3.f1 f rfl, t4.f1 f rfl, t5.f1 f rfl, fun d hd => (t6 d hd).f1 hd f e1 rfl, t7.f1 f rfl, (t8.f1 f rfl).mono (Nat.le_succ _)⟩, hD.f1 f rfl⟩
  refine m_PW_law ?_
  refine c_enact (d := D + 13) hTC hC.1.2.2 (fun q eq H1 a q1 q2 => ?_) (fun r er H1 a q1 q2 => ?_)
  · have f := a.f1
    have hTM1 : TapM tt tn H1 := ⟨(f.at rfl (show 5511 ∈ [5511] by decide)).trans hTM.1, hTM.2.1, fun j hj => (f.at rfl (show 6200 ∈ [6200] by decide)).trans (hTM.2.2 j hj)⟩
    refine c_lawM (d := D + 129) hTM1 (hM.1.2.2.f1 f rfl) (fun q' eq' H2 b q3 q4 => ?_) (fun r er => ?_)
    · rw [eq] at eq'
      cases eq'
      exact kk _ _ (fin L H1 H2 a b q1 q2 q3 q4)
    · rw [eq] at er; cases er
  · have f := a.f1
    have hTM1 : TapM tt tn H1 := ⟨(f.at rfl (show 5511 ∈ [5511] by decide)).trans hTM.1, hTM.2.1, fun j hj => (f.at rfl (show 6200 ∈ [6200] by decide)).trans (hTM.2.2 j hj)⟩
    refine c_lawM (d := D + 129) hTM1 (hM.1.2.2.f1 f rfl) (fun q' eq' => ?_) (fun r' er' H2 b q3 q4 => ?_)
    · rw [er] at eq'; cases eq'
    · rw [er] at er'
      cases er'
      exact kk _ _ (fin (some r.1) H1 H2 a b q1 q2 q3 q4)
/-! what the reference lays back into its rows -/
abbrev JY : List Nat := [5600, 6000, 6100]
theorem lp_lays {d n : Nat} {T : Nat → Row} {K : pmT → Prop} {H0 : pmT} (hn12 : n ≤ 12) (hn : H0.1 55 6 = nI n) (hT : ∀ b, b < n → MR H0 b (T b)) (kk : ∀ H', fr JY H0 H' → (∀ b, b < n → PR H' b (T b)) → (∀ k, 24 ≤ k → H'.1 56 k = H0.1 56 k) → K H') : ∀ (m b : Nat) (H : pmT), b + m = n → fr JY H0 H → (∀ b', b' < b → PR H b' (T b')) → (∀ k, 24 ≤ k → H.1 56 k = H0.1 56 k) → pm_RW none d M_Mo_lays (pm_v K) 2 [(0, .ref 55), (1, .int (nI b))] [] H
  | 0, b, H, hb, hf, h1, h2 => by
    refine b_Mo_lays_2 _ ?_
    rw [show H.1 55 6 = nI n from (hf.1 55 6 rfl).trans hn]
    first | refine bt (nI_le (show n ≤ b by omega) (show b < 2 ^ 31 by omega)) ?_ | refine bf (nI_le (show n ≤ b by omega) (show b < 2 ^ 31 by omega)) ?_ | refine nt (nI_le (show n ≤ b by omega) (show b < 2 ^ 31 by omega)) ?_ | refine nf (nI_le (show n ≤ b by omega) (show b < 2 ^ 31 by omega)) ?_
    exact kk H hf (fun b' h => h1 b' (by omega)) h2
  | m + 1, b, H, hb, hf, h1, h2 => by
    have ih := lp_lays (d := d) hn12 hn hT kk m
    refine b_Mo_lays_2 _ ?_
    rw [show H.1 55 6 = nI n from (hf.1 55 6 rfl).trans hn, nI12, nIc (show b < 2 ^ 31 by omega), nIc (show 12 + b < 2 ^ 31 by omega), show nI b + (1 : Int32) = nI (b + 1) from nI_1 b]
    first | refine bt (nI_ge (show b < n by omega) (by omega)) ?_ | refine bf (nI_ge (show b < n by omega) (by omega)) ?_ | refine nt (nI_ge (show b < n by omega) (by omega)) ?_ | refine nf (nI_ge (show b < n by omega) (by omega)) ?_
    obtain ⟨q1, q2, q3, q4, q5⟩ := hT b (by omega)
    rw [show H.1 65 b = _ from (hf.1 65 b rfl).trans q1, show H.1 66 b = _ from (hf.1 66 b rfl).trans q2, show H.1 67 b = _ from (hf.1 67 b rfl).trans q4, show H.1 68 b = _ from (hf.1 68 b rfl).trans q5]
    refine ⟨vp_in_nI (by omega) (by decide), vp_in_nI (by omega) (by decide), vp_in_nI (by omega) (by decide), ?_⟩
    have e56 : ∀ k, (pm_up (pm_up (pm_up (pm_up H.1 56 b (nI (T b).1)) 56 (12 + b) (nI (T b).2.1)) 60 b (nI (T b).2.2.2.1)) 61 b (nI (T b).2.2.2.2)) 56 k = upd (upd (H.1 56) b (nI (T b).1)) (12 + b) (nI (T b).2.1) k := fun k => by
      rw [pm_up_ne _ _ _ (by decide), pm_up_ne _ _ _ (by decide), pm_up_self, pm_up_self]
    have f2 : fr JY H (pm_up (pm_up (pm_up (pm_up H.1 56 b (nI (T b).1)) 56 (12 + b) (nI (T b).2.1)) 60 b (nI (T b).2.2.2.1)) 61 b (nI (T b).2.2.2.2), H.2) := (((fr.rf.up (o := 56) rfl).up (o := 56) rfl).up (o := 60) rfl).up (o := 61) rfl
    refine ih (b + 1) _ (by omega) (hf.tr f2) (fun b' hb' => ?_) (fun k hk => ?_)
    · have e60 : (pm_up (pm_up (pm_up (pm_up H.1 56 b (nI (T b).1)) 56 (12 + b) (nI (T b).2.1)) 60 b (nI (T b).2.2.2.1)) 61 b (nI (T b).2.2.2.2)) 60 b' = upd (H.1 60) b (nI (T b).2.2.2.1) b' := by
        rw [pm_up_ne _ _ _ (by decide), pm_up_self, pm_up_ne _ _ _ (by decide), pm_up_ne _ _ _ (by decide)]
      have e61 : (pm_up (pm_up (pm_up (pm_up H.1 56 b (nI (T b).1)) 56 (12 + b) (nI (T b).2.1)) 60 b (nI (T b).2.2.2.1)) 61 b (nI (T b).2.2.2.2)) 61 b' = upd (H.1 61) b (nI (T b).2.2.2.2) b' := by
        rw [pm_up_self, pm_up_ne _ _ _ (by decide), pm_up_ne _ _ _ (by decide), pm_up_ne _ _ _ (by decide)]
      by_cases z : b' = b
      · subst z
        refine ⟨(e56 _).trans ?_, (e56 _).trans pk_us, (e56 _).trans ?_, e60.trans pk_us, e61.trans pk_us⟩
        · rw [pk_un (by omega), pk_us]
        · rw [pk_un (by omega), pk_un (by omega), h2 _ (by omega)]; exact q3
      · obtain ⟨w1, w2, w3, w4, w5⟩ := h1 b' (by omega)
        refine ⟨(e56 _).trans ?_, (e56 _).trans ?_, (e56 _).trans ?_, (e60.trans (pk_un z)).trans w4, (e61.trans (pk_un z)).trans w5⟩
        · rw [pk_un (by omega), pk_un z]; exact w1
        · rw [pk_un (by omega), pk_un (by omega)]; exact w2
        · rw [pk_un (by omega), pk_un (by omega)]; exact w3
    · exact (e56 k).trans (by rw [pk_un (by omega), pk_un (by omega)]; exact h2 k hk)
theorem c_lays {d n : Nat} {T : Nat → Row} {K : pmT → Prop} {H : pmT} (hn12 : n ≤ 12) (hn : H.1 55 6 = nI n) (hT : ∀ b, b < n → MR H b (T b)) (kk : ∀ H', fr JY H H' → (∀ b, b < n → PR H' b (T b)) → (∀ k, 24 ≤ k → H'.1 56 k = H.1 56 k) → K H') : pm_R d M_Mo_lays [.ref 55] H (pm_v K) := by
  refine m_Mo_lays ?_
  exact lp_lays hn12 hn hT kk n 0 H (by omega) fr.rf (fun b' h => by omega) (fun _ _ => rfl)
theorem MHb.of56 {hb : Nat → Nat} {H H' : pmT} (h : MHb hb H) (e : ∀ k, 24 ≤ k → H'.1 56 k = H.1 56 k) : MHb hb H' :=
  ⟨(e 36 (by decide)).trans h.1, (e 37 (by decide)).trans h.2.1, (e 38 (by decide)).trans h.2.2.1, (e 39 (by decide)).trans h.2.2.2.1, (e 40 (by decide)).trans h.2.2.2.2⟩
theorem vaT_at {T : Nat → Row} {b : Nat} {r : Row} {j : Nat} : va_up T b r j = if j = b then r else T j := rfl
theorem p_play {D t : Nat} {H : pmT} {K : Int32 → Int32 → pmT → Prop} (a1 a2 : Int32) (hR : Rel t H) (ht : t ≤ 1000) (kk : ∀ x H', Rel (t + 1) H' → K x x H') : pm_R (D + 200) M_PW_play [.ref 0, .int a1, .int a2] H (pm_i fun x H1 => pm_R (D + 200) M_Mo_play [.ref 55, .int a1, .int a2] H1 (pm_i fun y H2 => K x y H2)) := by
  obtain ⟨hb, L, n, now, m, hN, hT, hD⟩ := id hR
  have hC := hN.cs ht
  have hM := hN.ms ht
  have hn12 := hC.2.2.1
  have hB := hT.2.2.2.1
  have hSh := hT.2.2.2.2.2.1
  have en : (nI n - (1 : Int32)).toInt = (n : Int) - 1 := nm1_t (by omega)
  have hR1 : Rel (t + 1) H := hR.mono (Nat.le_succ _)
  by_cases hok : (0 ≤ a1.toInt ∧ a1.toInt < n) ∧ (0 ≤ a2.toInt ∧ a2.toInt ≤ 1)
  · obtain ⟨⟨p1, p2⟩, p3, p4⟩ := hok
    obtain ⟨b, _, rfl, eb⟩ := nI_tI a1 p1
    obtain ⟨s, _, rfl, es⟩ := nI_tI a2 p3
    have hbb : b < n := by omega
    have hs : s ≤ 1 := by omega
    have b0 : ¬ nI b < (0 : Int32) := nI_pos (by omega)
    have b1 : nI b ≤ nI n - (1 : Int32) := le_pred hbb (by omega)
    have b2 : ¬ lg_cmp (nI b).toInt64 (0 : Int64) < 0 := l_0 (by omega)
    have b3 : ¬ 0 < lg_cmp (nI b).toInt64 ((nI n - (1 : Int32)).toInt64) := l_n hbb (by omega)
    have b4 : (nI b).toNatClampNeg = b := nIc (by omega)
    have b5 : vp_in (nI b) 12 := vp_in_nI (by omega) (by decide)
    have s0 : ¬ nI s < (0 : Int32) := nI_pos (by omega)
    have s1 : nI s ≤ (1 : Int32) := nI_le (show s ≤ 1 by omega) (by decide)
    have s2 : ¬ lg_cmp (nI s).toInt64 (0 : Int64) < 0 := l_0 (by omega)
    have s3 : ¬ 0 < lg_cmp (nI s).toInt64 (1 : Int64) := l_c (by omega) (by show (s : Int) ≤ 1; omega)
    have s4 : (nI s).toNatClampNeg = s := nIc (by omega)
    obtain ⟨t1, t2, t3, t4, t5, t6, t7, t8⟩ := hT
    have hNb := hN.2.2.2.2.2
    have hcl := W_came_le hb (now b) s
    refine m_PW_play _ _ ?_
    rw [hC.2.1]
    repeat (first | with_reducible refine bt b0 ?_ | with_reducible refine bf b0 ?_ | with_reducible refine nt b0 ?_ | with_reducible refine nf b0 ?_ | with_reducible refine And.intro b0 ?_ | with_reducible refine bt b1 ?_ | with_reducible refine bf b1 ?_ | with_reducible refine nt b1 ?_ | with_reducible refine nf b1 ?_ | with_reducible refine And.intro b1 ?_ | with_reducible refine bt s0 ?_ | with_reducible refine bf s0 ?_ | with_reducible refine nt s0 ?_ | with_reducible refine nf s0 ?_ | with_reducible refine And.intro s0 ?_ | with_reducible refine bt s1 ?_ | with_reducible refine bf s1 ?_ | with_reducible refine nt s1 ?_ | with_reducible refine nf s1 ?_ | with_reducible refine And.intro s1 ?_)
    refine c_playOnce_now (d := D + 196) hC.1 (hNb b hbb).1 (hNb b hbb).2.2 (by omega) (by omega) hs (fun H1 f1 hR1' _ => ?_)
    have f1f : fr [105, 1800, 1900, 300, 400, 600, 700] H H1 := f1.fr rfl rfl
    generalize hHc : ((pm_up (pm_up H1.1 35 0 (H1.1 35 0 + (1 : Int32))) 35 1 (H1.1 35 1 + nI (W_came hb (now b) s)), H1.2) : pmT) = Hc
    have f2 : fr [3500] H1 Hc := by rw [← hHc]; exact (fr.rf.up (o := 35) rfl).up (o := 35) rfl
    have fC : fr [105, 1800, 1900, 300, 400, 600, 700, 3500] H Hc := (f1f.mono rfl).tr (f2.mono rfl)
    have hMc : MS hb L n now Hc := ⟨hM.1.fr fC rfl rfl, (fC.1 55 6 rfl).trans hM.2.1, hn12, fun b' h => (hM.2.2.2.1 b' h).fr fC rfl, hM.2.2.2.2⟩
    refine m_Mo_play _ _ ?_
    rw [hMc.2.1]
    repeat (first | with_reducible refine bt b2 ?_ | with_reducible refine bf b2 ?_ | with_reducible refine nt b2 ?_ | with_reducible refine nf b2 ?_ | with_reducible refine And.intro b2 ?_ | with_reducible refine bt b3 ?_ | with_reducible refine bf b3 ?_ | with_reducible refine nt b3 ?_ | with_reducible refine nf b3 ?_ | with_reducible refine And.intro b3 ?_ | with_reducible refine bt s2 ?_ | with_reducible refine bf s2 ?_ | with_reducible refine nt s2 ?_ | with_reducible refine nf s2 ?_ | with_reducible refine And.intro s2 ?_ | with_reducible refine bt s3 ?_ | with_reducible refine bf s3 ?_ | with_reducible refine nt s3 ?_ | with_reducible refine nf s3 ?_ | with_reducible refine And.intro s3 ?_)
    refine c_begins hMc (fun H2 f3 hT2 ef => ?_)
    have hM2 := hMc.fr (f3.mono rfl)
    refine c_playsM (d := D + 127) hM2.1 (hT2 b hbb) (hM2.2.2.2.2 b hbb) (by decide) (by omega) hs (fun H3 f4 hR3 => ?_)
    have f4f : fr JP H2 H3 := f4.fr rfl rfl
    have hM3 := hM2.fr (f4f.mono rfl)
    have hT3 : ∀ b', b' < n → MR H3 b' (va_up now b (W_play hb L (now b) s) b') := fun b' h => by
      rw [vaT_at]
      by_cases z : b' = b
      · rw [if_pos z, z]; exact hR3
      · rw [if_neg z]; exact (hT2 b' h).fb f4 rfl rfl z
    have f23 : fr (JB ++ JP) Hc H3 := (f3.mono rfl).tr (f4f.mono rfl)
    have fin : ∀ (x : Int32) (H4 : pmT), x = nI (W_came hb (now b) s) → fr JY H3 H4 → (∀ b', b' < n → PR H4 b' (va_up now b (W_play hb L (now b) s) b')) → (∀ k, 24 ≤ k → H4.1 56 k = H3.1 56 k) → Rel (t + 1) (pm_up (pm_up H4.1 55 34 (H4.1 55 34 + (1 : Int32))) 55 35 (H4.1 55 35 + x), H4.2) := by
      intro x H4 ex f5 hP4 h56
      have f6 : fr [5535, 5536] H4 (pm_up (pm_up H4.1 55 34 (H4.1 55 34 + (1 : Int32))) 55 35 (H4.1 55 35 + x), H4.2) := (fr.rf.up (o := 55) rfl).up (o := 55) rfl
      generalize hHe : ((pm_up (pm_up H4.1 55 34 (H4.1 55 34 + (1 : Int32))) 55 35 (H4.1 55 35 + x), H4.2) : pmT) = He at f6
      have fM : fr (JB ++ JP ++ JY ++ [5535, 5536]) Hc He := (f23.mono rfl).tr ((f5.mono rfl).tr (f6.mono rfl))
      have fA : fr ([105, 1800, 1900, 300, 400, 600, 700, 3500] ++ (JB ++ JP ++ JY ++ [5535, 5536])) H He := (fC.mono rfl).tr (fM.mono rfl)
      have hX3 : MX hb L H3 := hM3.1
      have hNow : ∀ b', b' < n → NR He b' (va_up now b (W_play hb L (now b) s) b') := fun b' h => by
        refine NR.fr (S := [3500] ++ (JB ++ JP ++ JY ++ [5535, 5536])) (H := H1) ?_ ((f2.mono rfl).tr (fM.mono rfl)) rfl
        rw [vaT_at]
        by_cases z : b' = b
        · rw [if_pos z, z]; exact hR1'
        · rw [if_neg z]; exact (hNb b' h).1.fb f1 rfl z
      have el : ∀ k, Hc.1 35 k = upd (upd (H.1 35) 0 (H.1 35 0 + 1)) 1 (H.1 35 1 + nI (W_came hb (now b) s)) k := fun k => by
        have e0 : ∀ k, H1.1 35 k = H.1 35 k := fun k => f1f.1 35 k rfl
        rw [← hHc]
        show pm_up (pm_up H1.1 35 0 (H1.1 35 0 + (1 : Int32))) 35 1 (H1.1 35 1 + nI (W_came hb (now b) s)) 35 k = _
        rw [pm_up_self, pm_up_self, e0 0, e0 1, show H1.1 35 = H.1 35 from funext e0]
      have em : ∀ k, ¬ k = 34 → ¬ k = 35 → He.1 55 k = H4.1 55 k := fun k h1 h2 => by
        rw [← hHe]
        show pm_up (pm_up H4.1 55 34 (H4.1 55 34 + (1 : Int32))) 55 35 (H4.1 55 35 + x) 55 k = _
        rw [pm_up_self, pk_un h2, pm_up_self, pk_un h1]
      have em4 : He.1 55 34 = H4.1 55 34 + 1 := by
        rw [← hHe]
        show pm_up (pm_up H4.1 55 34 (H4.1 55 34 + (1 : Int32))) 55 35 (H4.1 55 35 + x) 55 34 = _
        rw [pm_up_self, pk_un (by decide), pm_up_self, pk_us]
      have em5 : He.1 55 35 = H4.1 55 35 + x := by
        rw [← hHe]
        show pm_up (pm_up H4.1 55 34 (H4.1 55 34 + (1 : Int32))) 55 35 (H4.1 55 35 + x) 55 35 = _
        rw [pm_up_self, pk_us]
      have eo : ∀ k, k < 5 → H4.1 55 (34 + k) = H.1 55 (34 + k) := fun k hk => by
        rcases (show k = 0 ∨ k = 1 ∨ k = 2 ∨ k = 3 ∨ k = 4 by omega) with z | z | z | z | z <;> subst z <;> exact ((f5.1 55 _ rfl).trans (f23.1 55 _ rfl)).trans (fC.1 55 _ rfl)
      refine ⟨hb, L, n, va_up now b (W_play hb L (now b) s), m, ⟨hC.1.fr fA rfl rfl, ⟨(hX3.1.of56 h56).fr f6 rfl, hX3.2.1, (hX3.2.2.fr f5 rfl).fr f6 rfl⟩, (fA.1 2 0 rfl).trans hN.2.2.1, (fA.1 55 6 rfl).trans hN.2.2.2.1, hn12, fun b' h => ⟨hNow b' h, (hP4 b' h).fr f6 rfl, ?_⟩⟩, ⟨?_, t2.f1 fA.f1 (by rw [fA.2]) rfl, t3.f1 fA.f1 rfl, t4.f1 fA.f1 rfl, t5.f1 fA.f1 rfl, fun d hd => (t6 d hd).f1 hd fA.f1 (by rw [fA.2]) rfl, ?_, (t8.f1 fA.f1 rfl).mono (Nat.le_succ _)⟩, hD.f1 fA.f1 rfl⟩
      · rw [vaT_at]
        by_cases z : b' = b
        · rw [if_pos z]; exact RV_play hb L (hNb b hbb).2.2 s
        · rw [if_neg z]; exact (hNb b' h).2.2.mono (Nat.le_succ _)
      · intro b' h1 h2
        obtain ⟨w1, w2, w3⟩ := t1 b' h1 h2
        have hne : b' ≠ b := by omega
        have fR := (f2.mono (S' := [3500] ++ (JB ++ JP ++ JY ++ [5535, 5536])) rfl).tr (fM.mono rfl)
        exact ⟨(fR.1 5 b' rfl).trans ((f1.1 5 b' rfl (Or.inl rfl)).trans w1), (fR.1 6 b' rfl).trans ((f1.1 6 b' rfl (Or.inr hne)).trans w2), (fR.1 7 b' rfl).trans ((f1.1 7 b' rfl (Or.inr hne)).trans w3)⟩
      · intro k hk
        have eH : He.1 35 k = Hc.1 35 k := fM.1 35 k rfl
        rw [eH, el k]
        rcases (show k = 0 ∨ k = 1 ∨ 2 ≤ k by omega) with z | z | z
        · subst z
          rw [pk_un (by decide), pk_us, em4, show H4.1 55 34 = H.1 55 34 from eo 0 (by decide), show H.1 35 0 = H.1 55 34 from t7 0 (by decide)]
        · subst z
          rw [pk_us, em5, show H4.1 55 35 = H.1 55 35 from eo 1 (by decide), show H.1 35 1 = H.1 55 35 from t7 1 (by decide), ex]
        · rw [pk_un (by omega), pk_un (by omega), em (34 + k) (by omega) (by omega), eo k hk]
          exact t7 k hk
    have hge : ∀ (x : Int32), x = nI (W_came hb (now b) s) → pm_R (D + 199) M_Mo_lays [.ref 55] H3 (pm_v (fun H44 => pm_i (fun y H2 => K (nI (W_came hb (now b) s)) y H2) (some (.int x)) ((pm_up (pm_up H44.1 55 34 ((H44.1 55 34) + (1 : Int32))) 55 35 ((H44.1 55 35) + x)), H44.2))) := by
      intro x ex
      refine c_lays hn12 hM3.2.1 hT3 (fun H4 f5 hP4 h56 => ?_)
      have := kk (nI (W_came hb (now b) s)) _ (fin x H4 ex f5 hP4 h56)
      rw [ex] at this ⊢
      exact this
    rcases (show W_came hb (now b) s = 0 ∨ W_came hb (now b) s = 1 by omega) with e | e
    · have := hge 0 (by rw [e]; rfl)
      rw [e] at this ⊢
      first | refine bt (show nI 0 = 0 from rfl) ?_ | refine bf (show nI 0 = 0 from rfl) ?_ | refine nt (show nI 0 = 0 from rfl) ?_ | refine nf (show nI 0 = 0 from rfl) ?_
      exact this
    · have := hge 1 (by rw [e]; rfl)
      rw [e] at this ⊢
      first | refine bt (show ¬ nI 1 = 0 by decide) ?_ | refine bf (show ¬ nI 1 = 0 by decide) ?_ | refine nt (show ¬ nI 1 = 0 by decide) ?_ | refine nf (show ¬ nI 1 = 0 by decide) ?_
      exact this
  · have hm : pm_R (D + 200) M_Mo_play [.ref 55, .int a1, .int a2] H (pm_i fun y H2 => K (-1) y H2) := by
      refine m_Mo_play _ _ ?_
      try rw [hM.2.1]
      ((try (simp only [lgl, lgg, i2l_t, u32_0, u64_0, u32_1, u64_1, u32_2, u64_2, u32_3, u64_3, u32_4, u64_4, u32_5, u64_5, u32_7, u64_7, u32_12, u64_12, u32_24, u64_24, u32_30, u64_30, u32_49, u64_49, u32_60, u64_60, u32_99, u64_99, u32_255, u64_255, u32_999, u64_999, en])); (try (simp only [t_lt, t_le, u32_0, u64_0, u32_1, u64_1, u32_2, u64_2, u32_3, u64_3, u32_4, u64_4, u32_5, u64_5, u32_7, u64_7, u32_12, u64_12, u32_24, u64_24, u32_30, u64_30, u32_49, u64_49, u32_60, u64_60, u32_99, u64_99, u32_255, u64_255, u32_999, u64_999, en])); repeat' (first | with_reducible intro hh | with_reducible apply And.intro | exact vp_in_iff.mpr (by omega) | (exfalso; omega) | exact kk _ _ hR1))
    refine m_PW_play _ _ ?_
    try rw [hC.2.1]
    ((try (simp only [lgl, lgg, i2l_t, u32_0, u64_0, u32_1, u64_1, u32_2, u64_2, u32_3, u64_3, u32_4, u64_4, u32_5, u64_5, u32_7, u64_7, u32_12, u64_12, u32_24, u64_24, u32_30, u64_30, u32_49, u64_49, u32_60, u64_60, u32_99, u64_99, u32_255, u64_255, u32_999, u64_999, en])); (try (simp only [t_lt, t_le, u32_0, u64_0, u32_1, u64_1, u32_2, u64_2, u32_3, u64_3, u32_4, u64_4, u32_5, u64_5, u32_7, u64_7, u32_12, u64_12, u32_24, u64_24, u32_30, u64_30, u32_49, u64_49, u32_60, u64_60, u32_99, u64_99, u32_255, u64_255, u32_999, u64_999, en])); repeat' (first | with_reducible intro hh | with_reducible apply And.intro | exact vp_in_iff.mpr (by omega) | (exfalso; omega) | exact hm))
