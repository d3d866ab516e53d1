/-! calls in pairs: bars, bodies, what is kept -/
theorem um1 : (-1 : Int32).toInt = -1 := rfl
def AddC (n q : Nat) (g : Nat → Nat × Nat) (H Hc : pmT) : Prop := fr [201, 300, 400] H Hc ∧ Hc.1 2 0 = nI (n + q) ∧ (∀ b, b < n → Hc.1 3 b = H.1 3 b ∧ Hc.1 4 b = H.1 4 b) ∧ ∀ j, j < q → Hc.1 3 (n + j) = nI (g j).1 ∧ Hc.1 4 (n + j) = nI (g j).2
def AddM (n q : Nat) (g : Nat → Nat × Nat) (H Hm : pmT) : Prop := fr [5507, 5600, 6000, 6100] H Hm ∧ Hm.1 55 6 = nI (n + q) ∧ (∀ b r, b < n → PR H b r → PR Hm b r) ∧ (∀ k, 36 ≤ k → Hm.1 56 k = H.1 56 k) ∧ ∀ j, j < q → PR Hm (n + j) ((g j).1, (g j).2, 0, 0, 0)
theorem AddC.z {n : Nat} {g : Nat → Nat × Nat} {H : pmT} (hn : H.1 2 0 = nI n) : AddC n 0 g H H := ⟨fr.rf, hn, fun _ _ => ⟨rfl, rfl⟩, fun j h => absurd h (Nat.not_lt_zero _)⟩
theorem AddM.z {n : Nat} {g : Nat → Nat × Nat} {H : pmT} (hn : H.1 55 6 = nI n) : AddM n 0 g H H := ⟨fr.rf, hn, fun _ _ _ h => h, fun _ _ => rfl, fun j h => absurd h (Nat.not_lt_zero _)⟩
theorem AddC.s {n q : Nat} {g : Nat → Nat × Nat} {H H1 : pmT} (h : AddC n q g H H1) {a b N : Nat} (eN : N = n + q) (e : g q = (a, b)) : AddC n (q + 1) g H (pm_up (pm_up (pm_up H1.1 3 N (nI a)) 4 N (nI b)) 2 0 (nI (N + 1)), H1.2) := by
  obtain ⟨h1, h2, h3, h4⟩ := h
  have f2 : fr [201, 300, 400] H1 (pm_up (pm_up (pm_up H1.1 3 N (nI a)) 4 N (nI b)) 2 0 (nI (N + 1)), H1.2) := ((fr.rf.up (o := 3) rfl).up (o := 4) rfl).up (o := 2) rfl
  have e3 : ∀ k, pm_up (pm_up (pm_up H1.1 3 N (nI a)) 4 N (nI b)) 2 0 (nI (N + 1)) 3 k = upd (H1.1 3) N (nI a) k := fun k => by
    rw [pm_up_ne _ _ _ (by decide), pm_up_ne _ _ _ (by decide), pm_up_self]
  have e4 : ∀ k, pm_up (pm_up (pm_up H1.1 3 N (nI a)) 4 N (nI b)) 2 0 (nI (N + 1)) 4 k = upd (H1.1 4) N (nI b) k := fun k => by
    rw [pm_up_ne _ _ _ (by decide), pm_up_self, pm_up_ne _ _ _ (by decide)]
  refine ⟨h1.tr f2, ?_, fun k hk => ⟨?_, ?_⟩, fun j hj => ?_⟩
  · show pm_up (pm_up (pm_up H1.1 3 N (nI a)) 4 N (nI b)) 2 0 (nI (N + 1)) 2 0 = _
    rw [pm_up_self, pk_us, eN]; rfl
  · exact (e3 k).trans ((pk_un (by omega)).trans (h3 k hk).1)
  · exact (e4 k).trans ((pk_un (by omega)).trans (h3 k hk).2)
  · by_cases z : j = q
    · subst z
      rw [e]
      refine ⟨(e3 _).trans ?_, (e4 _).trans ?_⟩ <;> rw [eN] <;> exact pk_us
    · exact ⟨(e3 _).trans ((pk_un (by omega)).trans (h4 j (by omega)).1), (e4 _).trans ((pk_un (by omega)).trans (h4 j (by omega)).2)⟩
theorem AddM.s {n q : Nat} {g : Nat → Nat × Nat} {H H1 : pmT} (h : AddM n q g H H1) {a b N : Nat} (eN : N = n + q) (hN : N < 12) (e : g q = (a, b)) : AddM n (q + 1) g H (pm_up (pm_up (pm_up (pm_up (pm_up (pm_up H1.1 56 N (nI a)) 56 (12 + N) (nI b)) 56 (24 + N) (0 : Int32)) 60 N (0 : Int32)) 61 N (0 : Int32)) 55 6 (nI (N + 1)), H1.2) := by
  obtain ⟨h1, h2, h3, h4, h5⟩ := h
  have f2 : fr [5507, 5600, 6000, 6100] H1 (pm_up (pm_up (pm_up (pm_up (pm_up (pm_up H1.1 56 N (nI a)) 56 (12 + N) (nI b)) 56 (24 + N) (0 : Int32)) 60 N (0 : Int32)) 61 N (0 : Int32)) 55 6 (nI (N + 1)), H1.2) := (((((fr.rf.up (o := 56) rfl).up (o := 56) rfl).up (o := 56) rfl).up (o := 60) rfl).up (o := 61) rfl).up (o := 55) rfl
  generalize hX : ((pm_up (pm_up (pm_up (pm_up (pm_up (pm_up H1.1 56 N (nI a)) 56 (12 + N) (nI b)) 56 (24 + N) (0 : Int32)) 60 N (0 : Int32)) 61 N (0 : Int32)) 55 6 (nI (N + 1)), H1.2) : pmT) = X at f2 ⊢
  have e56 : ∀ k, X.1 56 k = upd (upd (upd (H1.1 56) N (nI a)) (12 + N) (nI b)) (24 + N) 0 k := fun k => by
    rw [← hX]
    show pm_up (pm_up (pm_up (pm_up (pm_up (pm_up H1.1 56 N (nI a)) 56 (12 + N) (nI b)) 56 (24 + N) (0 : Int32)) 60 N (0 : Int32)) 61 N (0 : Int32)) 55 6 (nI (N + 1)) 56 k = _
    rw [pm_up_ne _ _ _ (by decide), pm_up_ne _ _ _ (by decide), pm_up_ne _ _ _ (by decide), pm_up_self, pm_up_self, pm_up_self]
  have e60 : ∀ k, X.1 60 k = upd (H1.1 60) N 0 k := fun k => by
    rw [← hX]
    show pm_up (pm_up (pm_up (pm_up (pm_up (pm_up H1.1 56 N (nI a)) 56 (12 + N) (nI b)) 56 (24 + N) (0 : Int32)) 60 N (0 : Int32)) 61 N (0 : Int32)) 55 6 (nI (N + 1)) 60 k = _
    rw [pm_up_ne _ _ _ (by decide), pm_up_ne _ _ _ (by decide), pm_up_self, pm_up_ne _ _ _ (by decide), pm_up_ne _ _ _ (by decide), pm_up_ne _ _ _ (by decide)]
  have e61 : ∀ k, X.1 61 k = upd (H1.1 61) N 0 k := fun k => by
    rw [← hX]
    show pm_up (pm_up (pm_up (pm_up (pm_up (pm_up H1.1 56 N (nI a)) 56 (12 + N) (nI b)) 56 (24 + N) (0 : Int32)) 60 N (0 : Int32)) 61 N (0 : Int32)) 55 6 (nI (N + 1)) 61 k = _
    rw [pm_up_ne _ _ _ (by decide), pm_up_self, pm_up_ne _ _ _ (by decide), pm_up_ne _ _ _ (by decide), pm_up_ne _ _ _ (by decide), pm_up_ne _ _ _ (by decide)]
  have old : ∀ k r, k < N → PR H1 k r → PR X k r := fun k r hk w => by
    obtain ⟨w1, w2, w3, w4, w5⟩ := w
    refine ⟨(e56 _).trans ?_, (e56 _).trans ?_, (e56 _).trans ?_, (e60 _).trans ((pk_un (by omega)).trans w4), (e61 _).trans ((pk_un (by omega)).trans w5)⟩
    · rw [pk_un (by omega), pk_un (by omega), pk_un (by omega)]; exact w1
    · rw [pk_un (by omega), pk_un (by omega), pk_un (by omega)]; exact w2
    · rw [pk_un (by omega), pk_un (by omega), pk_un (by omega)]; exact w3
  refine ⟨h1.tr f2, ?_, fun k r hk w => old k r (by omega) (h3 k r hk w), fun k hk => ?_, fun j hj => ?_⟩
  · rw [← hX]
    show pm_up (pm_up (pm_up (pm_up (pm_up (pm_up H1.1 56 N (nI a)) 56 (12 + N) (nI b)) 56 (24 + N) (0 : Int32)) 60 N (0 : Int32)) 61 N (0 : Int32)) 55 6 (nI (N + 1)) 55 6 = _
    rw [pm_up_self, pk_us, eN]; rfl
  · exact (e56 k).trans (by rw [pk_un (by omega), pk_un (by omega), pk_un (by omega)]; exact h4 k hk)
  · by_cases z : j = q
    · subst z
      rw [e, ← eN]
      refine ⟨(e56 _).trans ?_, (e56 _).trans ?_, (e56 _).trans pk_us, (e60 _).trans pk_us, (e61 _).trans pk_us⟩
      · rw [pk_un (by omega), pk_un (by omega), pk_us]
      · rw [pk_un (by omega), pk_us]
    · exact old _ _ (by omega) (h5 j (by omega))
theorem RChg.up {n n' : Nat} {H : pmT} (h : RChg n H) (e : n ≤ n') : RChg n' H := by
  obtain ⟨dn, td, h1, h2, h3, h4, h5, h6, h7⟩ := h
  refine ⟨dn, td, h1, h2, h3, h4, h5, h6, fun j hj => ?_⟩
  obtain ⟨nb, w, x, y, q1, q2, q3⟩ := h7 j hj
  exact ⟨nb, w, x, y, q1, fun z => Nat.lt_of_lt_of_le (q2 z) e, q3⟩
theorem RImg.up {n n' t : Nat} {H : pmT} (h : RImg n t H) (e : n ≤ n') : RImg n' t H := by
  rcases h with h | ⟨h1, h2, ni, h3, h4⟩
  · exact Or.inl h
  · exact Or.inr ⟨h1, h2, ni, Nat.le_trans h3 e, h4⟩
theorem Rel.adds {hb : Nat → Nat} {L : Law} {n t m q : Nat} {now : Nat → Row} {g : Nat → Nat × Nat} {H H1 H2 : pmT} (hN : RNow hb L n t now H) (hT : RRest n t m H) (hD : RDay H) (hq : n + q ≤ 12) (hg : ∀ j, j < q → (g j).1 ≤ 999 ∧ (g j).2 ≤ 999) (a : AddC n q g H H1) (b : AddM n q g H1 H2) : Rel (t + 1) H2 := by
  obtain ⟨t1, t2, t3, t4, t5, t6, t7, t8⟩ := hT
  obtain ⟨a1, a2, a3, a4⟩ := a
  obtain ⟨b1, b2, b3, b4, b5⟩ := b
  have f : fr ([201, 300, 400] ++ [5507, 5600, 6000, 6100]) H H2 := (a1.mono rfl).tr (b1.mono rfl)
  refine ⟨hb, L, n + q, fun k => if k < n then now k else ((g (k - n)).1, (g (k - n)).2, 0, 0, 0), m, ⟨⟨hN.1.1.f1 f.f1 rfl, hN.1.2.1, hN.1.2.2.f1 f.f1 (by rw [f.2]) rfl⟩, ⟨?_, hN.2.1.2.1, hN.2.1.2.2.f1 f.f1 rfl⟩, (b1.1 2 0 rfl).trans a2, b2, hq, fun k hk => ?_⟩, ⟨fun k h1 h2 => (t1.f1 f.f1 rfl) k (by omega) h2, t2.f1 f.f1 (by rw [f.2]) rfl, (t3.f1 f.f1 rfl).up (by omega), t4.f1 f.f1 rfl, t5.f1 f.f1 rfl, fun d hd => (t6 d hd).f1 hd f.f1 (by rw [f.2]) rfl, t7.f1 f.f1 rfl, ((t8.f1 f.f1 rfl).mono (Nat.le_succ _)).up (by omega)⟩, hD.f1 f.f1 rfl⟩
  · obtain ⟨w1, w2, w3, w4, w5⟩ := hN.2.1.1
    have e : ∀ k, 36 ≤ k → H2.1 56 k = H.1 56 k := fun k hk => (b4 k hk).trans (a1.1 56 k rfl)
    exact ⟨(e 36 (by decide)).trans w1, (e 37 (by decide)).trans w2, (e 38 (by decide)).trans w3, (e 39 (by decide)).trans w4, (e 40 (by decide)).trans w5⟩
  · show NR H2 k (if k < n then now k else ((g (k - n)).1, (g (k - n)).2, 0, 0, 0)) ∧ PR H2 k (if k < n then now k else ((g (k - n)).1, (g (k - n)).2, 0, 0, 0)) ∧ RV (t + 1) (if k < n then now k else ((g (k - n)).1, (g (k - n)).2, 0, 0, 0))
    by_cases z : k < n
    · rw [if_pos z]
      obtain ⟨⟨w1, w2, w3, w4, w5⟩, w6, w7⟩ := hN.2.2.2.2.2 k z
      exact ⟨⟨(b1.1 3 k rfl).trans ((a3 k z).1.trans w1), (b1.1 4 k rfl).trans ((a3 k z).2.trans w2), (f.1 5 k rfl).trans w3, (f.1 6 k rfl).trans w4, (f.1 7 k rfl).trans w5⟩, b3 k _ z (w6.fr a1 rfl), w7.mono (Nat.le_succ _)⟩
    · rw [if_neg z]
      have hj : k - n < q := by omega
      have ek : n + (k - n) = k := by omega
      obtain ⟨c1, c2⟩ := a4 _ hj
      have c3 := b5 _ hj
      rw [ek] at c1 c2 c3
      obtain ⟨w3, w4, w5⟩ := t1 k (by omega) (by omega)
      obtain ⟨g1, g2⟩ := hg _ hj
      exact ⟨⟨(b1.1 3 k rfl).trans c1, (b1.1 4 k rfl).trans c2, (f.1 5 k rfl).trans w3, (f.1 6 k rfl).trans w4, (f.1 7 k rfl).trans w5⟩, c3, g1, g2, Nat.zero_le _, Nat.zero_le _, Nat.zero_le _⟩
theorem p_bar {D t : Nat} {H : pmT} {K : Int32 → Int32 → pmT → Prop} (a1 a2 : Int32) (hR : Rel t H) (ht : t ≤ 1000) (kk : ∀ x H', Rel (t + 1) H' → K x x H') : pm_R (D + 200) M_PW_bar [.ref 0, .int a1, .int a2] H (pm_i fun x H1 => pm_R (D + 200) M_Mo_bar [.ref 55, .int a1, .int a2] H1 (pm_i fun y H2 => K x y H2)) := by
  obtain ⟨hb, L, n, now, m, hN, hT, hD⟩ := id hR
  have hC := hN.cs ht
  have hM := hN.ms ht
  have hn12 := hC.2.2.1
  have hB := hT.2.2.2.1
  have hSh := hT.2.2.2.2.2.1
  have en : (nI n - (1 : Int32)).toInt = (n : Int) - 1 := nm1_t (by omega)
  have hR1 : Rel (t + 1) H := hR.mono (Nat.le_succ _)
  by_cases hok : (0 ≤ a1.toInt ∧ a1.toInt ≤ 999) ∧ (0 ≤ a2.toInt ∧ a2.toInt ≤ 999)
  · obtain ⟨⟨p1, p2⟩, p3, p4⟩ := hok
    obtain ⟨v, _, rfl, ev⟩ := nI_tI a1 p1
    obtain ⟨s, _, rfl, es⟩ := nI_tI a2 p3
    have v0 : ¬ nI v < (0 : Int32) := nI_pos (by omega)
    have v1 : nI v ≤ (999 : Int32) := nI_le (show v ≤ 999 by omega) (by decide)
    have v2 : ¬ lg_cmp (nI v).toInt64 (0 : Int64) < 0 := l_0 (by omega)
    have v3 : ¬ 0 < lg_cmp (nI v).toInt64 (999 : Int64) := l_c (by omega) (by show (v : Int) ≤ 999; omega)
    have v4 : (nI v).toNatClampNeg = v := nIc (by omega)
    have s0 : ¬ nI s < (0 : Int32) := nI_pos (by omega)
    have s1 : nI s ≤ (999 : Int32) := nI_le (show s ≤ 999 by omega) (by decide)
    have s2 : ¬ lg_cmp (nI s).toInt64 (0 : Int64) < 0 := l_0 (by omega)
    have s3 : ¬ 0 < lg_cmp (nI s).toInt64 (999 : Int64) := l_c (by omega) (by show (s : Int) ≤ 999; omega)
    have s4 : (nI s).toNatClampNeg = s := nIc (by omega)
    refine m_PW_bar _ _ ?_
    repeat (first | with_reducible refine bt v0 ?_ | with_reducible refine bf v0 ?_ | with_reducible refine nt v0 ?_ | with_reducible refine nf v0 ?_ | with_reducible refine And.intro v0 ?_ | with_reducible refine bt v1 ?_ | with_reducible refine bf v1 ?_ | with_reducible refine nt v1 ?_ | with_reducible refine nf v1 ?_ | with_reducible refine And.intro v1 ?_ | with_reducible refine bt s0 ?_ | with_reducible refine bf s0 ?_ | with_reducible refine nt s0 ?_ | with_reducible refine nf s0 ?_ | with_reducible refine And.intro s0 ?_ | with_reducible refine bt s1 ?_ | with_reducible refine bf s1 ?_ | with_reducible refine nt s1 ?_ | with_reducible refine nf s1 ?_ | with_reducible refine And.intro s1 ?_)
    refine m_Ha_add _ _ ?_
    rw [hC.2.1]
    by_cases cf : n < 12
    · have z1 : nI n < (12 : Int32) := nI_lt cf (by decide)
      have z2 : ¬ nI n = (12 : Int32) := fun z => by have := (nI_eq (a := n) (b := 12) (by omega) (by decide)).mp z; omega
      rw [nIc (show n < 2 ^ 31 by omega), nI_1 n]
      repeat (first | with_reducible refine bt z1 ?_ | with_reducible refine bf z1 ?_ | with_reducible refine nt z1 ?_ | with_reducible refine nf z1 ?_ | with_reducible refine And.intro z1 ?_)
      refine ⟨vp_in_nI cf (by decide), ?_⟩
      have hA : AddC n (0 + 1) (fun _ => (v, s)) H (pm_up (pm_up (pm_up H.1 3 n (nI v)) 4 n (nI s)) 2 0 (nI (n + 1)), H.2) := (AddC.z hC.2.1).s (N := n) (by omega) rfl
      refine m_Mo_bar _ _ ?_
      rw [show (pm_up (pm_up (pm_up H.1 3 n (nI v)) 4 n (nI s)) 2 0 (nI (n + 1)), H.2).1 55 6 = nI n from (hA.1.1 55 6 rfl).trans hM.2.1]
      rw [nI12, show (24 : Int32) + nI n = nI (24 + n) from nI_pl 24, nIc (show n < 2 ^ 31 by omega), nIc (show 12 + n < 2 ^ 31 by omega), nIc (show 24 + n < 2 ^ 31 by omega), nI_1 n]
      repeat (first | with_reducible refine bt v2 ?_ | with_reducible refine bf v2 ?_ | with_reducible refine nt v2 ?_ | with_reducible refine nf v2 ?_ | with_reducible refine And.intro v2 ?_ | with_reducible refine bt v3 ?_ | with_reducible refine bf v3 ?_ | with_reducible refine nt v3 ?_ | with_reducible refine nf v3 ?_ | with_reducible refine And.intro v3 ?_ | with_reducible refine bt s2 ?_ | with_reducible refine bf s2 ?_ | with_reducible refine nt s2 ?_ | with_reducible refine nf s2 ?_ | with_reducible refine And.intro s2 ?_ | with_reducible refine bt s3 ?_ | with_reducible refine bf s3 ?_ | with_reducible refine nt s3 ?_ | with_reducible refine nf s3 ?_ | with_reducible refine And.intro s3 ?_ | with_reducible refine bt z2 ?_ | with_reducible refine bf z2 ?_ | with_reducible refine nt z2 ?_ | with_reducible refine nf z2 ?_ | with_reducible refine And.intro z2 ?_)
      refine ⟨vp_in_nI (by omega) (by decide), vp_in_nI (by omega) (by decide), vp_in_nI (by omega) (by decide), vp_in_nI (by omega) (by decide), ?_⟩
      generalize hHc : ((pm_up (pm_up (pm_up H.1 3 n (nI v)) 4 n (nI s)) 2 0 (nI (n + 1)), H.2) : pmT) = Hc at hA ⊢
      exact kk _ _ (Rel.adds hN hT hD (q := 0 + 1) (by omega) (fun _ _ => ⟨by show v ≤ 999; omega, by show s ≤ 999; omega⟩) hA ((AddM.z ((hA.1.1 55 6 rfl).trans hM.2.1)).s (N := n) (by omega) cf rfl))
    · have z1 : ¬ nI n < (12 : Int32) := nI_nlt (a := n) (b := 12) (by omega) (by omega)
      have z2 : nI n = (12 : Int32) := by rw [show n = 12 by omega]; rfl
      repeat (first | with_reducible refine bt z1 ?_ | with_reducible refine bf z1 ?_ | with_reducible refine nt z1 ?_ | with_reducible refine nf z1 ?_ | with_reducible refine And.intro z1 ?_)
      refine m_Mo_bar _ _ ?_
      rw [hM.2.1]
      repeat (first | with_reducible refine bt v2 ?_ | with_reducible refine bf v2 ?_ | with_reducible refine nt v2 ?_ | with_reducible refine nf v2 ?_ | with_reducible refine And.intro v2 ?_ | with_reducible refine bt v3 ?_ | with_reducible refine bf v3 ?_ | with_reducible refine nt v3 ?_ | with_reducible refine nf v3 ?_ | with_reducible refine And.intro v3 ?_ | with_reducible refine bt s2 ?_ | with_reducible refine bf s2 ?_ | with_reducible refine nt s2 ?_ | with_reducible refine nf s2 ?_ | with_reducible refine And.intro s2 ?_ | with_reducible refine bt s3 ?_ | with_reducible refine bf s3 ?_ | with_reducible refine nt s3 ?_ | with_reducible refine nf s3 ?_ | with_reducible refine And.intro s3 ?_ | with_reducible refine bt z2 ?_ | with_reducible refine bf z2 ?_ | with_reducible refine nt z2 ?_ | with_reducible refine nf z2 ?_ | with_reducible refine And.intro z2 ?_)
      exact kk _ _ hR1
  · have hm : pm_R (D + 200) M_Mo_bar [.ref 55, .int a1, .int a2] H (pm_i fun y H2 => K (-1) y H2) := by
      refine m_Mo_bar _ _ ?_
      try rw [hM.2.1]
      ((try (simp only [lgl, lgg, i2l_t, u32_0, u64_0, u32_1, u64_1, u32_2, u64_2, u32_3, u64_3, u32_4, u64_4, u32_5, u64_5, u32_7, u64_7, u32_12, u64_12, u32_24, u64_24, u32_30, u64_30, u32_49, u64_49, u32_60, u64_60, u32_99, u64_99, u32_255, u64_255, u32_999, u64_999, en])); (try (simp only [t_lt, t_le, u32_0, u64_0, u32_1, u64_1, u32_2, u64_2, u32_3, u64_3, u32_4, u64_4, u32_5, u64_5, u32_7, u64_7, u32_12, u64_12, u32_24, u64_24, u32_30, u64_30, u32_49, u64_49, u32_60, u64_60, u32_99, u64_99, u32_255, u64_255, u32_999, u64_999, en])); repeat' (first | with_reducible intro hh | with_reducible apply And.intro | exact vp_in_iff.mpr (by omega) | (exfalso; omega) | exact kk _ _ hR1))
    refine m_PW_bar _ _ ?_
    try rw [hC.2.1]
    ((try (simp only [lgl, lgg, i2l_t, u32_0, u64_0, u32_1, u64_1, u32_2, u64_2, u32_3, u64_3, u32_4, u64_4, u32_5, u64_5, u32_7, u64_7, u32_12, u64_12, u32_24, u64_24, u32_30, u64_30, u32_49, u64_49, u32_60, u64_60, u32_99, u64_99, u32_255, u64_255, u32_999, u64_999, en])); (try (simp only [t_lt, t_le, u32_0, u64_0, u32_1, u64_1, u32_2, u64_2, u32_3, u64_3, u32_4, u64_4, u32_5, u64_5, u32_7, u64_7, u32_12, u64_12, u32_24, u64_24, u32_30, u64_30, u32_49, u64_49, u32_60, u64_60, u32_99, u64_99, u32_255, u64_255, u32_999, u64_999, en])); repeat' (first | with_reducible intro hh | with_reducible apply And.intro | exact vp_in_iff.mpr (by omega) | (exfalso; omega) | exact hm))
theorem RSh.up {m m' d : Nat} {H : pmT} (h : RSh m d H) (e : m ≤ m') : RSh m' d H := by
  rcases h with h | ⟨w, hw, h⟩ | h
  · exact Or.inl h
  · exact Or.inr (Or.inl ⟨w, by omega, h⟩)
  · exact Or.inr (Or.inr h)
theorem p_body {D t : Nat} {H : pmT} {K : Int32 → Int32 → pmT → Prop} (a1 : Int32) (hR : Rel t H) (ht : t ≤ 1000) (kk : ∀ x H', Rel (t + 1) H' → K x x H') : pm_R (D + 200) M_PW_body [.ref 0, .int a1] H (pm_i fun x H1 => pm_R (D + 200) M_Mo_body [.ref 55, .int a1] H1 (pm_i fun y H2 => K x y H2)) := by
  obtain ⟨hb, L, n, now, m, hN, hT, hD⟩ := id hR
  have hC := hN.cs ht
  have hM := hN.ms ht
  have hn12 := hC.2.2.1
  have hB := hT.2.2.2.1
  have hSh := hT.2.2.2.2.2.1
  have en : (nI n - (1 : Int32)).toInt = (n : Int) - 1 := nm1_t (by omega)
  have hR1 : Rel (t + 1) H := hR.mono (Nat.le_succ _)
  by_cases hok : 0 ≤ a1.toInt ∧ a1.toInt ≤ 7
  · obtain ⟨p1, p2⟩ := hok
    obtain ⟨v, _, rfl, ev⟩ := nI_tI a1 p1
    have v0 : ¬ nI v < (0 : Int32) := nI_pos (by omega)
    have v1 : nI v ≤ (7 : Int32) := nI_le (show v ≤ 7 by omega) (by decide)
    have v2 : ¬ lg_cmp (nI v).toInt64 (0 : Int64) < 0 := l_0 (by omega)
    have v3 : ¬ 0 < lg_cmp (nI v).toInt64 (7 : Int64) := l_c (by omega) (by show (v : Int) ≤ 7; omega)
    have v4 : (nI v).toNatClampNeg = v := nIc (by omega)
    obtain ⟨c1, c2, c3, c4⟩ := hB
    refine m_PW_body _ ?_
    rw [c2]
    by_cases cf : m < 50
    · have z1 : nI m < (50 : Int32) := nI_lt cf (by decide)
      have z2 : ¬ nI m = (50 : Int32) := fun z => by have := (nI_eq (a := m) (b := 50) (by omega) (by decide)).mp z; omega
      rw [nIc (show m < 2 ^ 31 by omega), nI_1 m]
      repeat (first | with_reducible refine bt v0 ?_ | with_reducible refine bf v0 ?_ | with_reducible refine nt v0 ?_ | with_reducible refine nf v0 ?_ | with_reducible refine And.intro v0 ?_ | with_reducible refine bt v1 ?_ | with_reducible refine bf v1 ?_ | with_reducible refine nt v1 ?_ | with_reducible refine nf v1 ?_ | with_reducible refine And.intro v1 ?_ | with_reducible refine bt z1 ?_ | with_reducible refine bf z1 ?_ | with_reducible refine nt z1 ?_ | with_reducible refine nf z1 ?_ | with_reducible refine And.intro z1 ?_)
      refine ⟨vp_in_nI cf (by decide), ?_⟩
      have f1c : fr [3200, 3102] H (pm_up (pm_up H.1 32 m (nI v)) 31 1 (nI (m + 1)), H.2) := (fr.rf.up (o := 32) rfl).up (o := 31) rfl
      have e1 : ∀ j, (pm_up (pm_up H.1 32 m (nI v)) 31 1 (nI (m + 1))) 32 j = upd (H.1 32) m (nI v) j := fun j => by
        rw [pm_up_ne _ _ _ (by decide), pm_up_self]
      have e2 : (pm_up (pm_up H.1 32 m (nI v)) 31 1 (nI (m + 1))) 31 1 = nI (m + 1) := by
        rw [pm_up_self, pk_us]
      generalize hH1 : ((pm_up (pm_up H.1 32 m (nI v)) 31 1 (nI (m + 1)), H.2) : pmT) = H1 at f1c
      replace e1 : ∀ j, H1.1 32 j = upd (H.1 32) m (nI v) j := fun j => by rw [← hH1]; exact e1 j
      replace e2 : H1.1 31 1 = nI (m + 1) := by rw [← hH1]; exact e2
      refine m_Mo_body _ ?_
      rw [show H1.1 55 42 = nI m from (f1c.1 55 42 rfl).trans c3, nIc (show m < 2 ^ 31 by omega), nI_1 m]
      repeat (first | with_reducible refine bt v2 ?_ | with_reducible refine bf v2 ?_ | with_reducible refine nt v2 ?_ | with_reducible refine nf v2 ?_ | with_reducible refine And.intro v2 ?_ | with_reducible refine bt v3 ?_ | with_reducible refine bf v3 ?_ | with_reducible refine nt v3 ?_ | with_reducible refine nf v3 ?_ | with_reducible refine And.intro v3 ?_ | with_reducible refine bt z2 ?_ | with_reducible refine bf z2 ?_ | with_reducible refine nt z2 ?_ | with_reducible refine nf z2 ?_ | with_reducible refine And.intro z2 ?_)
      refine ⟨vp_in_nI cf (by decide), ?_⟩
      have f1m : fr [7900, 5543] H1 (pm_up (pm_up H1.1 79 m (nI v)) 55 42 (nI (m + 1)), H1.2) := (fr.rf.up (o := 79) rfl).up (o := 55) rfl
      have e3 : ∀ j, (pm_up (pm_up H1.1 79 m (nI v)) 55 42 (nI (m + 1))) 79 j = upd (H1.1 79) m (nI v) j := fun j => by
        rw [pm_up_ne _ _ _ (by decide), pm_up_self]
      have e4 : (pm_up (pm_up H1.1 79 m (nI v)) 55 42 (nI (m + 1))) 55 42 = nI (m + 1) := by
        rw [pm_up_self, pk_us]
      have f : fr [3200, 3102, 7900, 5543] H (pm_up (pm_up H1.1 79 m (nI v)) 55 42 (nI (m + 1)), H1.2) := (f1c.mono rfl).tr (f1m.mono rfl)
      obtain ⟨t1, t2, t3, t4, t5, t6, t7, t8⟩ := hT
      refine kk _ _ ⟨hb, L, n, now, m + 1, (hN.f1 f.f1 (by rw [f.2]) rfl).mono (Nat.le_succ _), ⟨t1.f1 f.f1 rfl, t2.f1 f.f1 (by rw [f.2]) rfl, t3.f1 f.f1 rfl, ⟨cf, (f1m.1 31 1 rfl).trans e2, e4, fun j hj => ?_⟩, t5.f1 f.f1 rfl, fun d hd => ((t6 d hd).f1 hd f.f1 (by rw [f.2]) rfl).up (Nat.le_succ _), t7.f1 f.f1 rfl, (t8.f1 f.f1 rfl).mono (Nat.le_succ _)⟩, hD.f1 f.f1 rfl⟩
      by_cases z : j = m
      · subst z
        exact ⟨v, by omega, (f1m.1 32 j rfl).trans ((e1 j).trans pk_us), (e3 j).trans pk_us⟩
      · obtain ⟨kd, q1, q2, q3⟩ := c4 j (by omega)
        exact ⟨kd, q1, (f1m.1 32 j rfl).trans ((e1 j).trans ((pk_un z).trans q2)), (e3 j).trans ((pk_un z).trans ((f1c.1 79 j rfl).trans q3))⟩
    · have z1 : ¬ nI m < (50 : Int32) := nI_nlt (a := m) (b := 50) (by omega) (by omega)
      have z2 : nI m = (50 : Int32) := by rw [show m = 50 by omega]; rfl
      repeat (first | with_reducible refine bt v0 ?_ | with_reducible refine bf v0 ?_ | with_reducible refine nt v0 ?_ | with_reducible refine nf v0 ?_ | with_reducible refine And.intro v0 ?_ | with_reducible refine bt v1 ?_ | with_reducible refine bf v1 ?_ | with_reducible refine nt v1 ?_ | with_reducible refine nf v1 ?_ | with_reducible refine And.intro v1 ?_ | with_reducible refine bt z1 ?_ | with_reducible refine bf z1 ?_ | with_reducible refine nt z1 ?_ | with_reducible refine nf z1 ?_ | with_reducible refine And.intro z1 ?_)
      refine m_Mo_body _ ?_
      rw [c3]
      repeat (first | with_reducible refine bt v2 ?_ | with_reducible refine bf v2 ?_ | with_reducible refine nt v2 ?_ | with_reducible refine nf v2 ?_ | with_reducible refine And.intro v2 ?_ | with_reducible refine bt v3 ?_ | with_reducible refine bf v3 ?_ | with_reducible refine nt v3 ?_ | with_reducible refine nf v3 ?_ | with_reducible refine And.intro v3 ?_ | with_reducible refine bt z2 ?_ | with_reducible refine bf z2 ?_ | with_reducible refine nt z2 ?_ | with_reducible refine nf z2 ?_ | with_reducible refine And.intro z2 ?_)
      exact kk _ _ hR1
  · have hm : pm_R (D + 200) M_Mo_body [.ref 55, .int a1] H (pm_i fun y H2 => K (-1) y H2) := by
      refine m_Mo_body _ ?_
      try rw [hM.2.1]
      ((try (simp only [lgl, lgg, i2l_t, u32_0, u64_0, u32_1, u64_1, u32_2, u64_2, u32_3, u64_3, u32_4, u64_4, u32_5, u64_5, u32_7, u64_7, u32_12, u64_12, u32_24, u64_24, u32_30, u64_30, u32_49, u64_49, u32_60, u64_60, u32_99, u64_99, u32_255, u64_255, u32_999, u64_999, en])); (try (simp only [t_lt, t_le, u32_0, u64_0, u32_1, u64_1, u32_2, u64_2, u32_3, u64_3, u32_4, u64_4, u32_5, u64_5, u32_7, u64_7, u32_12, u64_12, u32_24, u64_24, u32_30, u64_30, u32_49, u64_49, u32_60, u64_60, u32_99, u64_99, u32_255, u64_255, u32_999, u64_999, en])); repeat' (first | with_reducible intro hh | with_reducible apply And.intro | exact vp_in_iff.mpr (by omega) | (exfalso; omega) | exact kk _ _ hR1))
    refine m_PW_body _ ?_
    try rw [hC.2.1]
    ((try (simp only [lgl, lgg, i2l_t, u32_0, u64_0, u32_1, u64_1, u32_2, u64_2, u32_3, u64_3, u32_4, u64_4, u32_5, u64_5, u32_7, u64_7, u32_12, u64_12, u32_24, u64_24, u32_30, u64_30, u32_49, u64_49, u32_60, u64_60, u32_99, u64_99, u32_255, u64_255, u32_999, u64_999, en])); (try (simp only [t_lt, t_le, u32_0, u64_0, u32_1, u64_1, u32_2, u64_2, u32_3, u64_3, u32_4, u64_4, u32_5, u64_5, u32_7, u64_7, u32_12, u64_12, u32_24, u64_24, u32_30, u64_30, u32_49, u64_49, u32_60, u64_60, u32_99, u64_99, u32_255, u64_255, u32_999, u64_999, en])); repeat' (first | with_reducible intro hh | with_reducible apply And.intro | exact vp_in_iff.mpr (by omega) | (exfalso; omega) | exact hm))
