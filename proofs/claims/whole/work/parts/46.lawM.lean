/-! the reference's law -/
theorem lp_workM {d n : Nat} {t nm : Nat → Int32} : ∀ (m p : Nat) (g w : Int32) (H : pmT) {K : Int32 → pmT → Prop}, n < p + m → p ≤ n → MT t n nm H → MP p 0 H → (g = 0 → w = 0) → (∀ q, pTx (bT t n) n m p = .inl q → ∀ v H', fr JM H H' → H'.1 55 16 = nI q → K v H') → (∀ r, pTx (bT t n) n m p = .inr r → ∀ H', fr JM H H' → H'.1 55 16 = -1 → K (if g = 0 then r.1 nm else w) H') → pm_RW none (d + 70) M_Mo_workOut (pm_i K) 33 [(0, .ref 55), (3, .int g), (4, .int w), (5, .int 1)] [] H
  | 0, p, g, w, H, K, hm, hp, hT, hP, hg, k1, k2 => by omega
  | m + 1, p, g, w, H, K, hm, hp, hT, hP, hg, k1, k2 => by
    have ih := fun p g w H K => lp_workM (d := d) (n := n) (t := t) (nm := nm) m p g w H (K := K)
    have hn120 := hT.2.1
    have f0 : ¬ (0 : Int32) ≤ -1 := by decide
    have tl : ∀ (v : Nat × Den × Den × List Int32) (g' w' : Int32) (H3 : pmT), pLn (bT t n) p = .inr v → p < v.1 → v.1 ≤ n → (∀ X : Int32, (if g = 0 then (if v.2.1 nm = 0 then X else v.2.2.1 nm) else w) = if g' = 0 then X else w') → (g' = 0 → w' = 0) → fr JM H H3 → MP v.1 0 H3 → pm_R (d + 69) M_Mo_takes [.ref 55, .int (59 : Int32)] H3 (pm_i fun x6 H5 => pm_RW none (d + 70) M_Mo_workOut (pm_i K) 33 [(0, .ref 55), (3, .int g'), (4, .int w'), (5, .int x6)] [] H5) := by
      intro v g' w' H3 ev hpv hvn hX hg' f3 hP3
      unfold pTx at k1 k2
      rw [ev] at k1 k2
      simp only at k1 k2
      have hT3 := hT.fr f3
      refine c_takes (d := d + 68) hT3 hvn hP3 _ (fun c59 => ?_) (fun c59 H4 f4 hP4 => ?_)
      · refine b_Mo_workOut_33 _ _ _ ?_
        first | refine bt (show (0 : Int32) = 0 from rfl) ?_ | refine bf (show (0 : Int32) = 0 from rfl) ?_ | refine nt (show (0 : Int32) = 0 from rfl) ?_ | refine nf (show (0 : Int32) = 0 from rfl) ?_
        rw [hP3.2.1, hT3.1, hP3.1, i_le _ _ (by omega) (by omega)]
        first | refine bt f0 ?_ | refine bf f0 ?_ | refine nt f0 ?_ | refine nf f0 ?_
        by_cases cn : n ≤ v.1
        · first | refine bt cn ?_ | refine bf cn ?_ | refine nt cn ?_ | refine nf cn ?_
          rw [if_pos cn] at k2
          have := k2 _ rfl H3 f3 hP3.2.1
          rw [hX 0] at this
          by_cases cg : g' = 0
          · rw [if_pos cg] at this
            rw [hg' cg]; exact this
          · rw [if_neg cg] at this
            exact this
        · first | refine bt cn ?_ | refine bf cn ?_ | refine nt cn ?_ | refine nf cn ?_
          rw [if_neg cn, if_neg c59] at k1
          refine k1 _ rfl 0 _ (f3.up rfl) ?_
          show pm_up H3.1 55 16 (nI v.1) 55 16 = _
          rw [pm_up_self, pk_us]
      · have hvn' : v.1 < n := by
          refine Nat.lt_of_not_le (fun z => ?_)
          rw [bT_out _ z] at c59
          exact absurd c59 (by decide)
        rw [if_neg (by omega), if_pos c59] at k1 k2
        refine ih (v.1 + 1) g' w' H4 K (by omega) (by omega) (hT3.fr f4) hP4 hg' (fun q eq v' H' f e => ?_) (fun r er H' f e => ?_)
        · rw [eq] at k1
          exact k1 q rfl v' H' (f3.tr (f4.tr f)) e
        · rw [er] at k2
          have := k2 _ rfl H' (f3.tr (f4.tr f)) e
          rw [hX (r.1 nm)] at this
          exact this
    refine b_Mo_workOut_33 _ _ _ ?_
    first | refine bt (show ¬ (1 : Int32) = 0 by decide) ?_ | refine bf (show ¬ (1 : Int32) = 0 by decide) ?_ | refine nt (show ¬ (1 : Int32) = 0 by decide) ?_ | refine nf (show ¬ (1 : Int32) = 0 by decide) ?_
    have hpl : pLn (bT t n) p = pLn (bT t n) p := rfl
    conv at hpl => rhs; unfold pLn
    refine pm_Rc (show 60 + (d + 6 + 3) = d + 69 by omega) (c_readM 60 0 0 p (d := d + 6) H (by decide) (by decide) hp (by decide) hT hP ?_)
    have hk := PTok_pP (bT_out (t := t)) 60 0 0 p hp
    generalize pP (bT t n) 60 0 0 p = x at hpl hk
    match x, hpl, hk with
    | .inl q, hpl, hk =>
      intro v H2 f2 e1 e2
      have hq : q < 2 ^ 31 := by have := hk.2; omega
      refine c_takesF (d := d + 68) hq e2 _ ?_
      first | refine bt (show (0 : Int32) = 0 from rfl) ?_ | refine bf (show (0 : Int32) = 0 from rfl) ?_ | refine nt (show (0 : Int32) = 0 from rfl) ?_ | refine nf (show (0 : Int32) = 0 from rfl) ?_
      rw [e2]
      first | refine bt (nI_pos' hq) ?_ | refine bf (nI_pos' hq) ?_ | refine nt (nI_pos' hq) ?_ | refine nf (nI_pos' hq) ?_
      refine c_takesF (d := d + 68) hq e2 _ ?_
      refine b_Mo_workOut_33 _ _ _ ?_
      first | refine bt (show (0 : Int32) = 0 from rfl) ?_ | refine bf (show (0 : Int32) = 0 from rfl) ?_ | refine nt (show (0 : Int32) = 0 from rfl) ?_ | refine nf (show (0 : Int32) = 0 from rfl) ?_
      rw [e2]
      first | refine bt (nI_pos' hq) ?_ | refine bf (nI_pos' hq) ?_ | refine nt (nI_pos' hq) ?_ | refine nf (nI_pos' hq) ?_
      unfold pTx at k1
      rw [show pLn (bT t n) p = .inl q from hpl] at k1
      exact k1 q rfl w H2 f2 e2
    | .inr r, hpl, hk =>
      intro H2 f2 hP2
      simp only at hpl
      obtain ⟨g1, g2, g3⟩ := hk
      have hT2 := hT.fr f2
      refine c_takes (d := d + 68) hT2 g2 hP2 _ (fun c63 => ?_) (fun c63 H3 f3 hP3 => ?_)
      · first | refine bt (show (0 : Int32) = 0 from rfl) ?_ | refine bf (show (0 : Int32) = 0 from rfl) ?_ | refine nt (show (0 : Int32) = 0 from rfl) ?_ | refine nf (show (0 : Int32) = 0 from rfl) ?_
        rw [hP2.2.1]
        first | refine bt f0 ?_ | refine bf f0 ?_ | refine nt f0 ?_ | refine nf f0 ?_
        rw [if_neg c63] at hpl
        by_cases cg : g = 0
        · first | refine bt cg ?_ | refine bf cg ?_ | refine nt cg ?_ | refine nf cg ?_
          refine tl _ 1 (r.2.1 nm) H2 hpl g1 g2 (fun X => ?_) (fun z => absurd z (by decide)) f2 hP2
          simp [cg]
        · first | refine bt cg ?_ | refine bf cg ?_ | refine nt cg ?_ | refine nf cg ?_
          refine tl _ g w H2 hpl g1 g2 (fun X => ?_) hg f2 hP2
          rw [if_neg cg, if_neg cg]
      · first | refine bt (show ¬ (1 : Int32) = 0 by decide) ?_ | refine bf (show ¬ (1 : Int32) = 0 by decide) ?_ | refine nt (show ¬ (1 : Int32) = 0 by decide) ?_ | refine nf (show ¬ (1 : Int32) = 0 by decide) ?_
        have hrn : r.1 < n := by
          refine Nat.lt_of_not_le (fun z => ?_)
          rw [bT_out _ z] at c63
          exact absurd c63 (by decide)
        have hT3 := hT2.fr f3
        rw [if_pos c63] at hpl
        have hk2 := PTok_pP (bT_out (t := t)) 60 0 0 (r.1 + 1) hrn
        have rd : ∀ (C : Int32 → pmT → Prop), RMq n 0 nm (pP (bT t n) 60 0 0 (r.1 + 1)) H3 C → pm_R (d + 69) M_Mo_either [.ref 55] H3 (pm_i C) := fun C hC => pm_Rc (show 60 + (d + 6 + 3) = d + 69 by omega) (c_readM 60 0 0 (r.1 + 1) (d := d + 6) H3 (by decide) (by decide) hrn (by decide) hT3 hP3 hC)
        generalize pP (bT t n) 60 0 0 (r.1 + 1) = y at hpl hk2 rd
        match y, hpl, hk2, rd with
        | .inl q, hpl, hk2, rd =>
          have hq : q < 2 ^ 31 := by have := hk2.2; omega
          have fin : ∀ (v : Int32) H4, fr JM H3 H4 → H4.1 55 16 = nI q → (0 ≤ H4.1 55 16 → pm_R (d + 69) M_Mo_takes [.ref 55, .int (59 : Int32)] H4 (pm_i fun x6 H5 => pm_RW none (d + 70) M_Mo_workOut (pm_i K) 33 [(0, .ref 55), (3, .int g), (4, .int w), (5, .int x6)] [] H5)) ∧ ¬ ¬ 0 ≤ H4.1 55 16 := by
            intro v H4 f4 e2
            refine ⟨fun _ => ?_, by rw [e2]; exact fun z => z (nI_pos' hq)⟩
            refine c_takesF (d := d + 68) hq e2 _ ?_
            refine b_Mo_workOut_33 _ _ _ ?_
            first | refine bt (show (0 : Int32) = 0 from rfl) ?_ | refine bf (show (0 : Int32) = 0 from rfl) ?_ | refine nt (show (0 : Int32) = 0 from rfl) ?_ | refine nf (show (0 : Int32) = 0 from rfl) ?_
            rw [e2]
            first | refine bt (nI_pos' hq) ?_ | refine bf (nI_pos' hq) ?_ | refine nt (nI_pos' hq) ?_ | refine nf (nI_pos' hq) ?_
            unfold pTx at k1
            rw [show pLn (bT t n) p = .inl q from hpl] at k1
            exact k1 q rfl w H4 (f2.tr (f3.tr f4)) e2
          exact ⟨fun _ => rd _ (fun v H4 f4 e1 e2 => ⟨(fin v H4 f4 e2).1, fun z => absurd z (fin v H4 f4 e2).2⟩), fun _ => rd _ (fun v H4 f4 e1 e2 => ⟨(fin v H4 f4 e2).1, fun z => absurd z (fin v H4 f4 e2).2⟩)⟩
        | .inr u, hpl, hk2, rd =>
          simp only at hpl
          obtain ⟨w1, w2, w3⟩ := hk2
          have hpu : p < u.1 := by omega
          by_cases cz : r.2.1 nm = 0
          · first | refine bt cz ?_ | refine bf cz ?_ | refine nt cz ?_ | refine nf cz ?_
            refine rd _ (fun H4 f4 hP4 => ?_)
            have t4 := tl _ g w H4 hpl hpu w2 (fun X => by
              simp only
              rw [if_pos cz]) hg (f2.tr (f3.tr f4)) hP4
            rw [hP4.2.1]
            exact ⟨fun _ => t4, fun _ => t4⟩
          · first | refine bt cz ?_ | refine bf cz ?_ | refine nt cz ?_ | refine nf cz ?_
            refine rd _ (fun H4 f4 hP4 => ?_)
            rw [hP4.2.1]
            first | refine bt f0 ?_ | refine bf f0 ?_ | refine nt f0 ?_ | refine nf f0 ?_
            by_cases cg : g = 0
            · first | refine bt cg ?_ | refine bf cg ?_ | refine nt cg ?_ | refine nf cg ?_
              refine tl _ 1 (u.2.1 nm) H4 hpl hpu w2 (fun X => ?_) (fun z => absurd z (by decide)) (f2.tr (f3.tr f4)) hP4
              simp only
              rw [if_pos cg, if_neg cz, if_neg (by decide)]
            · first | refine bt cg ?_ | refine bf cg ?_ | refine nt cg ?_ | refine nf cg ?_
              refine tl _ g w H4 hpl hpu w2 (fun X => ?_) hg (f2.tr (f3.tr f4)) hP4
              rw [if_neg cg, if_neg cg]
abbrev JW : List Nat := [5514, 5515, 5516, 5517, 5518]
/-- the text at once -/
theorem c_workT {d n : Nat} {t nm : Nat → Int32} {b : Int32} {H : pmT} {K : Int32 → pmT → Prop} (hn : n ≤ 120) (hb : (b = nI 0 ∧ ∀ j, j < n → H.1 63 j = t j) ∨ (b = -1 ∧ ∀ j, j < n → H.1 62 j = t j)) (hnm : ∀ j, j < 6 → H.1 64 j = nm j) (k1 : ∀ q, pTx (bT t n) n 121 0 = .inl q → ∀ v H', fr JW H H' → H'.1 55 16 = nI q → K v H') (k2 : ∀ r, pTx (bT t n) n 121 0 = .inr r → ∀ H', fr JW H H' → H'.1 55 16 = -1 → K (r.1 nm) H') : pm_R (d + 70) M_Mo_workOut [.ref 55, .int b, .int (nI n)] H (pm_i K) := by
  refine m_Mo_workOut _ _ ?_
  generalize hH : ((pm_up (pm_up (pm_up (pm_up (pm_up H.1 55 13 b) 55 14 (0 : Int32)) 55 15 (nI n)) 55 16 (-1 : Int32)) 55 17 (0 : Int32)), H.2) = H1
  have f1 : fr JW H H1 := by
    rw [← hH]
    exact ((((fr.rf.up (o := 55) (k := 13) rfl).up (o := 55) (k := 14) rfl).up (o := 55) (k := 15) rfl).up (o := 55) (k := 16) rfl).up (o := 55) (k := 17) rfl
  have e : ∀ k, H1.1 55 k = upd (upd (upd (upd (upd (H.1 55) 13 b) 14 0) 15 (nI n)) 16 (-1)) 17 0 k := fun k => by
    rw [← hH]
    show pm_up (pm_up (pm_up (pm_up (pm_up H.1 55 13 b) 55 14 (0 : Int32)) 55 15 (nI n)) 55 16 (-1 : Int32)) 55 17 (0 : Int32) 55 k = _
    simp only [pm_up_self]
  have hT : MT t n nm H1 := by
    refine ⟨(e 15).trans rfl, hn, ?_, fun j hj => (f1.1 64 j rfl).trans (hnm j hj)⟩
    rcases hb with ⟨z1, z2⟩ | ⟨z1, z2⟩
    · exact Or.inl ⟨(e 13).trans z1, fun j hj => (f1.1 63 j rfl).trans (z2 j hj)⟩
    · exact Or.inr ⟨(e 13).trans z1, fun j hj => (f1.1 62 j rfl).trans (z2 j hj)⟩
  have hP : MP 0 0 H1 := ⟨(e 14).trans rfl, (e 16).trans rfl, (e 17).trans rfl⟩
  exact lp_workM 121 0 0 0 H1 (by omega) (Nat.zero_le _) hT hP (fun _ => rfl) (fun q eq v H' f e => k1 q eq v H' (f1.tr (f.mono rfl)) e) (fun r er H' f e => by rw [if_pos rfl]; exact k2 r er H' (f1.tr (f.mono rfl)) e)
/-- what the reference holds as its law -/
def LawM (L : Law) (H : pmT) : Prop := match L with
  | none => H.1 55 12 < 0
  | some f => ∃ (n : Nat) (t : Nat → Int32) (r : Den × List Int32), n ≤ 120 ∧ H.1 55 12 = nI n ∧ (∀ j, j < n → H.1 63 j = t j) ∧ pTx (bT t n) n 121 0 = .inr r ∧ f = r.1
theorem LawM.fr {L : Law} {S : List Nat} {H H' : pmT} (h : LawM L H) (a : fr S H H') (g : (pm_has S 5513 || pm_has S 6300) = false) : LawM L H' := by
  simp only [Bool.or_eq_false_iff] at g
  have e := a.1 55 12 g.1
  cases L with
  | none => exact (show H'.1 55 12 < 0 by rw [e]; exact h)
  | some f =>
    obtain ⟨n, t, r, h1, h2, h3, h4, h5⟩ := h
    exact ⟨n, t, r, h1, e.trans h2, fun j hj => (a.1 63 j g.2).trans (h3 j hj), h4, h5⟩
theorem c_workM {d : Nat} {f : Den} {nm : Nat → Int32} {H : pmT} {K : Int32 → pmT → Prop} (hL : LawM (some f) H) (hnm : ∀ j, j < 6 → H.1 64 j = nm j) (kk : ∀ H', fr JW H H' → K (f nm) H') : pm_R (d + 70) M_Mo_workOut [.ref 55, .int 0, .int (H.1 55 12)] H (pm_i K) := by
  obtain ⟨n, t, r, h1, h2, h3, h4, h5⟩ := hL
  rw [h2]
  refine c_workT h1 (Or.inl ⟨rfl, h3⟩) hnm (fun q eq => ?_) (fun r' er H' f e => ?_)
  · rw [h4] at eq; cases eq
  · rw [h4] at er
    cases er
    rw [h5] at kk
    exact kk H' f
def TapM (t : Nat → Int32) (n : Nat) (H : pmT) : Prop := H.1 55 10 = nI n ∧ n ≤ 120 ∧ ∀ j, j < n → H.1 62 j = t j
abbrev JL : List Nat := [5511, 5513, 5514, 5515, 5516, 5517, 5518, 6300]
theorem lp_copyM {d n : Nat} {t : Nat → Int32} {K : Int32 → pmT → Prop} (hn : n ≤ 120) : ∀ (m j : Nat) (H : pmT), j + m = n → (∀ i, i < n → H.1 62 i = t i) → (∀ i, i < j → H.1 63 i = t i) → (∀ H', fr JL H H' → H'.1 55 10 = H.1 55 10 → (∀ i, i < n → H'.1 63 i = t i) → H'.1 55 12 = nI n → K 1 H') → pm_RW none (d + 1) M_Mo_law (pm_i K) 37 [(0, .ref 55), (2, .int (nI n)), (3, .int (nI j))] [] H
  | 0, j, H, hj, h1, h2, kk => by
    refine b_Mo_law_37 _ _ ?_
    first | refine bt (nI_le (show n ≤ j by omega) (by omega)) ?_ | refine bf (nI_le (show n ≤ j by omega) (by omega)) ?_ | refine nt (nI_le (show n ≤ j by omega) (by omega)) ?_ | refine nf (nI_le (show n ≤ j by omega) (by omega)) ?_
    refine kk _ (fr.rf.up rfl) ?_ (fun i hi => ?_) ?_
    · show pm_up H.1 55 12 (nI n) 55 10 = _
      rw [pm_up_self, pk_un (by decide)]
    · show pm_up H.1 55 12 (nI n) 63 i = _
      rw [pm_up_ne _ _ _ (by decide)]
      exact h2 i (by omega)
    · show pm_up H.1 55 12 (nI n) 55 12 = _
      rw [pm_up_self, pk_us]
  | m + 1, j, H, hj, h1, h2, kk => by
    have ih := lp_copyM (d := d) (t := t) (K := K) hn m
    refine b_Mo_law_37 _ _ ?_
    first | refine bt (nI_ge (show j < n by omega) (by omega)) ?_ | refine bf (nI_ge (show j < n by omega) (by omega)) ?_ | refine nt (nI_ge (show j < n by omega) (by omega)) ?_ | refine nf (nI_ge (show j < n by omega) (by omega)) ?_
    rw [nIc (by omega), h1 j (by omega), show nI j + (1 : Int32) = nI (j + 1) from nI_1 j]
    have f1 : fr JL H (pm_up H.1 63 j (t j), H.2) := fr.rf.up rfl
    refine ⟨vp_in_nI (by omega) (by decide), ih (j + 1) _ (by omega) (fun i hi => ?_) (fun i hi => ?_) (fun H' f e1 e2 e3 => kk H' (f1.tr f) ?_ e2 e3)⟩
    · show pm_up H.1 63 j (t j) 62 i = _
      rw [pm_up_ne _ _ _ (by decide)]; exact h1 i hi
    · show pm_up H.1 63 j (t j) 63 i = _
      rw [pm_up_self]
      by_cases e : i = j
      · rw [e, pk_us]
      · rw [pk_un e]; exact h2 i (by omega)
    · rw [e1]
      show pm_up H.1 63 j (t j) 55 10 = _
      rw [pm_up_ne _ _ _ (by decide)]
theorem c_lawM {d n : Nat} {t : Nat → Int32} {L : Law} {H : pmT} {K : Int32 → pmT → Prop} (hT : TapM t n H) (hL : LawM L H) (k1 : ∀ q, pTx (bT t n) n 121 0 = .inl q → ∀ H', fr JL H H' → TapM t 0 H' → LawM L H' → K (-100 - nI q) H') (k2 : ∀ r, pTx (bT t n) n 121 0 = .inr r → ∀ H', fr JL H H' → TapM t 0 H' → LawM (some r.1) H' → K 1 H') : pm_R (d + 71) M_Mo_law [.ref 55] H (pm_i K) := by
  obtain ⟨t1, t2, t3⟩ := hT
  refine m_Mo_law ?_
  rw [t1]
  refine c_workT t2 (Or.inr ⟨rfl, t3⟩) (fun j _ => rfl) (fun q eq v H1 f1 e => ?_) (fun r er H1 f1 e => ?_)
  · have hq := pTx_inl (bT_out (t := t)) 121 0 q (Nat.zero_le _) eq
    rw [e]
    first | refine bt (nI_pos (show q < 2 ^ 31 by omega)) ?_ | refine bf (nI_pos (show q < 2 ^ 31 by omega)) ?_ | refine nt (nI_pos (show q < 2 ^ 31 by omega)) ?_ | refine nf (nI_pos (show q < 2 ^ 31 by omega)) ?_
    have f2 : fr JL H (pm_up H1.1 55 10 (0 : Int32), H1.2) := (f1.mono (S' := JL) rfl).up rfl
    refine k1 q eq _ f2 ⟨?_, by decide, fun j hj => absurd hj (Nat.not_lt_zero _)⟩ ((hL.fr f1 rfl).fr (S := [5511]) (fr.rf.up rfl) rfl)
    show pm_up H1.1 55 10 (0 : Int32) 55 10 = _
    rw [pm_up_self, pk_us]; rfl
  · rw [e]
    first | refine bt (show (-1 : Int32) < 0 by decide) ?_ | refine bf (show (-1 : Int32) < 0 by decide) ?_ | refine nt (show (-1 : Int32) < 0 by decide) ?_ | refine nf (show (-1 : Int32) < 0 by decide) ?_
    rw [show H1.1 55 10 = nI n from (f1.1 55 10 rfl).trans t1]
    have f2 : fr JL H (pm_up H1.1 55 10 (0 : Int32), H1.2) := (f1.mono (S' := JL) rfl).up rfl
    refine lp_copyM t2 n 0 _ (by omega) (fun i hi => (f2.1 62 i rfl).trans (t3 i hi)) (fun i hi => by omega) (fun H' f3 e1 e2 e3 => ?_)
    refine k2 r er H' (f2.tr f3) ⟨e1.trans ?_, by decide, fun j hj => absurd hj (Nat.not_lt_zero _)⟩ ⟨n, t, r, t2, e3, e2, er, rfl⟩
    show pm_up H1.1 55 10 (0 : Int32) 55 10 = _
    rw [pm_up_self, pk_us]; rfl
