/-! deeds of a body: the reference -/
def M_as (a : Nat) : Nat := if a = 0 then M_Mo_playsAs else if a = 1 then M_Mo_addsAs else if a = 2 then M_Mo_fadesAs else M_Mo_tellsAs
theorem as_0_0 {D kd ix f : Nat} (hkd : kd ≤ 7) (ih : ∀ (k a : Nat) (x : Int32) (n : Nat) (tr : Nat → Int32) (r : Nat) (H : pmT) (K : Int32 → pmT → Prop), k ≤ 7 → a ≤ 3 → cn kd f k a = some n → r + n < 1000 → H.1 55 46 = nI kd → H.1 55 47 = nI ix → TrM tr r H → (∀ H', fr [5546, 8000] H H' → TrM (ev kd (nI ix) f k a x tr r).1 (ev kd (nI ix) f k a x tr r).2.1 H' → K (ev kd (nI ix) f k a x tr r).2.2 H') → pm_R (D + f + 1) (M_as a) [.ref 55, .int (nI k), .int x] H (pm_i K)) (x : Int32) (n : Nat) (tr : Nat → Int32) (r : Nat) (H : pmT) (K : Int32 → pmT → Prop) (h : cn kd (f + 1) 0 0 = some n) (hr : r + n < 1000) (h46 : H.1 55 46 = nI kd) (h47 : H.1 55 47 = nI ix) (ht : TrM tr r H) (kk : ∀ H', fr [5546, 8000] H H' → TrM (ev kd (nI ix) (f + 1) 0 0 x tr r).1 (ev kd (nI ix) (f + 1) 0 0 x tr r).2.1 H' → K (ev kd (nI ix) (f + 1) 0 0 x tr r).2.2 H') : pm_R (D + (f + 1) + 1) M_Mo_playsAs [.ref 55, .int (nI 0), .int x] H (pm_i K) := by
    have e : W_cd 0 0 = 1 := by decide +kernel
    rw [cn_1 e] at h
    rw [ev_1 e] at kk
    simp only [] at kk
    rw [e] at kk
    have hn := Option.some.inj h
    have go : ∀ H1, fr [5546, 8000] H H1 → TrM (upd tr r (nI 1)) (r + 1) H1 → K (x + nI ix) H1 := fun H1 f1 t1 => kk H1 f1 t1
    refine m_Mo_playsAs _ _ ?_
    rw [ht.1]
    try rw [h46]
    try rw [h47]
    rw [nI_1 r, nIc (show r < 2 ^ 31 by omega)]
    have z1 : ¬ nI 0 = (1 : Int32) := by decide
    have z2 : ¬ nI 0 = (2 : Int32) := by decide
    have z3 : ¬ nI 0 = (3 : Int32) := by decide
    have z4 : ¬ nI 0 = (4 : Int32) := by decide
    have z5 : ¬ nI 0 = (5 : Int32) := by decide
    have z6 : ¬ nI 0 = (6 : Int32) := by decide
    have z7 : ¬ nI 0 = (7 : Int32) := by decide
    have e24 : ((24 : Int32) ≤ nI r) = (24 ≤ r) := i_le 24 r (by decide) (by omega)
    rw [e24]
    by_cases c24 : 24 ≤ r
    · repeat (first | with_reducible refine bt z1 ?_ | with_reducible refine bf z1 ?_ | with_reducible refine nt z1 ?_ | with_reducible refine nf z1 ?_ | with_reducible refine And.intro z1 ?_ | with_reducible refine bt z2 ?_ | with_reducible refine bf z2 ?_ | with_reducible refine nt z2 ?_ | with_reducible refine nf z2 ?_ | with_reducible refine And.intro z2 ?_ | with_reducible refine bt z3 ?_ | with_reducible refine bf z3 ?_ | with_reducible refine nt z3 ?_ | with_reducible refine nf z3 ?_ | with_reducible refine And.intro z3 ?_ | with_reducible refine bt z4 ?_ | with_reducible refine bf z4 ?_ | with_reducible refine nt z4 ?_ | with_reducible refine nf z4 ?_ | with_reducible refine And.intro z4 ?_ | with_reducible refine bt z5 ?_ | with_reducible refine bf z5 ?_ | with_reducible refine nt z5 ?_ | with_reducible refine nf z5 ?_ | with_reducible refine And.intro z5 ?_ | with_reducible refine bt z6 ?_ | with_reducible refine bf z6 ?_ | with_reducible refine nt z6 ?_ | with_reducible refine nf z6 ?_ | with_reducible refine And.intro z6 ?_ | with_reducible refine bt z7 ?_ | with_reducible refine bf z7 ?_ | with_reducible refine nt z7 ?_ | with_reducible refine nf z7 ?_ | with_reducible refine And.intro z7 ?_ | with_reducible refine bt c24 ?_ | with_reducible refine bf c24 ?_ | with_reducible refine nt c24 ?_ | with_reducible refine nf c24 ?_ | with_reducible refine And.intro c24 ?_)
      exact go _ (fr.rf.up (o := 55) rfl) (ht.s0 c24)
    · have w24 : vp_in (nI r) 24 := vp_in_nI (by omega) (by decide)
      repeat (first | with_reducible refine bt z1 ?_ | with_reducible refine bf z1 ?_ | with_reducible refine nt z1 ?_ | with_reducible refine nf z1 ?_ | with_reducible refine And.intro z1 ?_ | with_reducible refine bt z2 ?_ | with_reducible refine bf z2 ?_ | with_reducible refine nt z2 ?_ | with_reducible refine nf z2 ?_ | with_reducible refine And.intro z2 ?_ | with_reducible refine bt z3 ?_ | with_reducible refine bf z3 ?_ | with_reducible refine nt z3 ?_ | with_reducible refine nf z3 ?_ | with_reducible refine And.intro z3 ?_ | with_reducible refine bt z4 ?_ | with_reducible refine bf z4 ?_ | with_reducible refine nt z4 ?_ | with_reducible refine nf z4 ?_ | with_reducible refine And.intro z4 ?_ | with_reducible refine bt z5 ?_ | with_reducible refine bf z5 ?_ | with_reducible refine nt z5 ?_ | with_reducible refine nf z5 ?_ | with_reducible refine And.intro z5 ?_ | with_reducible refine bt z6 ?_ | with_reducible refine bf z6 ?_ | with_reducible refine nt z6 ?_ | with_reducible refine nf z6 ?_ | with_reducible refine And.intro z6 ?_ | with_reducible refine bt z7 ?_ | with_reducible refine bf z7 ?_ | with_reducible refine nt z7 ?_ | with_reducible refine nf z7 ?_ | with_reducible refine And.intro z7 ?_ | with_reducible refine bt c24 ?_ | with_reducible refine bf c24 ?_ | with_reducible refine nt c24 ?_ | with_reducible refine nf c24 ?_ | with_reducible refine And.intro c24 ?_ | with_reducible refine bt w24 ?_ | with_reducible refine bf w24 ?_ | with_reducible refine nt w24 ?_ | with_reducible refine nf w24 ?_ | with_reducible refine And.intro w24 ?_)
      exact go _ ((fr.rf.up (o := 80) rfl).up (o := 55) rfl) ht.s
theorem as_0_1 {D kd ix f : Nat} (hkd : kd ≤ 7) (ih : ∀ (k a : Nat) (x : Int32) (n : Nat) (tr : Nat → Int32) (r : Nat) (H : pmT) (K : Int32 → pmT → Prop), k ≤ 7 → a ≤ 3 → cn kd f k a = some n → r + n < 1000 → H.1 55 46 = nI kd → H.1 55 47 = nI ix → TrM tr r H → (∀ H', fr [5546, 8000] H H' → TrM (ev kd (nI ix) f k a x tr r).1 (ev kd (nI ix) f k a x tr r).2.1 H' → K (ev kd (nI ix) f k a x tr r).2.2 H') → pm_R (D + f + 1) (M_as a) [.ref 55, .int (nI k), .int x] H (pm_i K)) (x : Int32) (n : Nat) (tr : Nat → Int32) (r : Nat) (H : pmT) (K : Int32 → pmT → Prop) (h : cn kd (f + 1) 1 0 = some n) (hr : r + n < 1000) (h46 : H.1 55 46 = nI kd) (h47 : H.1 55 47 = nI ix) (ht : TrM tr r H) (kk : ∀ H', fr [5546, 8000] H H' → TrM (ev kd (nI ix) (f + 1) 1 0 x tr r).1 (ev kd (nI ix) (f + 1) 1 0 x tr r).2.1 H' → K (ev kd (nI ix) (f + 1) 1 0 x tr r).2.2 H') : pm_R (D + (f + 1) + 1) M_Mo_playsAs [.ref 55, .int (nI 1), .int x] H (pm_i K) := by
    have e : W_cd 1 0 = 20 := by decide +kernel
    rw [cn_20 e] at h
    rw [ev_20 e] at kk
    simp only [] at kk
    rw [e] at kk
    rw [show W_up 1 0 = 0 by decide +kernel] at kk h
    obtain ⟨p, e1, hn⟩ := add1_s h
    have go : ∀ H1, fr [5546, 8000] H H1 → TrM (upd tr r (nI 20)) (r + 1) H1 → pm_R (D + f + 1) M_Mo_playsAs [.ref 55, .int (0 : Int32), .int x] H1 (pm_i fun y H2 => K (y + (3 : Int32)) H2) := fun H1 f1 t1 => ih 0 0 _ p _ _ H1 _ (by decide) (by decide) e1 (by omega) ((f1.1 55 46 rfl).trans h46) ((f1.1 55 47 rfl).trans h47) t1 (fun H2 f2 t2 => kk H2 (f1.tr f2) t2)
    refine m_Mo_playsAs _ _ ?_
    rw [ht.1]
    try rw [h46]
    try rw [h47]
    rw [nI_1 r, nIc (show r < 2 ^ 31 by omega)]
    have z1 : nI 1 = (1 : Int32) := by decide
    have z2 : ¬ nI 1 = (2 : Int32) := by decide
    have z3 : ¬ nI 1 = (3 : Int32) := by decide
    have z4 : ¬ nI 1 = (4 : Int32) := by decide
    have z5 : ¬ nI 1 = (5 : Int32) := by decide
    have z6 : ¬ nI 1 = (6 : Int32) := by decide
    have z7 : ¬ nI 1 = (7 : Int32) := by decide
    have e24 : ((24 : Int32) ≤ nI r) = (24 ≤ r) := i_le 24 r (by decide) (by omega)
    rw [e24]
    by_cases c24 : 24 ≤ r
    · repeat (first | with_reducible refine bt z1 ?_ | with_reducible refine bf z1 ?_ | with_reducible refine nt z1 ?_ | with_reducible refine nf z1 ?_ | with_reducible refine And.intro z1 ?_ | with_reducible refine bt z2 ?_ | with_reducible refine bf z2 ?_ | with_reducible refine nt z2 ?_ | with_reducible refine nf z2 ?_ | with_reducible refine And.intro z2 ?_ | with_reducible refine bt z3 ?_ | with_reducible refine bf z3 ?_ | with_reducible refine nt z3 ?_ | with_reducible refine nf z3 ?_ | with_reducible refine And.intro z3 ?_ | with_reducible refine bt z4 ?_ | with_reducible refine bf z4 ?_ | with_reducible refine nt z4 ?_ | with_reducible refine nf z4 ?_ | with_reducible refine And.intro z4 ?_ | with_reducible refine bt z5 ?_ | with_reducible refine bf z5 ?_ | with_reducible refine nt z5 ?_ | with_reducible refine nf z5 ?_ | with_reducible refine And.intro z5 ?_ | with_reducible refine bt z6 ?_ | with_reducible refine bf z6 ?_ | with_reducible refine nt z6 ?_ | with_reducible refine nf z6 ?_ | with_reducible refine And.intro z6 ?_ | with_reducible refine bt z7 ?_ | with_reducible refine bf z7 ?_ | with_reducible refine nt z7 ?_ | with_reducible refine nf z7 ?_ | with_reducible refine And.intro z7 ?_ | with_reducible refine bt c24 ?_ | with_reducible refine bf c24 ?_ | with_reducible refine nt c24 ?_ | with_reducible refine nf c24 ?_ | with_reducible refine And.intro c24 ?_)
      exact go _ (fr.rf.up (o := 55) rfl) (ht.s0 c24)
    · have w24 : vp_in (nI r) 24 := vp_in_nI (by omega) (by decide)
      repeat (first | with_reducible refine bt z1 ?_ | with_reducible refine bf z1 ?_ | with_reducible refine nt z1 ?_ | with_reducible refine nf z1 ?_ | with_reducible refine And.intro z1 ?_ | with_reducible refine bt z2 ?_ | with_reducible refine bf z2 ?_ | with_reducible refine nt z2 ?_ | with_reducible refine nf z2 ?_ | with_reducible refine And.intro z2 ?_ | with_reducible refine bt z3 ?_ | with_reducible refine bf z3 ?_ | with_reducible refine nt z3 ?_ | with_reducible refine nf z3 ?_ | with_reducible refine And.intro z3 ?_ | with_reducible refine bt z4 ?_ | with_reducible refine bf z4 ?_ | with_reducible refine nt z4 ?_ | with_reducible refine nf z4 ?_ | with_reducible refine And.intro z4 ?_ | with_reducible refine bt z5 ?_ | with_reducible refine bf z5 ?_ | with_reducible refine nt z5 ?_ | with_reducible refine nf z5 ?_ | with_reducible refine And.intro z5 ?_ | with_reducible refine bt z6 ?_ | with_reducible refine bf z6 ?_ | with_reducible refine nt z6 ?_ | with_reducible refine nf z6 ?_ | with_reducible refine And.intro z6 ?_ | with_reducible refine bt z7 ?_ | with_reducible refine bf z7 ?_ | with_reducible refine nt z7 ?_ | with_reducible refine nf z7 ?_ | with_reducible refine And.intro z7 ?_ | with_reducible refine bt c24 ?_ | with_reducible refine bf c24 ?_ | with_reducible refine nt c24 ?_ | with_reducible refine nf c24 ?_ | with_reducible refine And.intro c24 ?_ | with_reducible refine bt w24 ?_ | with_reducible refine bf w24 ?_ | with_reducible refine nt w24 ?_ | with_reducible refine nf w24 ?_ | with_reducible refine And.intro w24 ?_)
      exact go _ ((fr.rf.up (o := 80) rfl).up (o := 55) rfl) ht.s
theorem as_0_2 {D kd ix f : Nat} (hkd : kd ≤ 7) (ih : ∀ (k a : Nat) (x : Int32) (n : Nat) (tr : Nat → Int32) (r : Nat) (H : pmT) (K : Int32 → pmT → Prop), k ≤ 7 → a ≤ 3 → cn kd f k a = some n → r + n < 1000 → H.1 55 46 = nI kd → H.1 55 47 = nI ix → TrM tr r H → (∀ H', fr [5546, 8000] H H' → TrM (ev kd (nI ix) f k a x tr r).1 (ev kd (nI ix) f k a x tr r).2.1 H' → K (ev kd (nI ix) f k a x tr r).2.2 H') → pm_R (D + f + 1) (M_as a) [.ref 55, .int (nI k), .int x] H (pm_i K)) (x : Int32) (n : Nat) (tr : Nat → Int32) (r : Nat) (H : pmT) (K : Int32 → pmT → Prop) (h : cn kd (f + 1) 2 0 = some n) (hr : r + n < 1000) (h46 : H.1 55 46 = nI kd) (h47 : H.1 55 47 = nI ix) (ht : TrM tr r H) (kk : ∀ H', fr [5546, 8000] H H' → TrM (ev kd (nI ix) (f + 1) 2 0 x tr r).1 (ev kd (nI ix) (f + 1) 2 0 x tr r).2.1 H' → K (ev kd (nI ix) (f + 1) 2 0 x tr r).2.2 H') : pm_R (D + (f + 1) + 1) M_Mo_playsAs [.ref 55, .int (nI 2), .int x] H (pm_i K) := by
    have e : W_cd 2 0 = 1 := by decide +kernel
    rw [cn_1 e] at h
    rw [ev_1 e] at kk
    simp only [] at kk
    rw [e] at kk
    have hn := Option.some.inj h
    have go : ∀ H1, fr [5546, 8000] H H1 → TrM (upd tr r (nI 1)) (r + 1) H1 → K (x + nI ix) H1 := fun H1 f1 t1 => kk H1 f1 t1
    refine m_Mo_playsAs _ _ ?_
    rw [ht.1]
    try rw [h46]
    try rw [h47]
    rw [nI_1 r, nIc (show r < 2 ^ 31 by omega)]
    have z1 : ¬ nI 2 = (1 : Int32) := by decide
    have z2 : nI 2 = (2 : Int32) := by decide
    have z3 : ¬ nI 2 = (3 : Int32) := by decide
    have z4 : ¬ nI 2 = (4 : Int32) := by decide
    have z5 : ¬ nI 2 = (5 : Int32) := by decide
    have z6 : ¬ nI 2 = (6 : Int32) := by decide
    have z7 : ¬ nI 2 = (7 : Int32) := by decide
    have e24 : ((24 : Int32) ≤ nI r) = (24 ≤ r) := i_le 24 r (by decide) (by omega)
    rw [e24]
    by_cases c24 : 24 ≤ r
    · repeat (first | with_reducible refine bt z1 ?_ | with_reducible refine bf z1 ?_ | with_reducible refine nt z1 ?_ | with_reducible refine nf z1 ?_ | with_reducible refine And.intro z1 ?_ | with_reducible refine bt z2 ?_ | with_reducible refine bf z2 ?_ | with_reducible refine nt z2 ?_ | with_reducible refine nf z2 ?_ | with_reducible refine And.intro z2 ?_ | with_reducible refine bt z3 ?_ | with_reducible refine bf z3 ?_ | with_reducible refine nt z3 ?_ | with_reducible refine nf z3 ?_ | with_reducible refine And.intro z3 ?_ | with_reducible refine bt z4 ?_ | with_reducible refine bf z4 ?_ | with_reducible refine nt z4 ?_ | with_reducible refine nf z4 ?_ | with_reducible refine And.intro z4 ?_ | with_reducible refine bt z5 ?_ | with_reducible refine bf z5 ?_ | with_reducible refine nt z5 ?_ | with_reducible refine nf z5 ?_ | with_reducible refine And.intro z5 ?_ | with_reducible refine bt z6 ?_ | with_reducible refine bf z6 ?_ | with_reducible refine nt z6 ?_ | with_reducible refine nf z6 ?_ | with_reducible refine And.intro z6 ?_ | with_reducible refine bt z7 ?_ | with_reducible refine bf z7 ?_ | with_reducible refine nt z7 ?_ | with_reducible refine nf z7 ?_ | with_reducible refine And.intro z7 ?_ | with_reducible refine bt c24 ?_ | with_reducible refine bf c24 ?_ | with_reducible refine nt c24 ?_ | with_reducible refine nf c24 ?_ | with_reducible refine And.intro c24 ?_)
      exact go _ (fr.rf.up (o := 55) rfl) (ht.s0 c24)
    · have w24 : vp_in (nI r) 24 := vp_in_nI (by omega) (by decide)
      repeat (first | with_reducible refine bt z1 ?_ | with_reducible refine bf z1 ?_ | with_reducible refine nt z1 ?_ | with_reducible refine nf z1 ?_ | with_reducible refine And.intro z1 ?_ | with_reducible refine bt z2 ?_ | with_reducible refine bf z2 ?_ | with_reducible refine nt z2 ?_ | with_reducible refine nf z2 ?_ | with_reducible refine And.intro z2 ?_ | with_reducible refine bt z3 ?_ | with_reducible refine bf z3 ?_ | with_reducible refine nt z3 ?_ | with_reducible refine nf z3 ?_ | with_reducible refine And.intro z3 ?_ | with_reducible refine bt z4 ?_ | with_reducible refine bf z4 ?_ | with_reducible refine nt z4 ?_ | with_reducible refine nf z4 ?_ | with_reducible refine And.intro z4 ?_ | with_reducible refine bt z5 ?_ | with_reducible refine bf z5 ?_ | with_reducible refine nt z5 ?_ | with_reducible refine nf z5 ?_ | with_reducible refine And.intro z5 ?_ | with_reducible refine bt z6 ?_ | with_reducible refine bf z6 ?_ | with_reducible refine nt z6 ?_ | with_reducible refine nf z6 ?_ | with_reducible refine And.intro z6 ?_ | with_reducible refine bt z7 ?_ | with_reducible refine bf z7 ?_ | with_reducible refine nt z7 ?_ | with_reducible refine nf z7 ?_ | with_reducible refine And.intro z7 ?_ | with_reducible refine bt c24 ?_ | with_reducible refine bf c24 ?_ | with_reducible refine nt c24 ?_ | with_reducible refine nf c24 ?_ | with_reducible refine And.intro c24 ?_ | with_reducible refine bt w24 ?_ | with_reducible refine bf w24 ?_ | with_reducible refine nt w24 ?_ | with_reducible refine nf w24 ?_ | with_reducible refine And.intro w24 ?_)
      exact go _ ((fr.rf.up (o := 80) rfl).up (o := 55) rfl) ht.s
theorem as_0_3 {D kd ix f : Nat} (hkd : kd ≤ 7) (ih : ∀ (k a : Nat) (x : Int32) (n : Nat) (tr : Nat → Int32) (r : Nat) (H : pmT) (K : Int32 → pmT → Prop), k ≤ 7 → a ≤ 3 → cn kd f k a = some n → r + n < 1000 → H.1 55 46 = nI kd → H.1 55 47 = nI ix → TrM tr r H → (∀ H', fr [5546, 8000] H H' → TrM (ev kd (nI ix) f k a x tr r).1 (ev kd (nI ix) f k a x tr r).2.1 H' → K (ev kd (nI ix) f k a x tr r).2.2 H') → pm_R (D + f + 1) (M_as a) [.ref 55, .int (nI k), .int x] H (pm_i K)) (x : Int32) (n : Nat) (tr : Nat → Int32) (r : Nat) (H : pmT) (K : Int32 → pmT → Prop) (h : cn kd (f + 1) 3 0 = some n) (hr : r + n < 1000) (h46 : H.1 55 46 = nI kd) (h47 : H.1 55 47 = nI ix) (ht : TrM tr r H) (kk : ∀ H', fr [5546, 8000] H H' → TrM (ev kd (nI ix) (f + 1) 3 0 x tr r).1 (ev kd (nI ix) (f + 1) 3 0 x tr r).2.1 H' → K (ev kd (nI ix) (f + 1) 3 0 x tr r).2.2 H') : pm_R (D + (f + 1) + 1) M_Mo_playsAs [.ref 55, .int (nI 3), .int x] H (pm_i K) := by
    have e : W_cd 3 0 = 1 := by decide +kernel
    rw [cn_1 e] at h
    rw [ev_1 e] at kk
    simp only [] at kk
    rw [e] at kk
    have hn := Option.some.inj h
    have go : ∀ H1, fr [5546, 8000] H H1 → TrM (upd tr r (nI 1)) (r + 1) H1 → K (x + nI ix) H1 := fun H1 f1 t1 => kk H1 f1 t1
    refine m_Mo_playsAs _ _ ?_
    rw [ht.1]
    try rw [h46]
    try rw [h47]
    rw [nI_1 r, nIc (show r < 2 ^ 31 by omega)]
    have z1 : ¬ nI 3 = (1 : Int32) := by decide
    have z2 : ¬ nI 3 = (2 : Int32) := by decide
    have z3 : nI 3 = (3 : Int32) := by decide
    have z4 : ¬ nI 3 = (4 : Int32) := by decide
    have z5 : ¬ nI 3 = (5 : Int32) := by decide
    have z6 : ¬ nI 3 = (6 : Int32) := by decide
    have z7 : ¬ nI 3 = (7 : Int32) := by decide
    have e24 : ((24 : Int32) ≤ nI r) = (24 ≤ r) := i_le 24 r (by decide) (by omega)
    rw [e24]
    by_cases c24 : 24 ≤ r
    · repeat (first | with_reducible refine bt z1 ?_ | with_reducible refine bf z1 ?_ | with_reducible refine nt z1 ?_ | with_reducible refine nf z1 ?_ | with_reducible refine And.intro z1 ?_ | with_reducible refine bt z2 ?_ | with_reducible refine bf z2 ?_ | with_reducible refine nt z2 ?_ | with_reducible refine nf z2 ?_ | with_reducible refine And.intro z2 ?_ | with_reducible refine bt z3 ?_ | with_reducible refine bf z3 ?_ | with_reducible refine nt z3 ?_ | with_reducible refine nf z3 ?_ | with_reducible refine And.intro z3 ?_ | with_reducible refine bt z4 ?_ | with_reducible refine bf z4 ?_ | with_reducible refine nt z4 ?_ | with_reducible refine nf z4 ?_ | with_reducible refine And.intro z4 ?_ | with_reducible refine bt z5 ?_ | with_reducible refine bf z5 ?_ | with_reducible refine nt z5 ?_ | with_reducible refine nf z5 ?_ | with_reducible refine And.intro z5 ?_ | with_reducible refine bt z6 ?_ | with_reducible refine bf z6 ?_ | with_reducible refine nt z6 ?_ | with_reducible refine nf z6 ?_ | with_reducible refine And.intro z6 ?_ | with_reducible refine bt z7 ?_ | with_reducible refine bf z7 ?_ | with_reducible refine nt z7 ?_ | with_reducible refine nf z7 ?_ | with_reducible refine And.intro z7 ?_ | with_reducible refine bt c24 ?_ | with_reducible refine bf c24 ?_ | with_reducible refine nt c24 ?_ | with_reducible refine nf c24 ?_ | with_reducible refine And.intro c24 ?_)
      exact go _ (fr.rf.up (o := 55) rfl) (ht.s0 c24)
    · have w24 : vp_in (nI r) 24 := vp_in_nI (by omega) (by decide)
      repeat (first | with_reducible refine bt z1 ?_ | with_reducible refine bf z1 ?_ | with_reducible refine nt z1 ?_ | with_reducible refine nf z1 ?_ | with_reducible refine And.intro z1 ?_ | with_reducible refine bt z2 ?_ | with_reducible refine bf z2 ?_ | with_reducible refine nt z2 ?_ | with_reducible refine nf z2 ?_ | with_reducible refine And.intro z2 ?_ | with_reducible refine bt z3 ?_ | with_reducible refine bf z3 ?_ | with_reducible refine nt z3 ?_ | with_reducible refine nf z3 ?_ | with_reducible refine And.intro z3 ?_ | with_reducible refine bt z4 ?_ | with_reducible refine bf z4 ?_ | with_reducible refine nt z4 ?_ | with_reducible refine nf z4 ?_ | with_reducible refine And.intro z4 ?_ | with_reducible refine bt z5 ?_ | with_reducible refine bf z5 ?_ | with_reducible refine nt z5 ?_ | with_reducible refine nf z5 ?_ | with_reducible refine And.intro z5 ?_ | with_reducible refine bt z6 ?_ | with_reducible refine bf z6 ?_ | with_reducible refine nt z6 ?_ | with_reducible refine nf z6 ?_ | with_reducible refine And.intro z6 ?_ | with_reducible refine bt z7 ?_ | with_reducible refine bf z7 ?_ | with_reducible refine nt z7 ?_ | with_reducible refine nf z7 ?_ | with_reducible refine And.intro z7 ?_ | with_reducible refine bt c24 ?_ | with_reducible refine bf c24 ?_ | with_reducible refine nt c24 ?_ | with_reducible refine nf c24 ?_ | with_reducible refine And.intro c24 ?_ | with_reducible refine bt w24 ?_ | with_reducible refine bf w24 ?_ | with_reducible refine nt w24 ?_ | with_reducible refine nf w24 ?_ | with_reducible refine And.intro w24 ?_)
      exact go _ ((fr.rf.up (o := 80) rfl).up (o := 55) rfl) ht.s
theorem as_0_4 {D kd ix f : Nat} (hkd : kd ≤ 7) (ih : ∀ (k a : Nat) (x : Int32) (n : Nat) (tr : Nat → Int32) (r : Nat) (H : pmT) (K : Int32 → pmT → Prop), k ≤ 7 → a ≤ 3 → cn kd f k a = some n → r + n < 1000 → H.1 55 46 = nI kd → H.1 55 47 = nI ix → TrM tr r H → (∀ H', fr [5546, 8000] H H' → TrM (ev kd (nI ix) f k a x tr r).1 (ev kd (nI ix) f k a x tr r).2.1 H' → K (ev kd (nI ix) f k a x tr r).2.2 H') → pm_R (D + f + 1) (M_as a) [.ref 55, .int (nI k), .int x] H (pm_i K)) (x : Int32) (n : Nat) (tr : Nat → Int32) (r : Nat) (H : pmT) (K : Int32 → pmT → Prop) (h : cn kd (f + 1) 4 0 = some n) (hr : r + n < 1000) (h46 : H.1 55 46 = nI kd) (h47 : H.1 55 47 = nI ix) (ht : TrM tr r H) (kk : ∀ H', fr [5546, 8000] H H' → TrM (ev kd (nI ix) (f + 1) 4 0 x tr r).1 (ev kd (nI ix) (f + 1) 4 0 x tr r).2.1 H' → K (ev kd (nI ix) (f + 1) 4 0 x tr r).2.2 H') : pm_R (D + (f + 1) + 1) M_Mo_playsAs [.ref 55, .int (nI 4), .int x] H (pm_i K) := by
    have e : W_cd 4 0 = 20 := by decide +kernel
    rw [cn_20 e] at h
    rw [ev_20 e] at kk
    simp only [] at kk
    rw [e] at kk
    rw [show W_up 4 0 = 0 by decide +kernel] at kk h
    obtain ⟨p, e1, hn⟩ := add1_s h
    have go : ∀ H1, fr [5546, 8000] H H1 → TrM (upd tr r (nI 20)) (r + 1) H1 → pm_R (D + f + 1) M_Mo_playsAs [.ref 55, .int (0 : Int32), .int x] H1 (pm_i fun y H2 => K (y + (3 : Int32)) H2) := fun H1 f1 t1 => ih 0 0 _ p _ _ H1 _ (by decide) (by decide) e1 (by omega) ((f1.1 55 46 rfl).trans h46) ((f1.1 55 47 rfl).trans h47) t1 (fun H2 f2 t2 => kk H2 (f1.tr f2) t2)
    refine m_Mo_playsAs _ _ ?_
    rw [ht.1]
    try rw [h46]
    try rw [h47]
    rw [nI_1 r, nIc (show r < 2 ^ 31 by omega)]
    have z1 : ¬ nI 4 = (1 : Int32) := by decide
    have z2 : ¬ nI 4 = (2 : Int32) := by decide
    have z3 : ¬ nI 4 = (3 : Int32) := by decide
    have z4 : nI 4 = (4 : Int32) := by decide
    have z5 : ¬ nI 4 = (5 : Int32) := by decide
    have z6 : ¬ nI 4 = (6 : Int32) := by decide
    have z7 : ¬ nI 4 = (7 : Int32) := by decide
    have e24 : ((24 : Int32) ≤ nI r) = (24 ≤ r) := i_le 24 r (by decide) (by omega)
    rw [e24]
    by_cases c24 : 24 ≤ r
    · repeat (first | with_reducible refine bt z1 ?_ | with_reducible refine bf z1 ?_ | with_reducible refine nt z1 ?_ | with_reducible refine nf z1 ?_ | with_reducible refine And.intro z1 ?_ | with_reducible refine bt z2 ?_ | with_reducible refine bf z2 ?_ | with_reducible refine nt z2 ?_ | with_reducible refine nf z2 ?_ | with_reducible refine And.intro z2 ?_ | with_reducible refine bt z3 ?_ | with_reducible refine bf z3 ?_ | with_reducible refine nt z3 ?_ | with_reducible refine nf z3 ?_ | with_reducible refine And.intro z3 ?_ | with_reducible refine bt z4 ?_ | with_reducible refine bf z4 ?_ | with_reducible refine nt z4 ?_ | with_reducible refine nf z4 ?_ | with_reducible refine And.intro z4 ?_ | with_reducible refine bt z5 ?_ | with_reducible refine bf z5 ?_ | with_reducible refine nt z5 ?_ | with_reducible refine nf z5 ?_ | with_reducible refine And.intro z5 ?_ | with_reducible refine bt z6 ?_ | with_reducible refine bf z6 ?_ | with_reducible refine nt z6 ?_ | with_reducible refine nf z6 ?_ | with_reducible refine And.intro z6 ?_ | with_reducible refine bt z7 ?_ | with_reducible refine bf z7 ?_ | with_reducible refine nt z7 ?_ | with_reducible refine nf z7 ?_ | with_reducible refine And.intro z7 ?_ | with_reducible refine bt c24 ?_ | with_reducible refine bf c24 ?_ | with_reducible refine nt c24 ?_ | with_reducible refine nf c24 ?_ | with_reducible refine And.intro c24 ?_)
      exact go _ (fr.rf.up (o := 55) rfl) (ht.s0 c24)
    · have w24 : vp_in (nI r) 24 := vp_in_nI (by omega) (by decide)
      repeat (first | with_reducible refine bt z1 ?_ | with_reducible refine bf z1 ?_ | with_reducible refine nt z1 ?_ | with_reducible refine nf z1 ?_ | with_reducible refine And.intro z1 ?_ | with_reducible refine bt z2 ?_ | with_reducible refine bf z2 ?_ | with_reducible refine nt z2 ?_ | with_reducible refine nf z2 ?_ | with_reducible refine And.intro z2 ?_ | with_reducible refine bt z3 ?_ | with_reducible refine bf z3 ?_ | with_reducible refine nt z3 ?_ | with_reducible refine nf z3 ?_ | with_reducible refine And.intro z3 ?_ | with_reducible refine bt z4 ?_ | with_reducible refine bf z4 ?_ | with_reducible refine nt z4 ?_ | with_reducible refine nf z4 ?_ | with_reducible refine And.intro z4 ?_ | with_reducible refine bt z5 ?_ | with_reducible refine bf z5 ?_ | with_reducible refine nt z5 ?_ | with_reducible refine nf z5 ?_ | with_reducible refine And.intro z5 ?_ | with_reducible refine bt z6 ?_ | with_reducible refine bf z6 ?_ | with_reducible refine nt z6 ?_ | with_reducible refine nf z6 ?_ | with_reducible refine And.intro z6 ?_ | with_reducible refine bt z7 ?_ | with_reducible refine bf z7 ?_ | with_reducible refine nt z7 ?_ | with_reducible refine nf z7 ?_ | with_reducible refine And.intro z7 ?_ | with_reducible refine bt c24 ?_ | with_reducible refine bf c24 ?_ | with_reducible refine nt c24 ?_ | with_reducible refine nf c24 ?_ | with_reducible refine And.intro c24 ?_ | with_reducible refine bt w24 ?_ | with_reducible refine bf w24 ?_ | with_reducible refine nt w24 ?_ | with_reducible refine nf w24 ?_ | with_reducible refine And.intro w24 ?_)
      exact go _ ((fr.rf.up (o := 80) rfl).up (o := 55) rfl) ht.s
theorem as_0_5 {D kd ix f : Nat} (hkd : kd ≤ 7) (ih : ∀ (k a : Nat) (x : Int32) (n : Nat) (tr : Nat → Int32) (r : Nat) (H : pmT) (K : Int32 → pmT → Prop), k ≤ 7 → a ≤ 3 → cn kd f k a = some n → r + n < 1000 → H.1 55 46 = nI kd → H.1 55 47 = nI ix → TrM tr r H → (∀ H', fr [5546, 8000] H H' → TrM (ev kd (nI ix) f k a x tr r).1 (ev kd (nI ix) f k a x tr r).2.1 H' → K (ev kd (nI ix) f k a x tr r).2.2 H') → pm_R (D + f + 1) (M_as a) [.ref 55, .int (nI k), .int x] H (pm_i K)) (x : Int32) (n : Nat) (tr : Nat → Int32) (r : Nat) (H : pmT) (K : Int32 → pmT → Prop) (h : cn kd (f + 1) 5 0 = some n) (hr : r + n < 1000) (h46 : H.1 55 46 = nI kd) (h47 : H.1 55 47 = nI ix) (ht : TrM tr r H) (kk : ∀ H', fr [5546, 8000] H H' → TrM (ev kd (nI ix) (f + 1) 5 0 x tr r).1 (ev kd (nI ix) (f + 1) 5 0 x tr r).2.1 H' → K (ev kd (nI ix) (f + 1) 5 0 x tr r).2.2 H') : pm_R (D + (f + 1) + 1) M_Mo_playsAs [.ref 55, .int (nI 5), .int x] H (pm_i K) := by
    have e : W_cd 5 0 = 1 := by decide +kernel
    rw [cn_1 e] at h
    rw [ev_1 e] at kk
    simp only [] at kk
    rw [e] at kk
    have hn := Option.some.inj h
    have go : ∀ H1, fr [5546, 8000] H H1 → TrM (upd tr r (nI 1)) (r + 1) H1 → K (x + nI ix) H1 := fun H1 f1 t1 => kk H1 f1 t1
    refine m_Mo_playsAs _ _ ?_
    rw [ht.1]
    try rw [h46]
    try rw [h47]
    rw [nI_1 r, nIc (show r < 2 ^ 31 by omega)]
    have z1 : ¬ nI 5 = (1 : Int32) := by decide
    have z2 : ¬ nI 5 = (2 : Int32) := by decide
    have z3 : ¬ nI 5 = (3 : Int32) := by decide
    have z4 : ¬ nI 5 = (4 : Int32) := by decide
    have z5 : nI 5 = (5 : Int32) := by decide
    have z6 : ¬ nI 5 = (6 : Int32) := by decide
    have z7 : ¬ nI 5 = (7 : Int32) := by decide
    have e24 : ((24 : Int32) ≤ nI r) = (24 ≤ r) := i_le 24 r (by decide) (by omega)
    rw [e24]
    by_cases c24 : 24 ≤ r
    · repeat (first | with_reducible refine bt z1 ?_ | with_reducible refine bf z1 ?_ | with_reducible refine nt z1 ?_ | with_reducible refine nf z1 ?_ | with_reducible refine And.intro z1 ?_ | with_reducible refine bt z2 ?_ | with_reducible refine bf z2 ?_ | with_reducible refine nt z2 ?_ | with_reducible refine nf z2 ?_ | with_reducible refine And.intro z2 ?_ | with_reducible refine bt z3 ?_ | with_reducible refine bf z3 ?_ | with_reducible refine nt z3 ?_ | with_reducible refine nf z3 ?_ | with_reducible refine And.intro z3 ?_ | with_reducible refine bt z4 ?_ | with_reducible refine bf z4 ?_ | with_reducible refine nt z4 ?_ | with_reducible refine nf z4 ?_ | with_reducible refine And.intro z4 ?_ | with_reducible refine bt z5 ?_ | with_reducible refine bf z5 ?_ | with_reducible refine nt z5 ?_ | with_reducible refine nf z5 ?_ | with_reducible refine And.intro z5 ?_ | with_reducible refine bt z6 ?_ | with_reducible refine bf z6 ?_ | with_reducible refine nt z6 ?_ | with_reducible refine nf z6 ?_ | with_reducible refine And.intro z6 ?_ | with_reducible refine bt z7 ?_ | with_reducible refine bf z7 ?_ | with_reducible refine nt z7 ?_ | with_reducible refine nf z7 ?_ | with_reducible refine And.intro z7 ?_ | with_reducible refine bt c24 ?_ | with_reducible refine bf c24 ?_ | with_reducible refine nt c24 ?_ | with_reducible refine nf c24 ?_ | with_reducible refine And.intro c24 ?_)
      exact go _ (fr.rf.up (o := 55) rfl) (ht.s0 c24)
    · have w24 : vp_in (nI r) 24 := vp_in_nI (by omega) (by decide)
      repeat (first | with_reducible refine bt z1 ?_ | with_reducible refine bf z1 ?_ | with_reducible refine nt z1 ?_ | with_reducible refine nf z1 ?_ | with_reducible refine And.intro z1 ?_ | with_reducible refine bt z2 ?_ | with_reducible refine bf z2 ?_ | with_reducible refine nt z2 ?_ | with_reducible refine nf z2 ?_ | with_reducible refine And.intro z2 ?_ | with_reducible refine bt z3 ?_ | with_reducible refine bf z3 ?_ | with_reducible refine nt z3 ?_ | with_reducible refine nf z3 ?_ | with_reducible refine And.intro z3 ?_ | with_reducible refine bt z4 ?_ | with_reducible refine bf z4 ?_ | with_reducible refine nt z4 ?_ | with_reducible refine nf z4 ?_ | with_reducible refine And.intro z4 ?_ | with_reducible refine bt z5 ?_ | with_reducible refine bf z5 ?_ | with_reducible refine nt z5 ?_ | with_reducible refine nf z5 ?_ | with_reducible refine And.intro z5 ?_ | with_reducible refine bt z6 ?_ | with_reducible refine bf z6 ?_ | with_reducible refine nt z6 ?_ | with_reducible refine nf z6 ?_ | with_reducible refine And.intro z6 ?_ | with_reducible refine bt z7 ?_ | with_reducible refine bf z7 ?_ | with_reducible refine nt z7 ?_ | with_reducible refine nf z7 ?_ | with_reducible refine And.intro z7 ?_ | with_reducible refine bt c24 ?_ | with_reducible refine bf c24 ?_ | with_reducible refine nt c24 ?_ | with_reducible refine nf c24 ?_ | with_reducible refine And.intro c24 ?_ | with_reducible refine bt w24 ?_ | with_reducible refine bf w24 ?_ | with_reducible refine nt w24 ?_ | with_reducible refine nf w24 ?_ | with_reducible refine And.intro w24 ?_)
      exact go _ ((fr.rf.up (o := 80) rfl).up (o := 55) rfl) ht.s
theorem as_0_6 {D kd ix f : Nat} (hkd : kd ≤ 7) (ih : ∀ (k a : Nat) (x : Int32) (n : Nat) (tr : Nat → Int32) (r : Nat) (H : pmT) (K : Int32 → pmT → Prop), k ≤ 7 → a ≤ 3 → cn kd f k a = some n → r + n < 1000 → H.1 55 46 = nI kd → H.1 55 47 = nI ix → TrM tr r H → (∀ H', fr [5546, 8000] H H' → TrM (ev kd (nI ix) f k a x tr r).1 (ev kd (nI ix) f k a x tr r).2.1 H' → K (ev kd (nI ix) f k a x tr r).2.2 H') → pm_R (D + f + 1) (M_as a) [.ref 55, .int (nI k), .int x] H (pm_i K)) (x : Int32) (n : Nat) (tr : Nat → Int32) (r : Nat) (H : pmT) (K : Int32 → pmT → Prop) (h : cn kd (f + 1) 6 0 = some n) (hr : r + n < 1000) (h46 : H.1 55 46 = nI kd) (h47 : H.1 55 47 = nI ix) (ht : TrM tr r H) (kk : ∀ H', fr [5546, 8000] H H' → TrM (ev kd (nI ix) (f + 1) 6 0 x tr r).1 (ev kd (nI ix) (f + 1) 6 0 x tr r).2.1 H' → K (ev kd (nI ix) (f + 1) 6 0 x tr r).2.2 H') : pm_R (D + (f + 1) + 1) M_Mo_playsAs [.ref 55, .int (nI 6), .int x] H (pm_i K) := by
    have e : W_cd 6 0 = 70 := by decide +kernel
    rw [cn_70 e] at h
    rw [ev_70 e] at kk
    simp only [] at kk
    rw [e] at kk
    rw [show W_up 6 0 = 0 by decide +kernel] at kk h
    obtain ⟨p, e1, hn⟩ := add1_s h
    have go : ∀ H1, fr [5546, 8000] H H1 → TrM (upd tr r (nI 70)) (r + 1) H1 → pm_R (D + f + 1) M_Mo_playsAs [.ref 55, .int (0 : Int32), .int x] H1 (pm_i fun y H2 => K (y * (2 : Int32)) H2) := fun H1 f1 t1 => ih 0 0 _ p _ _ H1 _ (by decide) (by decide) e1 (by omega) ((f1.1 55 46 rfl).trans h46) ((f1.1 55 47 rfl).trans h47) t1 (fun H2 f2 t2 => kk H2 (f1.tr f2) t2)
    refine m_Mo_playsAs _ _ ?_
    rw [ht.1]
    try rw [h46]
    try rw [h47]
    rw [nI_1 r, nIc (show r < 2 ^ 31 by omega)]
    have z1 : ¬ nI 6 = (1 : Int32) := by decide
    have z2 : ¬ nI 6 = (2 : Int32) := by decide
    have z3 : ¬ nI 6 = (3 : Int32) := by decide
    have z4 : ¬ nI 6 = (4 : Int32) := by decide
    have z5 : ¬ nI 6 = (5 : Int32) := by decide
    have z6 : nI 6 = (6 : Int32) := by decide
    have z7 : ¬ nI 6 = (7 : Int32) := by decide
    have e24 : ((24 : Int32) ≤ nI r) = (24 ≤ r) := i_le 24 r (by decide) (by omega)
    rw [e24]
    by_cases c24 : 24 ≤ r
    · repeat (first | with_reducible refine bt z1 ?_ | with_reducible refine bf z1 ?_ | with_reducible refine nt z1 ?_ | with_reducible refine nf z1 ?_ | with_reducible refine And.intro z1 ?_ | with_reducible refine bt z2 ?_ | with_reducible refine bf z2 ?_ | with_reducible refine nt z2 ?_ | with_reducible refine nf z2 ?_ | with_reducible refine And.intro z2 ?_ | with_reducible refine bt z3 ?_ | with_reducible refine bf z3 ?_ | with_reducible refine nt z3 ?_ | with_reducible refine nf z3 ?_ | with_reducible refine And.intro z3 ?_ | with_reducible refine bt z4 ?_ | with_reducible refine bf z4 ?_ | with_reducible refine nt z4 ?_ | with_reducible refine nf z4 ?_ | with_reducible refine And.intro z4 ?_ | with_reducible refine bt z5 ?_ | with_reducible refine bf z5 ?_ | with_reducible refine nt z5 ?_ | with_reducible refine nf z5 ?_ | with_reducible refine And.intro z5 ?_ | with_reducible refine bt z6 ?_ | with_reducible refine bf z6 ?_ | with_reducible refine nt z6 ?_ | with_reducible refine nf z6 ?_ | with_reducible refine And.intro z6 ?_ | with_reducible refine bt z7 ?_ | with_reducible refine bf z7 ?_ | with_reducible refine nt z7 ?_ | with_reducible refine nf z7 ?_ | with_reducible refine And.intro z7 ?_ | with_reducible refine bt c24 ?_ | with_reducible refine bf c24 ?_ | with_reducible refine nt c24 ?_ | with_reducible refine nf c24 ?_ | with_reducible refine And.intro c24 ?_)
      exact go _ (fr.rf.up (o := 55) rfl) (ht.s0 c24)
    · have w24 : vp_in (nI r) 24 := vp_in_nI (by omega) (by decide)
      repeat (first | with_reducible refine bt z1 ?_ | with_reducible refine bf z1 ?_ | with_reducible refine nt z1 ?_ | with_reducible refine nf z1 ?_ | with_reducible refine And.intro z1 ?_ | with_reducible refine bt z2 ?_ | with_reducible refine bf z2 ?_ | with_reducible refine nt z2 ?_ | with_reducible refine nf z2 ?_ | with_reducible refine And.intro z2 ?_ | with_reducible refine bt z3 ?_ | with_reducible refine bf z3 ?_ | with_reducible refine nt z3 ?_ | with_reducible refine nf z3 ?_ | with_reducible refine And.intro z3 ?_ | with_reducible refine bt z4 ?_ | with_reducible refine bf z4 ?_ | with_reducible refine nt z4 ?_ | with_reducible refine nf z4 ?_ | with_reducible refine And.intro z4 ?_ | with_reducible refine bt z5 ?_ | with_reducible refine bf z5 ?_ | with_reducible refine nt z5 ?_ | with_reducible refine nf z5 ?_ | with_reducible refine And.intro z5 ?_ | with_reducible refine bt z6 ?_ | with_reducible refine bf z6 ?_ | with_reducible refine nt z6 ?_ | with_reducible refine nf z6 ?_ | with_reducible refine And.intro z6 ?_ | with_reducible refine bt z7 ?_ | with_reducible refine bf z7 ?_ | with_reducible refine nt z7 ?_ | with_reducible refine nf z7 ?_ | with_reducible refine And.intro z7 ?_ | with_reducible refine bt c24 ?_ | with_reducible refine bf c24 ?_ | with_reducible refine nt c24 ?_ | with_reducible refine nf c24 ?_ | with_reducible refine And.intro c24 ?_ | with_reducible refine bt w24 ?_ | with_reducible refine bf w24 ?_ | with_reducible refine nt w24 ?_ | with_reducible refine nf w24 ?_ | with_reducible refine And.intro w24 ?_)
      exact go _ ((fr.rf.up (o := 80) rfl).up (o := 55) rfl) ht.s
theorem as_0_7 {D kd ix f : Nat} (hkd : kd ≤ 7) (ih : ∀ (k a : Nat) (x : Int32) (n : Nat) (tr : Nat → Int32) (r : Nat) (H : pmT) (K : Int32 → pmT → Prop), k ≤ 7 → a ≤ 3 → cn kd f k a = some n → r + n < 1000 → H.1 55 46 = nI kd → H.1 55 47 = nI ix → TrM tr r H → (∀ H', fr [5546, 8000] H H' → TrM (ev kd (nI ix) f k a x tr r).1 (ev kd (nI ix) f k a x tr r).2.1 H' → K (ev kd (nI ix) f k a x tr r).2.2 H') → pm_R (D + f + 1) (M_as a) [.ref 55, .int (nI k), .int x] H (pm_i K)) (x : Int32) (n : Nat) (tr : Nat → Int32) (r : Nat) (H : pmT) (K : Int32 → pmT → Prop) (h : cn kd (f + 1) 7 0 = some n) (hr : r + n < 1000) (h46 : H.1 55 46 = nI kd) (h47 : H.1 55 47 = nI ix) (ht : TrM tr r H) (kk : ∀ H', fr [5546, 8000] H H' → TrM (ev kd (nI ix) (f + 1) 7 0 x tr r).1 (ev kd (nI ix) (f + 1) 7 0 x tr r).2.1 H' → K (ev kd (nI ix) (f + 1) 7 0 x tr r).2.2 H') : pm_R (D + (f + 1) + 1) M_Mo_playsAs [.ref 55, .int (nI 7), .int x] H (pm_i K) := by
    have e : W_cd 7 0 = 20 := by decide +kernel
    rw [cn_20 e] at h
    rw [ev_20 e] at kk
    simp only [] at kk
    rw [e] at kk
    rw [show W_up 7 0 = 0 by decide +kernel] at kk h
    obtain ⟨p, e1, hn⟩ := add1_s h
    have go : ∀ H1, fr [5546, 8000] H H1 → TrM (upd tr r (nI 20)) (r + 1) H1 → pm_R (D + f + 1) M_Mo_playsAs [.ref 55, .int (0 : Int32), .int x] H1 (pm_i fun y H2 => K (y + (3 : Int32)) H2) := fun H1 f1 t1 => ih 0 0 _ p _ _ H1 _ (by decide) (by decide) e1 (by omega) ((f1.1 55 46 rfl).trans h46) ((f1.1 55 47 rfl).trans h47) t1 (fun H2 f2 t2 => kk H2 (f1.tr f2) t2)
    refine m_Mo_playsAs _ _ ?_
    rw [ht.1]
    try rw [h46]
    try rw [h47]
    rw [nI_1 r, nIc (show r < 2 ^ 31 by omega)]
    have z1 : ¬ nI 7 = (1 : Int32) := by decide
    have z2 : ¬ nI 7 = (2 : Int32) := by decide
    have z3 : ¬ nI 7 = (3 : Int32) := by decide
    have z4 : ¬ nI 7 = (4 : Int32) := by decide
    have z5 : ¬ nI 7 = (5 : Int32) := by decide
    have z6 : ¬ nI 7 = (6 : Int32) := by decide
    have z7 : nI 7 = (7 : Int32) := by decide
    have e24 : ((24 : Int32) ≤ nI r) = (24 ≤ r) := i_le 24 r (by decide) (by omega)
    rw [e24]
    by_cases c24 : 24 ≤ r
    · repeat (first | with_reducible refine bt z1 ?_ | with_reducible refine bf z1 ?_ | with_reducible refine nt z1 ?_ | with_reducible refine nf z1 ?_ | with_reducible refine And.intro z1 ?_ | with_reducible refine bt z2 ?_ | with_reducible refine bf z2 ?_ | with_reducible refine nt z2 ?_ | with_reducible refine nf z2 ?_ | with_reducible refine And.intro z2 ?_ | with_reducible refine bt z3 ?_ | with_reducible refine bf z3 ?_ | with_reducible refine nt z3 ?_ | with_reducible refine nf z3 ?_ | with_reducible refine And.intro z3 ?_ | with_reducible refine bt z4 ?_ | with_reducible refine bf z4 ?_ | with_reducible refine nt z4 ?_ | with_reducible refine nf z4 ?_ | with_reducible refine And.intro z4 ?_ | with_reducible refine bt z5 ?_ | with_reducible refine bf z5 ?_ | with_reducible refine nt z5 ?_ | with_reducible refine nf z5 ?_ | with_reducible refine And.intro z5 ?_ | with_reducible refine bt z6 ?_ | with_reducible refine bf z6 ?_ | with_reducible refine nt z6 ?_ | with_reducible refine nf z6 ?_ | with_reducible refine And.intro z6 ?_ | with_reducible refine bt z7 ?_ | with_reducible refine bf z7 ?_ | with_reducible refine nt z7 ?_ | with_reducible refine nf z7 ?_ | with_reducible refine And.intro z7 ?_ | with_reducible refine bt c24 ?_ | with_reducible refine bf c24 ?_ | with_reducible refine nt c24 ?_ | with_reducible refine nf c24 ?_ | with_reducible refine And.intro c24 ?_)
      exact go _ (fr.rf.up (o := 55) rfl) (ht.s0 c24)
    · have w24 : vp_in (nI r) 24 := vp_in_nI (by omega) (by decide)
      repeat (first | with_reducible refine bt z1 ?_ | with_reducible refine bf z1 ?_ | with_reducible refine nt z1 ?_ | with_reducible refine nf z1 ?_ | with_reducible refine And.intro z1 ?_ | with_reducible refine bt z2 ?_ | with_reducible refine bf z2 ?_ | with_reducible refine nt z2 ?_ | with_reducible refine nf z2 ?_ | with_reducible refine And.intro z2 ?_ | with_reducible refine bt z3 ?_ | with_reducible refine bf z3 ?_ | with_reducible refine nt z3 ?_ | with_reducible refine nf z3 ?_ | with_reducible refine And.intro z3 ?_ | with_reducible refine bt z4 ?_ | with_reducible refine bf z4 ?_ | with_reducible refine nt z4 ?_ | with_reducible refine nf z4 ?_ | with_reducible refine And.intro z4 ?_ | with_reducible refine bt z5 ?_ | with_reducible refine bf z5 ?_ | with_reducible refine nt z5 ?_ | with_reducible refine nf z5 ?_ | with_reducible refine And.intro z5 ?_ | with_reducible refine bt z6 ?_ | with_reducible refine bf z6 ?_ | with_reducible refine nt z6 ?_ | with_reducible refine nf z6 ?_ | with_reducible refine And.intro z6 ?_ | with_reducible refine bt z7 ?_ | with_reducible refine bf z7 ?_ | with_reducible refine nt z7 ?_ | with_reducible refine nf z7 ?_ | with_reducible refine And.intro z7 ?_ | with_reducible refine bt c24 ?_ | with_reducible refine bf c24 ?_ | with_reducible refine nt c24 ?_ | with_reducible refine nf c24 ?_ | with_reducible refine And.intro c24 ?_ | with_reducible refine bt w24 ?_ | with_reducible refine bf w24 ?_ | with_reducible refine nt w24 ?_ | with_reducible refine nf w24 ?_ | with_reducible refine And.intro w24 ?_)
      exact go _ ((fr.rf.up (o := 80) rfl).up (o := 55) rfl) ht.s
theorem as_1_0 {D kd ix f : Nat} (hkd : kd ≤ 7) (ih : ∀ (k a : Nat) (x : Int32) (n : Nat) (tr : Nat → Int32) (r : Nat) (H : pmT) (K : Int32 → pmT → Prop), k ≤ 7 → a ≤ 3 → cn kd f k a = some n → r + n < 1000 → H.1 55 46 = nI kd → H.1 55 47 = nI ix → TrM tr r H → (∀ H', fr [5546, 8000] H H' → TrM (ev kd (nI ix) f k a x tr r).1 (ev kd (nI ix) f k a x tr r).2.1 H' → K (ev kd (nI ix) f k a x tr r).2.2 H') → pm_R (D + f + 1) (M_as a) [.ref 55, .int (nI k), .int x] H (pm_i K)) (x : Int32) (n : Nat) (tr : Nat → Int32) (r : Nat) (H : pmT) (K : Int32 → pmT → Prop) (h : cn kd (f + 1) 0 1 = some n) (hr : r + n < 1000) (h46 : H.1 55 46 = nI kd) (h47 : H.1 55 47 = nI ix) (ht : TrM tr r H) (kk : ∀ H', fr [5546, 8000] H H' → TrM (ev kd (nI ix) (f + 1) 0 1 x tr r).1 (ev kd (nI ix) (f + 1) 0 1 x tr r).2.1 H' → K (ev kd (nI ix) (f + 1) 0 1 x tr r).2.2 H') : pm_R (D + (f + 1) + 1) M_Mo_addsAs [.ref 55, .int (nI 0), .int x] H (pm_i K) := by
    have e : W_cd 0 1 = 10 := by decide +kernel
    rw [cn_10 e] at h
    rw [ev_10 e] at kk
    simp only [] at kk
    rw [e] at kk
    obtain ⟨p, e1, hn⟩ := add1_s h
    have go : ∀ H1, fr [5546, 8000] H H1 → TrM (upd tr r (nI 10)) (r + 1) H1 → pm_R (D + f + 1) M_Mo_playsAs [.ref 55, .int (nI kd), .int x] H1 (pm_i fun y H2 => K (y * (2 : Int32)) H2) := fun H1 f1 t1 => ih kd 0 _ p _ _ H1 _ hkd (by decide) e1 (by omega) ((f1.1 55 46 rfl).trans h46) ((f1.1 55 47 rfl).trans h47) t1 (fun H2 f2 t2 => kk H2 (f1.tr f2) t2)
    refine m_Mo_addsAs _ _ ?_
    rw [ht.1]
    try rw [h46]
    try rw [h47]
    rw [nI_1 r, nIc (show r < 2 ^ 31 by omega)]
    have z1 : ¬ nI 0 = (1 : Int32) := by decide
    have z2 : ¬ nI 0 = (2 : Int32) := by decide
    have z3 : ¬ nI 0 = (3 : Int32) := by decide
    have z4 : ¬ nI 0 = (4 : Int32) := by decide
    have z5 : ¬ nI 0 = (5 : Int32) := by decide
    have z6 : ¬ nI 0 = (6 : Int32) := by decide
    have z7 : ¬ nI 0 = (7 : Int32) := by decide
    have e24 : ((24 : Int32) ≤ nI r) = (24 ≤ r) := i_le 24 r (by decide) (by omega)
    rw [e24]
    by_cases c24 : 24 ≤ r
    · repeat (first | with_reducible refine bt z1 ?_ | with_reducible refine bf z1 ?_ | with_reducible refine nt z1 ?_ | with_reducible refine nf z1 ?_ | with_reducible refine And.intro z1 ?_ | with_reducible refine bt z2 ?_ | with_reducible refine bf z2 ?_ | with_reducible refine nt z2 ?_ | with_reducible refine nf z2 ?_ | with_reducible refine And.intro z2 ?_ | with_reducible refine bt z3 ?_ | with_reducible refine bf z3 ?_ | with_reducible refine nt z3 ?_ | with_reducible refine nf z3 ?_ | with_reducible refine And.intro z3 ?_ | with_reducible refine bt z4 ?_ | with_reducible refine bf z4 ?_ | with_reducible refine nt z4 ?_ | with_reducible refine nf z4 ?_ | with_reducible refine And.intro z4 ?_ | with_reducible refine bt z5 ?_ | with_reducible refine bf z5 ?_ | with_reducible refine nt z5 ?_ | with_reducible refine nf z5 ?_ | with_reducible refine And.intro z5 ?_ | with_reducible refine bt z6 ?_ | with_reducible refine bf z6 ?_ | with_reducible refine nt z6 ?_ | with_reducible refine nf z6 ?_ | with_reducible refine And.intro z6 ?_ | with_reducible refine bt z7 ?_ | with_reducible refine bf z7 ?_ | with_reducible refine nt z7 ?_ | with_reducible refine nf z7 ?_ | with_reducible refine And.intro z7 ?_ | with_reducible refine bt c24 ?_ | with_reducible refine bf c24 ?_ | with_reducible refine nt c24 ?_ | with_reducible refine nf c24 ?_ | with_reducible refine And.intro c24 ?_)
      exact go _ (fr.rf.up (o := 55) rfl) (ht.s0 c24)
    · have w24 : vp_in (nI r) 24 := vp_in_nI (by omega) (by decide)
      repeat (first | with_reducible refine bt z1 ?_ | with_reducible refine bf z1 ?_ | with_reducible refine nt z1 ?_ | with_reducible refine nf z1 ?_ | with_reducible refine And.intro z1 ?_ | with_reducible refine bt z2 ?_ | with_reducible refine bf z2 ?_ | with_reducible refine nt z2 ?_ | with_reducible refine nf z2 ?_ | with_reducible refine And.intro z2 ?_ | with_reducible refine bt z3 ?_ | with_reducible refine bf z3 ?_ | with_reducible refine nt z3 ?_ | with_reducible refine nf z3 ?_ | with_reducible refine And.intro z3 ?_ | with_reducible refine bt z4 ?_ | with_reducible refine bf z4 ?_ | with_reducible refine nt z4 ?_ | with_reducible refine nf z4 ?_ | with_reducible refine And.intro z4 ?_ | with_reducible refine bt z5 ?_ | with_reducible refine bf z5 ?_ | with_reducible refine nt z5 ?_ | with_reducible refine nf z5 ?_ | with_reducible refine And.intro z5 ?_ | with_reducible refine bt z6 ?_ | with_reducible refine bf z6 ?_ | with_reducible refine nt z6 ?_ | with_reducible refine nf z6 ?_ | with_reducible refine And.intro z6 ?_ | with_reducible refine bt z7 ?_ | with_reducible refine bf z7 ?_ | with_reducible refine nt z7 ?_ | with_reducible refine nf z7 ?_ | with_reducible refine And.intro z7 ?_ | with_reducible refine bt c24 ?_ | with_reducible refine bf c24 ?_ | with_reducible refine nt c24 ?_ | with_reducible refine nf c24 ?_ | with_reducible refine And.intro c24 ?_ | with_reducible refine bt w24 ?_ | with_reducible refine bf w24 ?_ | with_reducible refine nt w24 ?_ | with_reducible refine nf w24 ?_ | with_reducible refine And.intro w24 ?_)
      exact go _ ((fr.rf.up (o := 80) rfl).up (o := 55) rfl) ht.s
theorem as_1_1 {D kd ix f : Nat} (hkd : kd ≤ 7) (ih : ∀ (k a : Nat) (x : Int32) (n : Nat) (tr : Nat → Int32) (r : Nat) (H : pmT) (K : Int32 → pmT → Prop), k ≤ 7 → a ≤ 3 → cn kd f k a = some n → r + n < 1000 → H.1 55 46 = nI kd → H.1 55 47 = nI ix → TrM tr r H → (∀ H', fr [5546, 8000] H H' → TrM (ev kd (nI ix) f k a x tr r).1 (ev kd (nI ix) f k a x tr r).2.1 H' → K (ev kd (nI ix) f k a x tr r).2.2 H') → pm_R (D + f + 1) (M_as a) [.ref 55, .int (nI k), .int x] H (pm_i K)) (x : Int32) (n : Nat) (tr : Nat → Int32) (r : Nat) (H : pmT) (K : Int32 → pmT → Prop) (h : cn kd (f + 1) 1 1 = some n) (hr : r + n < 1000) (h46 : H.1 55 46 = nI kd) (h47 : H.1 55 47 = nI ix) (ht : TrM tr r H) (kk : ∀ H', fr [5546, 8000] H H' → TrM (ev kd (nI ix) (f + 1) 1 1 x tr r).1 (ev kd (nI ix) (f + 1) 1 1 x tr r).2.1 H' → K (ev kd (nI ix) (f + 1) 1 1 x tr r).2.2 H') : pm_R (D + (f + 1) + 1) M_Mo_addsAs [.ref 55, .int (nI 1), .int x] H (pm_i K) := by
    have e : W_cd 1 1 = 10 := by decide +kernel
    rw [cn_10 e] at h
    rw [ev_10 e] at kk
    simp only [] at kk
    rw [e] at kk
    obtain ⟨p, e1, hn⟩ := add1_s h
    have go : ∀ H1, fr [5546, 8000] H H1 → TrM (upd tr r (nI 10)) (r + 1) H1 → pm_R (D + f + 1) M_Mo_playsAs [.ref 55, .int (nI kd), .int x] H1 (pm_i fun y H2 => K (y * (2 : Int32)) H2) := fun H1 f1 t1 => ih kd 0 _ p _ _ H1 _ hkd (by decide) e1 (by omega) ((f1.1 55 46 rfl).trans h46) ((f1.1 55 47 rfl).trans h47) t1 (fun H2 f2 t2 => kk H2 (f1.tr f2) t2)
    refine m_Mo_addsAs _ _ ?_
    rw [ht.1]
    try rw [h46]
    try rw [h47]
    rw [nI_1 r, nIc (show r < 2 ^ 31 by omega)]
    have z1 : nI 1 = (1 : Int32) := by decide
    have z2 : ¬ nI 1 = (2 : Int32) := by decide
    have z3 : ¬ nI 1 = (3 : Int32) := by decide
    have z4 : ¬ nI 1 = (4 : Int32) := by decide
    have z5 : ¬ nI 1 = (5 : Int32) := by decide
    have z6 : ¬ nI 1 = (6 : Int32) := by decide
    have z7 : ¬ nI 1 = (7 : Int32) := by decide
    have e24 : ((24 : Int32) ≤ nI r) = (24 ≤ r) := i_le 24 r (by decide) (by omega)
    rw [e24]
    by_cases c24 : 24 ≤ r
    · repeat (first | with_reducible refine bt z1 ?_ | with_reducible refine bf z1 ?_ | with_reducible refine nt z1 ?_ | with_reducible refine nf z1 ?_ | with_reducible refine And.intro z1 ?_ | with_reducible refine bt z2 ?_ | with_reducible refine bf z2 ?_ | with_reducible refine nt z2 ?_ | with_reducible refine nf z2 ?_ | with_reducible refine And.intro z2 ?_ | with_reducible refine bt z3 ?_ | with_reducible refine bf z3 ?_ | with_reducible refine nt z3 ?_ | with_reducible refine nf z3 ?_ | with_reducible refine And.intro z3 ?_ | with_reducible refine bt z4 ?_ | with_reducible refine bf z4 ?_ | with_reducible refine nt z4 ?_ | with_reducible refine nf z4 ?_ | with_reducible refine And.intro z4 ?_ | with_reducible refine bt z5 ?_ | with_reducible refine bf z5 ?_ | with_reducible refine nt z5 ?_ | with_reducible refine nf z5 ?_ | with_reducible refine And.intro z5 ?_ | with_reducible refine bt z6 ?_ | with_reducible refine bf z6 ?_ | with_reducible refine nt z6 ?_ | with_reducible refine nf z6 ?_ | with_reducible refine And.intro z6 ?_ | with_reducible refine bt z7 ?_ | with_reducible refine bf z7 ?_ | with_reducible refine nt z7 ?_ | with_reducible refine nf z7 ?_ | with_reducible refine And.intro z7 ?_ | with_reducible refine bt c24 ?_ | with_reducible refine bf c24 ?_ | with_reducible refine nt c24 ?_ | with_reducible refine nf c24 ?_ | with_reducible refine And.intro c24 ?_)
      exact go _ (fr.rf.up (o := 55) rfl) (ht.s0 c24)
    · have w24 : vp_in (nI r) 24 := vp_in_nI (by omega) (by decide)
      repeat (first | with_reducible refine bt z1 ?_ | with_reducible refine bf z1 ?_ | with_reducible refine nt z1 ?_ | with_reducible refine nf z1 ?_ | with_reducible refine And.intro z1 ?_ | with_reducible refine bt z2 ?_ | with_reducible refine bf z2 ?_ | with_reducible refine nt z2 ?_ | with_reducible refine nf z2 ?_ | with_reducible refine And.intro z2 ?_ | with_reducible refine bt z3 ?_ | with_reducible refine bf z3 ?_ | with_reducible refine nt z3 ?_ | with_reducible refine nf z3 ?_ | with_reducible refine And.intro z3 ?_ | with_reducible refine bt z4 ?_ | with_reducible refine bf z4 ?_ | with_reducible refine nt z4 ?_ | with_reducible refine nf z4 ?_ | with_reducible refine And.intro z4 ?_ | with_reducible refine bt z5 ?_ | with_reducible refine bf z5 ?_ | with_reducible refine nt z5 ?_ | with_reducible refine nf z5 ?_ | with_reducible refine And.intro z5 ?_ | with_reducible refine bt z6 ?_ | with_reducible refine bf z6 ?_ | with_reducible refine nt z6 ?_ | with_reducible refine nf z6 ?_ | with_reducible refine And.intro z6 ?_ | with_reducible refine bt z7 ?_ | with_reducible refine bf z7 ?_ | with_reducible refine nt z7 ?_ | with_reducible refine nf z7 ?_ | with_reducible refine And.intro z7 ?_ | with_reducible refine bt c24 ?_ | with_reducible refine bf c24 ?_ | with_reducible refine nt c24 ?_ | with_reducible refine nf c24 ?_ | with_reducible refine And.intro c24 ?_ | with_reducible refine bt w24 ?_ | with_reducible refine bf w24 ?_ | with_reducible refine nt w24 ?_ | with_reducible refine nf w24 ?_ | with_reducible refine And.intro w24 ?_)
      exact go _ ((fr.rf.up (o := 80) rfl).up (o := 55) rfl) ht.s
theorem as_1_2 {D kd ix f : Nat} (hkd : kd ≤ 7) (ih : ∀ (k a : Nat) (x : Int32) (n : Nat) (tr : Nat → Int32) (r : Nat) (H : pmT) (K : Int32 → pmT → Prop), k ≤ 7 → a ≤ 3 → cn kd f k a = some n → r + n < 1000 → H.1 55 46 = nI kd → H.1 55 47 = nI ix → TrM tr r H → (∀ H', fr [5546, 8000] H H' → TrM (ev kd (nI ix) f k a x tr r).1 (ev kd (nI ix) f k a x tr r).2.1 H' → K (ev kd (nI ix) f k a x tr r).2.2 H') → pm_R (D + f + 1) (M_as a) [.ref 55, .int (nI k), .int x] H (pm_i K)) (x : Int32) (n : Nat) (tr : Nat → Int32) (r : Nat) (H : pmT) (K : Int32 → pmT → Prop) (h : cn kd (f + 1) 2 1 = some n) (hr : r + n < 1000) (h46 : H.1 55 46 = nI kd) (h47 : H.1 55 47 = nI ix) (ht : TrM tr r H) (kk : ∀ H', fr [5546, 8000] H H' → TrM (ev kd (nI ix) (f + 1) 2 1 x tr r).1 (ev kd (nI ix) (f + 1) 2 1 x tr r).2.1 H' → K (ev kd (nI ix) (f + 1) 2 1 x tr r).2.2 H') : pm_R (D + (f + 1) + 1) M_Mo_addsAs [.ref 55, .int (nI 2), .int x] H (pm_i K) := by
    have e : W_cd 2 1 = 30 := by decide +kernel
    rw [cn_30 e] at h
    rw [ev_30 e] at kk
    simp only [] at kk
    rw [e] at kk
    rw [show W_up 2 1 = 0 by decide +kernel] at kk h
    obtain ⟨p, e1, hn⟩ := add1_s h
    have go : ∀ H1, fr [5546, 8000] H H1 → TrM (upd tr r (nI 30)) (r + 1) H1 → pm_R (D + f + 1) M_Mo_addsAs [.ref 55, .int (0 : Int32), .int x] H1 (pm_i fun y H2 => K (-y) H2) := fun H1 f1 t1 => ih 0 1 _ p _ _ H1 _ (by decide) (by decide) e1 (by omega) ((f1.1 55 46 rfl).trans h46) ((f1.1 55 47 rfl).trans h47) t1 (fun H2 f2 t2 => kk H2 (f1.tr f2) t2)
    refine m_Mo_addsAs _ _ ?_
    rw [ht.1]
    try rw [h46]
    try rw [h47]
    rw [nI_1 r, nIc (show r < 2 ^ 31 by omega)]
    have z1 : ¬ nI 2 = (1 : Int32) := by decide
    have z2 : nI 2 = (2 : Int32) := by decide
    have z3 : ¬ nI 2 = (3 : Int32) := by decide
    have z4 : ¬ nI 2 = (4 : Int32) := by decide
    have z5 : ¬ nI 2 = (5 : Int32) := by decide
    have z6 : ¬ nI 2 = (6 : Int32) := by decide
    have z7 : ¬ nI 2 = (7 : Int32) := by decide
    have e24 : ((24 : Int32) ≤ nI r) = (24 ≤ r) := i_le 24 r (by decide) (by omega)
    rw [e24]
    by_cases c24 : 24 ≤ r
    · repeat (first | with_reducible refine bt z1 ?_ | with_reducible refine bf z1 ?_ | with_reducible refine nt z1 ?_ | with_reducible refine nf z1 ?_ | with_reducible refine And.intro z1 ?_ | with_reducible refine bt z2 ?_ | with_reducible refine bf z2 ?_ | with_reducible refine nt z2 ?_ | with_reducible refine nf z2 ?_ | with_reducible refine And.intro z2 ?_ | with_reducible refine bt z3 ?_ | with_reducible refine bf z3 ?_ | with_reducible refine nt z3 ?_ | with_reducible refine nf z3 ?_ | with_reducible refine And.intro z3 ?_ | with_reducible refine bt z4 ?_ | with_reducible refine bf z4 ?_ | with_reducible refine nt z4 ?_ | with_reducible refine nf z4 ?_ | with_reducible refine And.intro z4 ?_ | with_reducible refine bt z5 ?_ | with_reducible refine bf z5 ?_ | with_reducible refine nt z5 ?_ | with_reducible refine nf z5 ?_ | with_reducible refine And.intro z5 ?_ | with_reducible refine bt z6 ?_ | with_reducible refine bf z6 ?_ | with_reducible refine nt z6 ?_ | with_reducible refine nf z6 ?_ | with_reducible refine And.intro z6 ?_ | with_reducible refine bt z7 ?_ | with_reducible refine bf z7 ?_ | with_reducible refine nt z7 ?_ | with_reducible refine nf z7 ?_ | with_reducible refine And.intro z7 ?_ | with_reducible refine bt c24 ?_ | with_reducible refine bf c24 ?_ | with_reducible refine nt c24 ?_ | with_reducible refine nf c24 ?_ | with_reducible refine And.intro c24 ?_)
      exact go _ (fr.rf.up (o := 55) rfl) (ht.s0 c24)
    · have w24 : vp_in (nI r) 24 := vp_in_nI (by omega) (by decide)
      repeat (first | with_reducible refine bt z1 ?_ | with_reducible refine bf z1 ?_ | with_reducible refine nt z1 ?_ | with_reducible refine nf z1 ?_ | with_reducible refine And.intro z1 ?_ | with_reducible refine bt z2 ?_ | with_reducible refine bf z2 ?_ | with_reducible refine nt z2 ?_ | with_reducible refine nf z2 ?_ | with_reducible refine And.intro z2 ?_ | with_reducible refine bt z3 ?_ | with_reducible refine bf z3 ?_ | with_reducible refine nt z3 ?_ | with_reducible refine nf z3 ?_ | with_reducible refine And.intro z3 ?_ | with_reducible refine bt z4 ?_ | with_reducible refine bf z4 ?_ | with_reducible refine nt z4 ?_ | with_reducible refine nf z4 ?_ | with_reducible refine And.intro z4 ?_ | with_reducible refine bt z5 ?_ | with_reducible refine bf z5 ?_ | with_reducible refine nt z5 ?_ | with_reducible refine nf z5 ?_ | with_reducible refine And.intro z5 ?_ | with_reducible refine bt z6 ?_ | with_reducible refine bf z6 ?_ | with_reducible refine nt z6 ?_ | with_reducible refine nf z6 ?_ | with_reducible refine And.intro z6 ?_ | with_reducible refine bt z7 ?_ | with_reducible refine bf z7 ?_ | with_reducible refine nt z7 ?_ | with_reducible refine nf z7 ?_ | with_reducible refine And.intro z7 ?_ | with_reducible refine bt c24 ?_ | with_reducible refine bf c24 ?_ | with_reducible refine nt c24 ?_ | with_reducible refine nf c24 ?_ | with_reducible refine And.intro c24 ?_ | with_reducible refine bt w24 ?_ | with_reducible refine bf w24 ?_ | with_reducible refine nt w24 ?_ | with_reducible refine nf w24 ?_ | with_reducible refine And.intro w24 ?_)
      exact go _ ((fr.rf.up (o := 80) rfl).up (o := 55) rfl) ht.s
theorem as_1_3 {D kd ix f : Nat} (hkd : kd ≤ 7) (ih : ∀ (k a : Nat) (x : Int32) (n : Nat) (tr : Nat → Int32) (r : Nat) (H : pmT) (K : Int32 → pmT → Prop), k ≤ 7 → a ≤ 3 → cn kd f k a = some n → r + n < 1000 → H.1 55 46 = nI kd → H.1 55 47 = nI ix → TrM tr r H → (∀ H', fr [5546, 8000] H H' → TrM (ev kd (nI ix) f k a x tr r).1 (ev kd (nI ix) f k a x tr r).2.1 H' → K (ev kd (nI ix) f k a x tr r).2.2 H') → pm_R (D + f + 1) (M_as a) [.ref 55, .int (nI k), .int x] H (pm_i K)) (x : Int32) (n : Nat) (tr : Nat → Int32) (r : Nat) (H : pmT) (K : Int32 → pmT → Prop) (h : cn kd (f + 1) 3 1 = some n) (hr : r + n < 1000) (h46 : H.1 55 46 = nI kd) (h47 : H.1 55 47 = nI ix) (ht : TrM tr r H) (kk : ∀ H', fr [5546, 8000] H H' → TrM (ev kd (nI ix) (f + 1) 3 1 x tr r).1 (ev kd (nI ix) (f + 1) 3 1 x tr r).2.1 H' → K (ev kd (nI ix) (f + 1) 3 1 x tr r).2.2 H') : pm_R (D + (f + 1) + 1) M_Mo_addsAs [.ref 55, .int (nI 3), .int x] H (pm_i K) := by
    have e : W_cd 3 1 = 41 := by decide +kernel
    rw [cn_41 e] at h
    rw [ev_41 e] at kk
    simp only [] at kk
    rw [e] at kk
    rw [show W_up 3 1 = 2 by decide +kernel] at kk h
    obtain ⟨p, e1, hn⟩ := add1_s h
    have go : ∀ H1, fr [5546, 8000] H H1 → TrM (upd tr r (nI 41)) (r + 1) H1 → pm_R (D + f + 1) M_Mo_addsAs [.ref 55, .int (2 : Int32), .int (x + (1 : Int32))] H1 (pm_i fun y H2 => K (y) H2) := fun H1 f1 t1 => ih 2 1 _ p _ _ H1 _ (by decide) (by decide) e1 (by omega) ((f1.1 55 46 rfl).trans h46) ((f1.1 55 47 rfl).trans h47) t1 (fun H2 f2 t2 => kk H2 (f1.tr f2) t2)
    refine m_Mo_addsAs _ _ ?_
    rw [ht.1]
    try rw [h46]
    try rw [h47]
    rw [nI_1 r, nIc (show r < 2 ^ 31 by omega)]
    have z1 : ¬ nI 3 = (1 : Int32) := by decide
    have z2 : ¬ nI 3 = (2 : Int32) := by decide
    have z3 : nI 3 = (3 : Int32) := by decide
    have z4 : ¬ nI 3 = (4 : Int32) := by decide
    have z5 : ¬ nI 3 = (5 : Int32) := by decide
    have z6 : ¬ nI 3 = (6 : Int32) := by decide
    have z7 : ¬ nI 3 = (7 : Int32) := by decide
    have e24 : ((24 : Int32) ≤ nI r) = (24 ≤ r) := i_le 24 r (by decide) (by omega)
    rw [e24]
    by_cases c24 : 24 ≤ r
    · repeat (first | with_reducible refine bt z1 ?_ | with_reducible refine bf z1 ?_ | with_reducible refine nt z1 ?_ | with_reducible refine nf z1 ?_ | with_reducible refine And.intro z1 ?_ | with_reducible refine bt z2 ?_ | with_reducible refine bf z2 ?_ | with_reducible refine nt z2 ?_ | with_reducible refine nf z2 ?_ | with_reducible refine And.intro z2 ?_ | with_reducible refine bt z3 ?_ | with_reducible refine bf z3 ?_ | with_reducible refine nt z3 ?_ | with_reducible refine nf z3 ?_ | with_reducible refine And.intro z3 ?_ | with_reducible refine bt z4 ?_ | with_reducible refine bf z4 ?_ | with_reducible refine nt z4 ?_ | with_reducible refine nf z4 ?_ | with_reducible refine And.intro z4 ?_ | with_reducible refine bt z5 ?_ | with_reducible refine bf z5 ?_ | with_reducible refine nt z5 ?_ | with_reducible refine nf z5 ?_ | with_reducible refine And.intro z5 ?_ | with_reducible refine bt z6 ?_ | with_reducible refine bf z6 ?_ | with_reducible refine nt z6 ?_ | with_reducible refine nf z6 ?_ | with_reducible refine And.intro z6 ?_ | with_reducible refine bt z7 ?_ | with_reducible refine bf z7 ?_ | with_reducible refine nt z7 ?_ | with_reducible refine nf z7 ?_ | with_reducible refine And.intro z7 ?_ | with_reducible refine bt c24 ?_ | with_reducible refine bf c24 ?_ | with_reducible refine nt c24 ?_ | with_reducible refine nf c24 ?_ | with_reducible refine And.intro c24 ?_)
      exact go _ (fr.rf.up (o := 55) rfl) (ht.s0 c24)
    · have w24 : vp_in (nI r) 24 := vp_in_nI (by omega) (by decide)
      repeat (first | with_reducible refine bt z1 ?_ | with_reducible refine bf z1 ?_ | with_reducible refine nt z1 ?_ | with_reducible refine nf z1 ?_ | with_reducible refine And.intro z1 ?_ | with_reducible refine bt z2 ?_ | with_reducible refine bf z2 ?_ | with_reducible refine nt z2 ?_ | with_reducible refine nf z2 ?_ | with_reducible refine And.intro z2 ?_ | with_reducible refine bt z3 ?_ | with_reducible refine bf z3 ?_ | with_reducible refine nt z3 ?_ | with_reducible refine nf z3 ?_ | with_reducible refine And.intro z3 ?_ | with_reducible refine bt z4 ?_ | with_reducible refine bf z4 ?_ | with_reducible refine nt z4 ?_ | with_reducible refine nf z4 ?_ | with_reducible refine And.intro z4 ?_ | with_reducible refine bt z5 ?_ | with_reducible refine bf z5 ?_ | with_reducible refine nt z5 ?_ | with_reducible refine nf z5 ?_ | with_reducible refine And.intro z5 ?_ | with_reducible refine bt z6 ?_ | with_reducible refine bf z6 ?_ | with_reducible refine nt z6 ?_ | with_reducible refine nf z6 ?_ | with_reducible refine And.intro z6 ?_ | with_reducible refine bt z7 ?_ | with_reducible refine bf z7 ?_ | with_reducible refine nt z7 ?_ | with_reducible refine nf z7 ?_ | with_reducible refine And.intro z7 ?_ | with_reducible refine bt c24 ?_ | with_reducible refine bf c24 ?_ | with_reducible refine nt c24 ?_ | with_reducible refine nf c24 ?_ | with_reducible refine And.intro c24 ?_ | with_reducible refine bt w24 ?_ | with_reducible refine bf w24 ?_ | with_reducible refine nt w24 ?_ | with_reducible refine nf w24 ?_ | with_reducible refine And.intro w24 ?_)
      exact go _ ((fr.rf.up (o := 80) rfl).up (o := 55) rfl) ht.s
theorem as_1_4 {D kd ix f : Nat} (hkd : kd ≤ 7) (ih : ∀ (k a : Nat) (x : Int32) (n : Nat) (tr : Nat → Int32) (r : Nat) (H : pmT) (K : Int32 → pmT → Prop), k ≤ 7 → a ≤ 3 → cn kd f k a = some n → r + n < 1000 → H.1 55 46 = nI kd → H.1 55 47 = nI ix → TrM tr r H → (∀ H', fr [5546, 8000] H H' → TrM (ev kd (nI ix) f k a x tr r).1 (ev kd (nI ix) f k a x tr r).2.1 H' → K (ev kd (nI ix) f k a x tr r).2.2 H') → pm_R (D + f + 1) (M_as a) [.ref 55, .int (nI k), .int x] H (pm_i K)) (x : Int32) (n : Nat) (tr : Nat → Int32) (r : Nat) (H : pmT) (K : Int32 → pmT → Prop) (h : cn kd (f + 1) 4 1 = some n) (hr : r + n < 1000) (h46 : H.1 55 46 = nI kd) (h47 : H.1 55 47 = nI ix) (ht : TrM tr r H) (kk : ∀ H', fr [5546, 8000] H H' → TrM (ev kd (nI ix) (f + 1) 4 1 x tr r).1 (ev kd (nI ix) (f + 1) 4 1 x tr r).2.1 H' → K (ev kd (nI ix) (f + 1) 4 1 x tr r).2.2 H') : pm_R (D + (f + 1) + 1) M_Mo_addsAs [.ref 55, .int (nI 4), .int x] H (pm_i K) := by
    have e : W_cd 4 1 = 10 := by decide +kernel
    rw [cn_10 e] at h
    rw [ev_10 e] at kk
    simp only [] at kk
    rw [e] at kk
    obtain ⟨p, e1, hn⟩ := add1_s h
    have go : ∀ H1, fr [5546, 8000] H H1 → TrM (upd tr r (nI 10)) (r + 1) H1 → pm_R (D + f + 1) M_Mo_playsAs [.ref 55, .int (nI kd), .int x] H1 (pm_i fun y H2 => K (y * (2 : Int32)) H2) := fun H1 f1 t1 => ih kd 0 _ p _ _ H1 _ hkd (by decide) e1 (by omega) ((f1.1 55 46 rfl).trans h46) ((f1.1 55 47 rfl).trans h47) t1 (fun H2 f2 t2 => kk H2 (f1.tr f2) t2)
    refine m_Mo_addsAs _ _ ?_
    rw [ht.1]
    try rw [h46]
    try rw [h47]
    rw [nI_1 r, nIc (show r < 2 ^ 31 by omega)]
    have z1 : ¬ nI 4 = (1 : Int32) := by decide
    have z2 : ¬ nI 4 = (2 : Int32) := by decide
    have z3 : ¬ nI 4 = (3 : Int32) := by decide
    have z4 : nI 4 = (4 : Int32) := by decide
    have z5 : ¬ nI 4 = (5 : Int32) := by decide
    have z6 : ¬ nI 4 = (6 : Int32) := by decide
    have z7 : ¬ nI 4 = (7 : Int32) := by decide
    have e24 : ((24 : Int32) ≤ nI r) = (24 ≤ r) := i_le 24 r (by decide) (by omega)
    rw [e24]
    by_cases c24 : 24 ≤ r
    · repeat (first | with_reducible refine bt z1 ?_ | with_reducible refine bf z1 ?_ | with_reducible refine nt z1 ?_ | with_reducible refine nf z1 ?_ | with_reducible refine And.intro z1 ?_ | with_reducible refine bt z2 ?_ | with_reducible refine bf z2 ?_ | with_reducible refine nt z2 ?_ | with_reducible refine nf z2 ?_ | with_reducible refine And.intro z2 ?_ | with_reducible refine bt z3 ?_ | with_reducible refine bf z3 ?_ | with_reducible refine nt z3 ?_ | with_reducible refine nf z3 ?_ | with_reducible refine And.intro z3 ?_ | with_reducible refine bt z4 ?_ | with_reducible refine bf z4 ?_ | with_reducible refine nt z4 ?_ | with_reducible refine nf z4 ?_ | with_reducible refine And.intro z4 ?_ | with_reducible refine bt z5 ?_ | with_reducible refine bf z5 ?_ | with_reducible refine nt z5 ?_ | with_reducible refine nf z5 ?_ | with_reducible refine And.intro z5 ?_ | with_reducible refine bt z6 ?_ | with_reducible refine bf z6 ?_ | with_reducible refine nt z6 ?_ | with_reducible refine nf z6 ?_ | with_reducible refine And.intro z6 ?_ | with_reducible refine bt z7 ?_ | with_reducible refine bf z7 ?_ | with_reducible refine nt z7 ?_ | with_reducible refine nf z7 ?_ | with_reducible refine And.intro z7 ?_ | with_reducible refine bt c24 ?_ | with_reducible refine bf c24 ?_ | with_reducible refine nt c24 ?_ | with_reducible refine nf c24 ?_ | with_reducible refine And.intro c24 ?_)
      exact go _ (fr.rf.up (o := 55) rfl) (ht.s0 c24)
    · have w24 : vp_in (nI r) 24 := vp_in_nI (by omega) (by decide)
      repeat (first | with_reducible refine bt z1 ?_ | with_reducible refine bf z1 ?_ | with_reducible refine nt z1 ?_ | with_reducible refine nf z1 ?_ | with_reducible refine And.intro z1 ?_ | with_reducible refine bt z2 ?_ | with_reducible refine bf z2 ?_ | with_reducible refine nt z2 ?_ | with_reducible refine nf z2 ?_ | with_reducible refine And.intro z2 ?_ | with_reducible refine bt z3 ?_ | with_reducible refine bf z3 ?_ | with_reducible refine nt z3 ?_ | with_reducible refine nf z3 ?_ | with_reducible refine And.intro z3 ?_ | with_reducible refine bt z4 ?_ | with_reducible refine bf z4 ?_ | with_reducible refine nt z4 ?_ | with_reducible refine nf z4 ?_ | with_reducible refine And.intro z4 ?_ | with_reducible refine bt z5 ?_ | with_reducible refine bf z5 ?_ | with_reducible refine nt z5 ?_ | with_reducible refine nf z5 ?_ | with_reducible refine And.intro z5 ?_ | with_reducible refine bt z6 ?_ | with_reducible refine bf z6 ?_ | with_reducible refine nt z6 ?_ | with_reducible refine nf z6 ?_ | with_reducible refine And.intro z6 ?_ | with_reducible refine bt z7 ?_ | with_reducible refine bf z7 ?_ | with_reducible refine nt z7 ?_ | with_reducible refine nf z7 ?_ | with_reducible refine And.intro z7 ?_ | with_reducible refine bt c24 ?_ | with_reducible refine bf c24 ?_ | with_reducible refine nt c24 ?_ | with_reducible refine nf c24 ?_ | with_reducible refine And.intro c24 ?_ | with_reducible refine bt w24 ?_ | with_reducible refine bf w24 ?_ | with_reducible refine nt w24 ?_ | with_reducible refine nf w24 ?_ | with_reducible refine And.intro w24 ?_)
      exact go _ ((fr.rf.up (o := 80) rfl).up (o := 55) rfl) ht.s
theorem as_1_5 {D kd ix f : Nat} (hkd : kd ≤ 7) (ih : ∀ (k a : Nat) (x : Int32) (n : Nat) (tr : Nat → Int32) (r : Nat) (H : pmT) (K : Int32 → pmT → Prop), k ≤ 7 → a ≤ 3 → cn kd f k a = some n → r + n < 1000 → H.1 55 46 = nI kd → H.1 55 47 = nI ix → TrM tr r H → (∀ H', fr [5546, 8000] H H' → TrM (ev kd (nI ix) f k a x tr r).1 (ev kd (nI ix) f k a x tr r).2.1 H' → K (ev kd (nI ix) f k a x tr r).2.2 H') → pm_R (D + f + 1) (M_as a) [.ref 55, .int (nI k), .int x] H (pm_i K)) (x : Int32) (n : Nat) (tr : Nat → Int32) (r : Nat) (H : pmT) (K : Int32 → pmT → Prop) (h : cn kd (f + 1) 5 1 = some n) (hr : r + n < 1000) (h46 : H.1 55 46 = nI kd) (h47 : H.1 55 47 = nI ix) (ht : TrM tr r H) (kk : ∀ H', fr [5546, 8000] H H' → TrM (ev kd (nI ix) (f + 1) 5 1 x tr r).1 (ev kd (nI ix) (f + 1) 5 1 x tr r).2.1 H' → K (ev kd (nI ix) (f + 1) 5 1 x tr r).2.2 H') : pm_R (D + (f + 1) + 1) M_Mo_addsAs [.ref 55, .int (nI 5), .int x] H (pm_i K) := by
    have e : W_cd 5 1 = 41 := by decide +kernel
    rw [cn_41 e] at h
    rw [ev_41 e] at kk
    simp only [] at kk
    rw [e] at kk
    rw [show W_up 5 1 = 2 by decide +kernel] at kk h
    obtain ⟨p, e1, hn⟩ := add1_s h
    have go : ∀ H1, fr [5546, 8000] H H1 → TrM (upd tr r (nI 41)) (r + 1) H1 → pm_R (D + f + 1) M_Mo_addsAs [.ref 55, .int (2 : Int32), .int (x + (1 : Int32))] H1 (pm_i fun y H2 => K (y) H2) := fun H1 f1 t1 => ih 2 1 _ p _ _ H1 _ (by decide) (by decide) e1 (by omega) ((f1.1 55 46 rfl).trans h46) ((f1.1 55 47 rfl).trans h47) t1 (fun H2 f2 t2 => kk H2 (f1.tr f2) t2)
    refine m_Mo_addsAs _ _ ?_
    rw [ht.1]
    try rw [h46]
    try rw [h47]
    rw [nI_1 r, nIc (show r < 2 ^ 31 by omega)]
    have z1 : ¬ nI 5 = (1 : Int32) := by decide
    have z2 : ¬ nI 5 = (2 : Int32) := by decide
    have z3 : ¬ nI 5 = (3 : Int32) := by decide
    have z4 : ¬ nI 5 = (4 : Int32) := by decide
    have z5 : nI 5 = (5 : Int32) := by decide
    have z6 : ¬ nI 5 = (6 : Int32) := by decide
    have z7 : ¬ nI 5 = (7 : Int32) := by decide
    have e24 : ((24 : Int32) ≤ nI r) = (24 ≤ r) := i_le 24 r (by decide) (by omega)
    rw [e24]
    by_cases c24 : 24 ≤ r
    · repeat (first | with_reducible refine bt z1 ?_ | with_reducible refine bf z1 ?_ | with_reducible refine nt z1 ?_ | with_reducible refine nf z1 ?_ | with_reducible refine And.intro z1 ?_ | with_reducible refine bt z2 ?_ | with_reducible refine bf z2 ?_ | with_reducible refine nt z2 ?_ | with_reducible refine nf z2 ?_ | with_reducible refine And.intro z2 ?_ | with_reducible refine bt z3 ?_ | with_reducible refine bf z3 ?_ | with_reducible refine nt z3 ?_ | with_reducible refine nf z3 ?_ | with_reducible refine And.intro z3 ?_ | with_reducible refine bt z4 ?_ | with_reducible refine bf z4 ?_ | with_reducible refine nt z4 ?_ | with_reducible refine nf z4 ?_ | with_reducible refine And.intro z4 ?_ | with_reducible refine bt z5 ?_ | with_reducible refine bf z5 ?_ | with_reducible refine nt z5 ?_ | with_reducible refine nf z5 ?_ | with_reducible refine And.intro z5 ?_ | with_reducible refine bt z6 ?_ | with_reducible refine bf z6 ?_ | with_reducible refine nt z6 ?_ | with_reducible refine nf z6 ?_ | with_reducible refine And.intro z6 ?_ | with_reducible refine bt z7 ?_ | with_reducible refine bf z7 ?_ | with_reducible refine nt z7 ?_ | with_reducible refine nf z7 ?_ | with_reducible refine And.intro z7 ?_ | with_reducible refine bt c24 ?_ | with_reducible refine bf c24 ?_ | with_reducible refine nt c24 ?_ | with_reducible refine nf c24 ?_ | with_reducible refine And.intro c24 ?_)
      exact go _ (fr.rf.up (o := 55) rfl) (ht.s0 c24)
    · have w24 : vp_in (nI r) 24 := vp_in_nI (by omega) (by decide)
      repeat (first | with_reducible refine bt z1 ?_ | with_reducible refine bf z1 ?_ | with_reducible refine nt z1 ?_ | with_reducible refine nf z1 ?_ | with_reducible refine And.intro z1 ?_ | with_reducible refine bt z2 ?_ | with_reducible refine bf z2 ?_ | with_reducible refine nt z2 ?_ | with_reducible refine nf z2 ?_ | with_reducible refine And.intro z2 ?_ | with_reducible refine bt z3 ?_ | with_reducible refine bf z3 ?_ | with_reducible refine nt z3 ?_ | with_reducible refine nf z3 ?_ | with_reducible refine And.intro z3 ?_ | with_reducible refine bt z4 ?_ | with_reducible refine bf z4 ?_ | with_reducible refine nt z4 ?_ | with_reducible refine nf z4 ?_ | with_reducible refine And.intro z4 ?_ | with_reducible refine bt z5 ?_ | with_reducible refine bf z5 ?_ | with_reducible refine nt z5 ?_ | with_reducible refine nf z5 ?_ | with_reducible refine And.intro z5 ?_ | with_reducible refine bt z6 ?_ | with_reducible refine bf z6 ?_ | with_reducible refine nt z6 ?_ | with_reducible refine nf z6 ?_ | with_reducible refine And.intro z6 ?_ | with_reducible refine bt z7 ?_ | with_reducible refine bf z7 ?_ | with_reducible refine nt z7 ?_ | with_reducible refine nf z7 ?_ | with_reducible refine And.intro z7 ?_ | with_reducible refine bt c24 ?_ | with_reducible refine bf c24 ?_ | with_reducible refine nt c24 ?_ | with_reducible refine nf c24 ?_ | with_reducible refine And.intro c24 ?_ | with_reducible refine bt w24 ?_ | with_reducible refine bf w24 ?_ | with_reducible refine nt w24 ?_ | with_reducible refine nf w24 ?_ | with_reducible refine And.intro w24 ?_)
      exact go _ ((fr.rf.up (o := 80) rfl).up (o := 55) rfl) ht.s
theorem as_1_6 {D kd ix f : Nat} (hkd : kd ≤ 7) (ih : ∀ (k a : Nat) (x : Int32) (n : Nat) (tr : Nat → Int32) (r : Nat) (H : pmT) (K : Int32 → pmT → Prop), k ≤ 7 → a ≤ 3 → cn kd f k a = some n → r + n < 1000 → H.1 55 46 = nI kd → H.1 55 47 = nI ix → TrM tr r H → (∀ H', fr [5546, 8000] H H' → TrM (ev kd (nI ix) f k a x tr r).1 (ev kd (nI ix) f k a x tr r).2.1 H' → K (ev kd (nI ix) f k a x tr r).2.2 H') → pm_R (D + f + 1) (M_as a) [.ref 55, .int (nI k), .int x] H (pm_i K)) (x : Int32) (n : Nat) (tr : Nat → Int32) (r : Nat) (H : pmT) (K : Int32 → pmT → Prop) (h : cn kd (f + 1) 6 1 = some n) (hr : r + n < 1000) (h46 : H.1 55 46 = nI kd) (h47 : H.1 55 47 = nI ix) (ht : TrM tr r H) (kk : ∀ H', fr [5546, 8000] H H' → TrM (ev kd (nI ix) (f + 1) 6 1 x tr r).1 (ev kd (nI ix) (f + 1) 6 1 x tr r).2.1 H' → K (ev kd (nI ix) (f + 1) 6 1 x tr r).2.2 H') : pm_R (D + (f + 1) + 1) M_Mo_addsAs [.ref 55, .int (nI 6), .int x] H (pm_i K) := by
    have e : W_cd 6 1 = 10 := by decide +kernel
    rw [cn_10 e] at h
    rw [ev_10 e] at kk
    simp only [] at kk
    rw [e] at kk
    obtain ⟨p, e1, hn⟩ := add1_s h
    have go : ∀ H1, fr [5546, 8000] H H1 → TrM (upd tr r (nI 10)) (r + 1) H1 → pm_R (D + f + 1) M_Mo_playsAs [.ref 55, .int (nI kd), .int x] H1 (pm_i fun y H2 => K (y * (2 : Int32)) H2) := fun H1 f1 t1 => ih kd 0 _ p _ _ H1 _ hkd (by decide) e1 (by omega) ((f1.1 55 46 rfl).trans h46) ((f1.1 55 47 rfl).trans h47) t1 (fun H2 f2 t2 => kk H2 (f1.tr f2) t2)
    refine m_Mo_addsAs _ _ ?_
    rw [ht.1]
    try rw [h46]
    try rw [h47]
    rw [nI_1 r, nIc (show r < 2 ^ 31 by omega)]
    have z1 : ¬ nI 6 = (1 : Int32) := by decide
    have z2 : ¬ nI 6 = (2 : Int32) := by decide
    have z3 : ¬ nI 6 = (3 : Int32) := by decide
    have z4 : ¬ nI 6 = (4 : Int32) := by decide
    have z5 : ¬ nI 6 = (5 : Int32) := by decide
    have z6 : nI 6 = (6 : Int32) := by decide
    have z7 : ¬ nI 6 = (7 : Int32) := by decide
    have e24 : ((24 : Int32) ≤ nI r) = (24 ≤ r) := i_le 24 r (by decide) (by omega)
    rw [e24]
    by_cases c24 : 24 ≤ r
    · repeat (first | with_reducible refine bt z1 ?_ | with_reducible refine bf z1 ?_ | with_reducible refine nt z1 ?_ | with_reducible refine nf z1 ?_ | with_reducible refine And.intro z1 ?_ | with_reducible refine bt z2 ?_ | with_reducible refine bf z2 ?_ | with_reducible refine nt z2 ?_ | with_reducible refine nf z2 ?_ | with_reducible refine And.intro z2 ?_ | with_reducible refine bt z3 ?_ | with_reducible refine bf z3 ?_ | with_reducible refine nt z3 ?_ | with_reducible refine nf z3 ?_ | with_reducible refine And.intro z3 ?_ | with_reducible refine bt z4 ?_ | with_reducible refine bf z4 ?_ | with_reducible refine nt z4 ?_ | with_reducible refine nf z4 ?_ | with_reducible refine And.intro z4 ?_ | with_reducible refine bt z5 ?_ | with_reducible refine bf z5 ?_ | with_reducible refine nt z5 ?_ | with_reducible refine nf z5 ?_ | with_reducible refine And.intro z5 ?_ | with_reducible refine bt z6 ?_ | with_reducible refine bf z6 ?_ | with_reducible refine nt z6 ?_ | with_reducible refine nf z6 ?_ | with_reducible refine And.intro z6 ?_ | with_reducible refine bt z7 ?_ | with_reducible refine bf z7 ?_ | with_reducible refine nt z7 ?_ | with_reducible refine nf z7 ?_ | with_reducible refine And.intro z7 ?_ | with_reducible refine bt c24 ?_ | with_reducible refine bf c24 ?_ | with_reducible refine nt c24 ?_ | with_reducible refine nf c24 ?_ | with_reducible refine And.intro c24 ?_)
      exact go _ (fr.rf.up (o := 55) rfl) (ht.s0 c24)
    · have w24 : vp_in (nI r) 24 := vp_in_nI (by omega) (by decide)
      repeat (first | with_reducible refine bt z1 ?_ | with_reducible refine bf z1 ?_ | with_reducible refine nt z1 ?_ | with_reducible refine nf z1 ?_ | with_reducible refine And.intro z1 ?_ | with_reducible refine bt z2 ?_ | with_reducible refine bf z2 ?_ | with_reducible refine nt z2 ?_ | with_reducible refine nf z2 ?_ | with_reducible refine And.intro z2 ?_ | with_reducible refine bt z3 ?_ | with_reducible refine bf z3 ?_ | with_reducible refine nt z3 ?_ | with_reducible refine nf z3 ?_ | with_reducible refine And.intro z3 ?_ | with_reducible refine bt z4 ?_ | with_reducible refine bf z4 ?_ | with_reducible refine nt z4 ?_ | with_reducible refine nf z4 ?_ | with_reducible refine And.intro z4 ?_ | with_reducible refine bt z5 ?_ | with_reducible refine bf z5 ?_ | with_reducible refine nt z5 ?_ | with_reducible refine nf z5 ?_ | with_reducible refine And.intro z5 ?_ | with_reducible refine bt z6 ?_ | with_reducible refine bf z6 ?_ | with_reducible refine nt z6 ?_ | with_reducible refine nf z6 ?_ | with_reducible refine And.intro z6 ?_ | with_reducible refine bt z7 ?_ | with_reducible refine bf z7 ?_ | with_reducible refine nt z7 ?_ | with_reducible refine nf z7 ?_ | with_reducible refine And.intro z7 ?_ | with_reducible refine bt c24 ?_ | with_reducible refine bf c24 ?_ | with_reducible refine nt c24 ?_ | with_reducible refine nf c24 ?_ | with_reducible refine And.intro c24 ?_ | with_reducible refine bt w24 ?_ | with_reducible refine bf w24 ?_ | with_reducible refine nt w24 ?_ | with_reducible refine nf w24 ?_ | with_reducible refine And.intro w24 ?_)
      exact go _ ((fr.rf.up (o := 80) rfl).up (o := 55) rfl) ht.s
theorem as_1_7 {D kd ix f : Nat} (hkd : kd ≤ 7) (ih : ∀ (k a : Nat) (x : Int32) (n : Nat) (tr : Nat → Int32) (r : Nat) (H : pmT) (K : Int32 → pmT → Prop), k ≤ 7 → a ≤ 3 → cn kd f k a = some n → r + n < 1000 → H.1 55 46 = nI kd → H.1 55 47 = nI ix → TrM tr r H → (∀ H', fr [5546, 8000] H H' → TrM (ev kd (nI ix) f k a x tr r).1 (ev kd (nI ix) f k a x tr r).2.1 H' → K (ev kd (nI ix) f k a x tr r).2.2 H') → pm_R (D + f + 1) (M_as a) [.ref 55, .int (nI k), .int x] H (pm_i K)) (x : Int32) (n : Nat) (tr : Nat → Int32) (r : Nat) (H : pmT) (K : Int32 → pmT → Prop) (h : cn kd (f + 1) 7 1 = some n) (hr : r + n < 1000) (h46 : H.1 55 46 = nI kd) (h47 : H.1 55 47 = nI ix) (ht : TrM tr r H) (kk : ∀ H', fr [5546, 8000] H H' → TrM (ev kd (nI ix) (f + 1) 7 1 x tr r).1 (ev kd (nI ix) (f + 1) 7 1 x tr r).2.1 H' → K (ev kd (nI ix) (f + 1) 7 1 x tr r).2.2 H') : pm_R (D + (f + 1) + 1) M_Mo_addsAs [.ref 55, .int (nI 7), .int x] H (pm_i K) := by
    have e : W_cd 7 1 = 80 := by decide +kernel
    rw [cn_80 e] at h
    rw [ev_80 e] at kk
    simp only [] at kk
    rw [e] at kk
    rw [show W_up 7 1 = 4 by decide +kernel] at kk h
    obtain ⟨p, q, e1, e2, hn⟩ := add2_s h
    have go : ∀ H1, fr [5546, 8000] H H1 → TrM (upd tr r (nI 80)) (r + 1) H1 → pm_R (D + f + 1) M_Mo_addsAs [.ref 55, .int (4 : Int32), .int x] H1 (pm_i fun y H2 => pm_R (D + f + 1) M_Mo_fadesAs [.ref 55, .int (H2.1 55 46), .int (2 : Int32)] H2 (pm_i fun z H3 => K (y + z) H3)) := fun H1 f1 t1 => ih 4 1 _ p _ _ H1 _ (by decide) (by decide) e1 (by omega) ((f1.1 55 46 rfl).trans h46) ((f1.1 55 47 rfl).trans h47) t1 (fun H2 f2 t2 => by
      rw [show H2.1 55 46 = nI kd from (f2.1 55 46 rfl).trans ((f1.1 55 46 rfl).trans h46)]
      exact ih kd 2 _ q _ _ H2 _ hkd (by decide) e2 (by rw [ev_r hkd _ _ _ _ _ _ p (by decide) (by decide) e1]; omega) (((f1.tr f2).1 55 46 rfl).trans h46) (((f1.tr f2).1 55 47 rfl).trans h47) t2 (fun H3 f3 t3 => kk H3 (f1.tr (f2.tr f3)) t3))
    refine m_Mo_addsAs _ _ ?_
    rw [ht.1]
    try rw [h46]
    try rw [h47]
    rw [nI_1 r, nIc (show r < 2 ^ 31 by omega)]
    have z1 : ¬ nI 7 = (1 : Int32) := by decide
    have z2 : ¬ nI 7 = (2 : Int32) := by decide
    have z3 : ¬ nI 7 = (3 : Int32) := by decide
    have z4 : ¬ nI 7 = (4 : Int32) := by decide
    have z5 : ¬ nI 7 = (5 : Int32) := by decide
    have z6 : ¬ nI 7 = (6 : Int32) := by decide
    have z7 : nI 7 = (7 : Int32) := by decide
    have e24 : ((24 : Int32) ≤ nI r) = (24 ≤ r) := i_le 24 r (by decide) (by omega)
    rw [e24]
    by_cases c24 : 24 ≤ r
    · repeat (first | with_reducible refine bt z1 ?_ | with_reducible refine bf z1 ?_ | with_reducible refine nt z1 ?_ | with_reducible refine nf z1 ?_ | with_reducible refine And.intro z1 ?_ | with_reducible refine bt z2 ?_ | with_reducible refine bf z2 ?_ | with_reducible refine nt z2 ?_ | with_reducible refine nf z2 ?_ | with_reducible refine And.intro z2 ?_ | with_reducible refine bt z3 ?_ | with_reducible refine bf z3 ?_ | with_reducible refine nt z3 ?_ | with_reducible refine nf z3 ?_ | with_reducible refine And.intro z3 ?_ | with_reducible refine bt z4 ?_ | with_reducible refine bf z4 ?_ | with_reducible refine nt z4 ?_ | with_reducible refine nf z4 ?_ | with_reducible refine And.intro z4 ?_ | with_reducible refine bt z5 ?_ | with_reducible refine bf z5 ?_ | with_reducible refine nt z5 ?_ | with_reducible refine nf z5 ?_ | with_reducible refine And.intro z5 ?_ | with_reducible refine bt z6 ?_ | with_reducible refine bf z6 ?_ | with_reducible refine nt z6 ?_ | with_reducible refine nf z6 ?_ | with_reducible refine And.intro z6 ?_ | with_reducible refine bt z7 ?_ | with_reducible refine bf z7 ?_ | with_reducible refine nt z7 ?_ | with_reducible refine nf z7 ?_ | with_reducible refine And.intro z7 ?_ | with_reducible refine bt c24 ?_ | with_reducible refine bf c24 ?_ | with_reducible refine nt c24 ?_ | with_reducible refine nf c24 ?_ | with_reducible refine And.intro c24 ?_)
      exact go _ (fr.rf.up (o := 55) rfl) (ht.s0 c24)
    · have w24 : vp_in (nI r) 24 := vp_in_nI (by omega) (by decide)
      repeat (first | with_reducible refine bt z1 ?_ | with_reducible refine bf z1 ?_ | with_reducible refine nt z1 ?_ | with_reducible refine nf z1 ?_ | with_reducible refine And.intro z1 ?_ | with_reducible refine bt z2 ?_ | with_reducible refine bf z2 ?_ | with_reducible refine nt z2 ?_ | with_reducible refine nf z2 ?_ | with_reducible refine And.intro z2 ?_ | with_reducible refine bt z3 ?_ | with_reducible refine bf z3 ?_ | with_reducible refine nt z3 ?_ | with_reducible refine nf z3 ?_ | with_reducible refine And.intro z3 ?_ | with_reducible refine bt z4 ?_ | with_reducible refine bf z4 ?_ | with_reducible refine nt z4 ?_ | with_reducible refine nf z4 ?_ | with_reducible refine And.intro z4 ?_ | with_reducible refine bt z5 ?_ | with_reducible refine bf z5 ?_ | with_reducible refine nt z5 ?_ | with_reducible refine nf z5 ?_ | with_reducible refine And.intro z5 ?_ | with_reducible refine bt z6 ?_ | with_reducible refine bf z6 ?_ | with_reducible refine nt z6 ?_ | with_reducible refine nf z6 ?_ | with_reducible refine And.intro z6 ?_ | with_reducible refine bt z7 ?_ | with_reducible refine bf z7 ?_ | with_reducible refine nt z7 ?_ | with_reducible refine nf z7 ?_ | with_reducible refine And.intro z7 ?_ | with_reducible refine bt c24 ?_ | with_reducible refine bf c24 ?_ | with_reducible refine nt c24 ?_ | with_reducible refine nf c24 ?_ | with_reducible refine And.intro c24 ?_ | with_reducible refine bt w24 ?_ | with_reducible refine bf w24 ?_ | with_reducible refine nt w24 ?_ | with_reducible refine nf w24 ?_ | with_reducible refine And.intro w24 ?_)
      exact go _ ((fr.rf.up (o := 80) rfl).up (o := 55) rfl) ht.s
theorem as_2_0 {D kd ix f : Nat} (hkd : kd ≤ 7) (ih : ∀ (k a : Nat) (x : Int32) (n : Nat) (tr : Nat → Int32) (r : Nat) (H : pmT) (K : Int32 → pmT → Prop), k ≤ 7 → a ≤ 3 → cn kd f k a = some n → r + n < 1000 → H.1 55 46 = nI kd → H.1 55 47 = nI ix → TrM tr r H → (∀ H', fr [5546, 8000] H H' → TrM (ev kd (nI ix) f k a x tr r).1 (ev kd (nI ix) f k a x tr r).2.1 H' → K (ev kd (nI ix) f k a x tr r).2.2 H') → pm_R (D + f + 1) (M_as a) [.ref 55, .int (nI k), .int x] H (pm_i K)) (x : Int32) (n : Nat) (tr : Nat → Int32) (r : Nat) (H : pmT) (K : Int32 → pmT → Prop) (h : cn kd (f + 1) 0 2 = some n) (hr : r + n < 1000) (h46 : H.1 55 46 = nI kd) (h47 : H.1 55 47 = nI ix) (ht : TrM tr r H) (kk : ∀ H', fr [5546, 8000] H H' → TrM (ev kd (nI ix) (f + 1) 0 2 x tr r).1 (ev kd (nI ix) (f + 1) 0 2 x tr r).2.1 H' → K (ev kd (nI ix) (f + 1) 0 2 x tr r).2.2 H') : pm_R (D + (f + 1) + 1) M_Mo_fadesAs [.ref 55, .int (nI 0), .int x] H (pm_i K) := by
    have e : W_cd 0 2 = 11 := by decide +kernel
    rw [cn_11 e] at h
    rw [ev_11 e] at kk
    simp only [] at kk
    rw [e] at kk
    have hn := Option.some.inj h
    have go : ∀ H1, fr [5546, 8000] H H1 → TrM (upd tr r (nI 11)) (r + 1) H1 → K (x ^^^ nI ix) H1 := fun H1 f1 t1 => kk H1 f1 t1
    refine m_Mo_fadesAs _ _ ?_
    rw [ht.1]
    try rw [h46]
    try rw [h47]
    rw [nI_1 r, nIc (show r < 2 ^ 31 by omega)]
    have z1 : ¬ nI 0 = (1 : Int32) := by decide
    have z2 : ¬ nI 0 = (2 : Int32) := by decide
    have z3 : ¬ nI 0 = (3 : Int32) := by decide
    have z4 : ¬ nI 0 = (4 : Int32) := by decide
    have z5 : ¬ nI 0 = (5 : Int32) := by decide
    have z6 : ¬ nI 0 = (6 : Int32) := by decide
    have z7 : ¬ nI 0 = (7 : Int32) := by decide
    have e24 : ((24 : Int32) ≤ nI r) = (24 ≤ r) := i_le 24 r (by decide) (by omega)
    rw [e24]
    by_cases c24 : 24 ≤ r
    · repeat (first | with_reducible refine bt z1 ?_ | with_reducible refine bf z1 ?_ | with_reducible refine nt z1 ?_ | with_reducible refine nf z1 ?_ | with_reducible refine And.intro z1 ?_ | with_reducible refine bt z2 ?_ | with_reducible refine bf z2 ?_ | with_reducible refine nt z2 ?_ | with_reducible refine nf z2 ?_ | with_reducible refine And.intro z2 ?_ | with_reducible refine bt z3 ?_ | with_reducible refine bf z3 ?_ | with_reducible refine nt z3 ?_ | with_reducible refine nf z3 ?_ | with_reducible refine And.intro z3 ?_ | with_reducible refine bt z4 ?_ | with_reducible refine bf z4 ?_ | with_reducible refine nt z4 ?_ | with_reducible refine nf z4 ?_ | with_reducible refine And.intro z4 ?_ | with_reducible refine bt z5 ?_ | with_reducible refine bf z5 ?_ | with_reducible refine nt z5 ?_ | with_reducible refine nf z5 ?_ | with_reducible refine And.intro z5 ?_ | with_reducible refine bt z6 ?_ | with_reducible refine bf z6 ?_ | with_reducible refine nt z6 ?_ | with_reducible refine nf z6 ?_ | with_reducible refine And.intro z6 ?_ | with_reducible refine bt z7 ?_ | with_reducible refine bf z7 ?_ | with_reducible refine nt z7 ?_ | with_reducible refine nf z7 ?_ | with_reducible refine And.intro z7 ?_ | with_reducible refine bt c24 ?_ | with_reducible refine bf c24 ?_ | with_reducible refine nt c24 ?_ | with_reducible refine nf c24 ?_ | with_reducible refine And.intro c24 ?_)
      exact go _ (fr.rf.up (o := 55) rfl) (ht.s0 c24)
    · have w24 : vp_in (nI r) 24 := vp_in_nI (by omega) (by decide)
      repeat (first | with_reducible refine bt z1 ?_ | with_reducible refine bf z1 ?_ | with_reducible refine nt z1 ?_ | with_reducible refine nf z1 ?_ | with_reducible refine And.intro z1 ?_ | with_reducible refine bt z2 ?_ | with_reducible refine bf z2 ?_ | with_reducible refine nt z2 ?_ | with_reducible refine nf z2 ?_ | with_reducible refine And.intro z2 ?_ | with_reducible refine bt z3 ?_ | with_reducible refine bf z3 ?_ | with_reducible refine nt z3 ?_ | with_reducible refine nf z3 ?_ | with_reducible refine And.intro z3 ?_ | with_reducible refine bt z4 ?_ | with_reducible refine bf z4 ?_ | with_reducible refine nt z4 ?_ | with_reducible refine nf z4 ?_ | with_reducible refine And.intro z4 ?_ | with_reducible refine bt z5 ?_ | with_reducible refine bf z5 ?_ | with_reducible refine nt z5 ?_ | with_reducible refine nf z5 ?_ | with_reducible refine And.intro z5 ?_ | with_reducible refine bt z6 ?_ | with_reducible refine bf z6 ?_ | with_reducible refine nt z6 ?_ | with_reducible refine nf z6 ?_ | with_reducible refine And.intro z6 ?_ | with_reducible refine bt z7 ?_ | with_reducible refine bf z7 ?_ | with_reducible refine nt z7 ?_ | with_reducible refine nf z7 ?_ | with_reducible refine And.intro z7 ?_ | with_reducible refine bt c24 ?_ | with_reducible refine bf c24 ?_ | with_reducible refine nt c24 ?_ | with_reducible refine nf c24 ?_ | with_reducible refine And.intro c24 ?_ | with_reducible refine bt w24 ?_ | with_reducible refine bf w24 ?_ | with_reducible refine nt w24 ?_ | with_reducible refine nf w24 ?_ | with_reducible refine And.intro w24 ?_)
      exact go _ ((fr.rf.up (o := 80) rfl).up (o := 55) rfl) ht.s
theorem as_2_1 {D kd ix f : Nat} (hkd : kd ≤ 7) (ih : ∀ (k a : Nat) (x : Int32) (n : Nat) (tr : Nat → Int32) (r : Nat) (H : pmT) (K : Int32 → pmT → Prop), k ≤ 7 → a ≤ 3 → cn kd f k a = some n → r + n < 1000 → H.1 55 46 = nI kd → H.1 55 47 = nI ix → TrM tr r H → (∀ H', fr [5546, 8000] H H' → TrM (ev kd (nI ix) f k a x tr r).1 (ev kd (nI ix) f k a x tr r).2.1 H' → K (ev kd (nI ix) f k a x tr r).2.2 H') → pm_R (D + f + 1) (M_as a) [.ref 55, .int (nI k), .int x] H (pm_i K)) (x : Int32) (n : Nat) (tr : Nat → Int32) (r : Nat) (H : pmT) (K : Int32 → pmT → Prop) (h : cn kd (f + 1) 1 2 = some n) (hr : r + n < 1000) (h46 : H.1 55 46 = nI kd) (h47 : H.1 55 47 = nI ix) (ht : TrM tr r H) (kk : ∀ H', fr [5546, 8000] H H' → TrM (ev kd (nI ix) (f + 1) 1 2 x tr r).1 (ev kd (nI ix) (f + 1) 1 2 x tr r).2.1 H' → K (ev kd (nI ix) (f + 1) 1 2 x tr r).2.2 H') : pm_R (D + (f + 1) + 1) M_Mo_fadesAs [.ref 55, .int (nI 1), .int x] H (pm_i K) := by
    have e : W_cd 1 2 = 11 := by decide +kernel
    rw [cn_11 e] at h
    rw [ev_11 e] at kk
    simp only [] at kk
    rw [e] at kk
    have hn := Option.some.inj h
    have go : ∀ H1, fr [5546, 8000] H H1 → TrM (upd tr r (nI 11)) (r + 1) H1 → K (x ^^^ nI ix) H1 := fun H1 f1 t1 => kk H1 f1 t1
    refine m_Mo_fadesAs _ _ ?_
    rw [ht.1]
    try rw [h46]
    try rw [h47]
    rw [nI_1 r, nIc (show r < 2 ^ 31 by omega)]
    have z1 : nI 1 = (1 : Int32) := by decide
    have z2 : ¬ nI 1 = (2 : Int32) := by decide
    have z3 : ¬ nI 1 = (3 : Int32) := by decide
    have z4 : ¬ nI 1 = (4 : Int32) := by decide
    have z5 : ¬ nI 1 = (5 : Int32) := by decide
    have z6 : ¬ nI 1 = (6 : Int32) := by decide
    have z7 : ¬ nI 1 = (7 : Int32) := by decide
    have e24 : ((24 : Int32) ≤ nI r) = (24 ≤ r) := i_le 24 r (by decide) (by omega)
    rw [e24]
    by_cases c24 : 24 ≤ r
    · repeat (first | with_reducible refine bt z1 ?_ | with_reducible refine bf z1 ?_ | with_reducible refine nt z1 ?_ | with_reducible refine nf z1 ?_ | with_reducible refine And.intro z1 ?_ | with_reducible refine bt z2 ?_ | with_reducible refine bf z2 ?_ | with_reducible refine nt z2 ?_ | with_reducible refine nf z2 ?_ | with_reducible refine And.intro z2 ?_ | with_reducible refine bt z3 ?_ | with_reducible refine bf z3 ?_ | with_reducible refine nt z3 ?_ | with_reducible refine nf z3 ?_ | with_reducible refine And.intro z3 ?_ | with_reducible refine bt z4 ?_ | with_reducible refine bf z4 ?_ | with_reducible refine nt z4 ?_ | with_reducible refine nf z4 ?_ | with_reducible refine And.intro z4 ?_ | with_reducible refine bt z5 ?_ | with_reducible refine bf z5 ?_ | with_reducible refine nt z5 ?_ | with_reducible refine nf z5 ?_ | with_reducible refine And.intro z5 ?_ | with_reducible refine bt z6 ?_ | with_reducible refine bf z6 ?_ | with_reducible refine nt z6 ?_ | with_reducible refine nf z6 ?_ | with_reducible refine And.intro z6 ?_ | with_reducible refine bt z7 ?_ | with_reducible refine bf z7 ?_ | with_reducible refine nt z7 ?_ | with_reducible refine nf z7 ?_ | with_reducible refine And.intro z7 ?_ | with_reducible refine bt c24 ?_ | with_reducible refine bf c24 ?_ | with_reducible refine nt c24 ?_ | with_reducible refine nf c24 ?_ | with_reducible refine And.intro c24 ?_)
      exact go _ (fr.rf.up (o := 55) rfl) (ht.s0 c24)
    · have w24 : vp_in (nI r) 24 := vp_in_nI (by omega) (by decide)
      repeat (first | with_reducible refine bt z1 ?_ | with_reducible refine bf z1 ?_ | with_reducible refine nt z1 ?_ | with_reducible refine nf z1 ?_ | with_reducible refine And.intro z1 ?_ | with_reducible refine bt z2 ?_ | with_reducible refine bf z2 ?_ | with_reducible refine nt z2 ?_ | with_reducible refine nf z2 ?_ | with_reducible refine And.intro z2 ?_ | with_reducible refine bt z3 ?_ | with_reducible refine bf z3 ?_ | with_reducible refine nt z3 ?_ | with_reducible refine nf z3 ?_ | with_reducible refine And.intro z3 ?_ | with_reducible refine bt z4 ?_ | with_reducible refine bf z4 ?_ | with_reducible refine nt z4 ?_ | with_reducible refine nf z4 ?_ | with_reducible refine And.intro z4 ?_ | with_reducible refine bt z5 ?_ | with_reducible refine bf z5 ?_ | with_reducible refine nt z5 ?_ | with_reducible refine nf z5 ?_ | with_reducible refine And.intro z5 ?_ | with_reducible refine bt z6 ?_ | with_reducible refine bf z6 ?_ | with_reducible refine nt z6 ?_ | with_reducible refine nf z6 ?_ | with_reducible refine And.intro z6 ?_ | with_reducible refine bt z7 ?_ | with_reducible refine bf z7 ?_ | with_reducible refine nt z7 ?_ | with_reducible refine nf z7 ?_ | with_reducible refine And.intro z7 ?_ | with_reducible refine bt c24 ?_ | with_reducible refine bf c24 ?_ | with_reducible refine nt c24 ?_ | with_reducible refine nf c24 ?_ | with_reducible refine And.intro c24 ?_ | with_reducible refine bt w24 ?_ | with_reducible refine bf w24 ?_ | with_reducible refine nt w24 ?_ | with_reducible refine nf w24 ?_ | with_reducible refine And.intro w24 ?_)
      exact go _ ((fr.rf.up (o := 80) rfl).up (o := 55) rfl) ht.s
theorem as_2_2 {D kd ix f : Nat} (hkd : kd ≤ 7) (ih : ∀ (k a : Nat) (x : Int32) (n : Nat) (tr : Nat → Int32) (r : Nat) (H : pmT) (K : Int32 → pmT → Prop), k ≤ 7 → a ≤ 3 → cn kd f k a = some n → r + n < 1000 → H.1 55 46 = nI kd → H.1 55 47 = nI ix → TrM tr r H → (∀ H', fr [5546, 8000] H H' → TrM (ev kd (nI ix) f k a x tr r).1 (ev kd (nI ix) f k a x tr r).2.1 H' → K (ev kd (nI ix) f k a x tr r).2.2 H') → pm_R (D + f + 1) (M_as a) [.ref 55, .int (nI k), .int x] H (pm_i K)) (x : Int32) (n : Nat) (tr : Nat → Int32) (r : Nat) (H : pmT) (K : Int32 → pmT → Prop) (h : cn kd (f + 1) 2 2 = some n) (hr : r + n < 1000) (h46 : H.1 55 46 = nI kd) (h47 : H.1 55 47 = nI ix) (ht : TrM tr r H) (kk : ∀ H', fr [5546, 8000] H H' → TrM (ev kd (nI ix) (f + 1) 2 2 x tr r).1 (ev kd (nI ix) (f + 1) 2 2 x tr r).2.1 H' → K (ev kd (nI ix) (f + 1) 2 2 x tr r).2.2 H') : pm_R (D + (f + 1) + 1) M_Mo_fadesAs [.ref 55, .int (nI 2), .int x] H (pm_i K) := by
    have e : W_cd 2 2 = 11 := by decide +kernel
    rw [cn_11 e] at h
    rw [ev_11 e] at kk
    simp only [] at kk
    rw [e] at kk
    have hn := Option.some.inj h
    have go : ∀ H1, fr [5546, 8000] H H1 → TrM (upd tr r (nI 11)) (r + 1) H1 → K (x ^^^ nI ix) H1 := fun H1 f1 t1 => kk H1 f1 t1
    refine m_Mo_fadesAs _ _ ?_
    rw [ht.1]
    try rw [h46]
    try rw [h47]
    rw [nI_1 r, nIc (show r < 2 ^ 31 by omega)]
    have z1 : ¬ nI 2 = (1 : Int32) := by decide
    have z2 : nI 2 = (2 : Int32) := by decide
    have z3 : ¬ nI 2 = (3 : Int32) := by decide
    have z4 : ¬ nI 2 = (4 : Int32) := by decide
    have z5 : ¬ nI 2 = (5 : Int32) := by decide
    have z6 : ¬ nI 2 = (6 : Int32) := by decide
    have z7 : ¬ nI 2 = (7 : Int32) := by decide
    have e24 : ((24 : Int32) ≤ nI r) = (24 ≤ r) := i_le 24 r (by decide) (by omega)
    rw [e24]
    by_cases c24 : 24 ≤ r
    · repeat (first | with_reducible refine bt z1 ?_ | with_reducible refine bf z1 ?_ | with_reducible refine nt z1 ?_ | with_reducible refine nf z1 ?_ | with_reducible refine And.intro z1 ?_ | with_reducible refine bt z2 ?_ | with_reducible refine bf z2 ?_ | with_reducible refine nt z2 ?_ | with_reducible refine nf z2 ?_ | with_reducible refine And.intro z2 ?_ | with_reducible refine bt z3 ?_ | with_reducible refine bf z3 ?_ | with_reducible refine nt z3 ?_ | with_reducible refine nf z3 ?_ | with_reducible refine And.intro z3 ?_ | with_reducible refine bt z4 ?_ | with_reducible refine bf z4 ?_ | with_reducible refine nt z4 ?_ | with_reducible refine nf z4 ?_ | with_reducible refine And.intro z4 ?_ | with_reducible refine bt z5 ?_ | with_reducible refine bf z5 ?_ | with_reducible refine nt z5 ?_ | with_reducible refine nf z5 ?_ | with_reducible refine And.intro z5 ?_ | with_reducible refine bt z6 ?_ | with_reducible refine bf z6 ?_ | with_reducible refine nt z6 ?_ | with_reducible refine nf z6 ?_ | with_reducible refine And.intro z6 ?_ | with_reducible refine bt z7 ?_ | with_reducible refine bf z7 ?_ | with_reducible refine nt z7 ?_ | with_reducible refine nf z7 ?_ | with_reducible refine And.intro z7 ?_ | with_reducible refine bt c24 ?_ | with_reducible refine bf c24 ?_ | with_reducible refine nt c24 ?_ | with_reducible refine nf c24 ?_ | with_reducible refine And.intro c24 ?_)
      exact go _ (fr.rf.up (o := 55) rfl) (ht.s0 c24)
    · have w24 : vp_in (nI r) 24 := vp_in_nI (by omega) (by decide)
      repeat (first | with_reducible refine bt z1 ?_ | with_reducible refine bf z1 ?_ | with_reducible refine nt z1 ?_ | with_reducible refine nf z1 ?_ | with_reducible refine And.intro z1 ?_ | with_reducible refine bt z2 ?_ | with_reducible refine bf z2 ?_ | with_reducible refine nt z2 ?_ | with_reducible refine nf z2 ?_ | with_reducible refine And.intro z2 ?_ | with_reducible refine bt z3 ?_ | with_reducible refine bf z3 ?_ | with_reducible refine nt z3 ?_ | with_reducible refine nf z3 ?_ | with_reducible refine And.intro z3 ?_ | with_reducible refine bt z4 ?_ | with_reducible refine bf z4 ?_ | with_reducible refine nt z4 ?_ | with_reducible refine nf z4 ?_ | with_reducible refine And.intro z4 ?_ | with_reducible refine bt z5 ?_ | with_reducible refine bf z5 ?_ | with_reducible refine nt z5 ?_ | with_reducible refine nf z5 ?_ | with_reducible refine And.intro z5 ?_ | with_reducible refine bt z6 ?_ | with_reducible refine bf z6 ?_ | with_reducible refine nt z6 ?_ | with_reducible refine nf z6 ?_ | with_reducible refine And.intro z6 ?_ | with_reducible refine bt z7 ?_ | with_reducible refine bf z7 ?_ | with_reducible refine nt z7 ?_ | with_reducible refine nf z7 ?_ | with_reducible refine And.intro z7 ?_ | with_reducible refine bt c24 ?_ | with_reducible refine bf c24 ?_ | with_reducible refine nt c24 ?_ | with_reducible refine nf c24 ?_ | with_reducible refine And.intro c24 ?_ | with_reducible refine bt w24 ?_ | with_reducible refine bf w24 ?_ | with_reducible refine nt w24 ?_ | with_reducible refine nf w24 ?_ | with_reducible refine And.intro w24 ?_)
      exact go _ ((fr.rf.up (o := 80) rfl).up (o := 55) rfl) ht.s
theorem as_2_3 {D kd ix f : Nat} (hkd : kd ≤ 7) (ih : ∀ (k a : Nat) (x : Int32) (n : Nat) (tr : Nat → Int32) (r : Nat) (H : pmT) (K : Int32 → pmT → Prop), k ≤ 7 → a ≤ 3 → cn kd f k a = some n → r + n < 1000 → H.1 55 46 = nI kd → H.1 55 47 = nI ix → TrM tr r H → (∀ H', fr [5546, 8000] H H' → TrM (ev kd (nI ix) f k a x tr r).1 (ev kd (nI ix) f k a x tr r).2.1 H' → K (ev kd (nI ix) f k a x tr r).2.2 H') → pm_R (D + f + 1) (M_as a) [.ref 55, .int (nI k), .int x] H (pm_i K)) (x : Int32) (n : Nat) (tr : Nat → Int32) (r : Nat) (H : pmT) (K : Int32 → pmT → Prop) (h : cn kd (f + 1) 3 2 = some n) (hr : r + n < 1000) (h46 : H.1 55 46 = nI kd) (h47 : H.1 55 47 = nI ix) (ht : TrM tr r H) (kk : ∀ H', fr [5546, 8000] H H' → TrM (ev kd (nI ix) (f + 1) 3 2 x tr r).1 (ev kd (nI ix) (f + 1) 3 2 x tr r).2.1 H' → K (ev kd (nI ix) (f + 1) 3 2 x tr r).2.2 H') : pm_R (D + (f + 1) + 1) M_Mo_fadesAs [.ref 55, .int (nI 3), .int x] H (pm_i K) := by
    have e : W_cd 3 2 = 40 := by decide +kernel
    rw [cn_40 e] at h
    rw [ev_40 e] at kk
    simp only [] at kk
    rw [e] at kk
    rw [show W_up 3 2 = 2 by decide +kernel] at kk h
    obtain ⟨p, e1, hn⟩ := add1_s h
    have go : ∀ H1, fr [5546, 8000] H H1 → TrM (upd tr r (nI 40)) (r + 1) H1 → pm_R (D + f + 1) M_Mo_fadesAs [.ref 55, .int (2 : Int32), .int x] H1 (pm_i fun y H2 => K (y * (3 : Int32)) H2) := fun H1 f1 t1 => ih 2 2 _ p _ _ H1 _ (by decide) (by decide) e1 (by omega) ((f1.1 55 46 rfl).trans h46) ((f1.1 55 47 rfl).trans h47) t1 (fun H2 f2 t2 => kk H2 (f1.tr f2) t2)
    refine m_Mo_fadesAs _ _ ?_
    rw [ht.1]
    try rw [h46]
    try rw [h47]
    rw [nI_1 r, nIc (show r < 2 ^ 31 by omega)]
    have z1 : ¬ nI 3 = (1 : Int32) := by decide
    have z2 : ¬ nI 3 = (2 : Int32) := by decide
    have z3 : nI 3 = (3 : Int32) := by decide
    have z4 : ¬ nI 3 = (4 : Int32) := by decide
    have z5 : ¬ nI 3 = (5 : Int32) := by decide
    have z6 : ¬ nI 3 = (6 : Int32) := by decide
    have z7 : ¬ nI 3 = (7 : Int32) := by decide
    have e24 : ((24 : Int32) ≤ nI r) = (24 ≤ r) := i_le 24 r (by decide) (by omega)
    rw [e24]
    by_cases c24 : 24 ≤ r
    · repeat (first | with_reducible refine bt z1 ?_ | with_reducible refine bf z1 ?_ | with_reducible refine nt z1 ?_ | with_reducible refine nf z1 ?_ | with_reducible refine And.intro z1 ?_ | with_reducible refine bt z2 ?_ | with_reducible refine bf z2 ?_ | with_reducible refine nt z2 ?_ | with_reducible refine nf z2 ?_ | with_reducible refine And.intro z2 ?_ | with_reducible refine bt z3 ?_ | with_reducible refine bf z3 ?_ | with_reducible refine nt z3 ?_ | with_reducible refine nf z3 ?_ | with_reducible refine And.intro z3 ?_ | with_reducible refine bt z4 ?_ | with_reducible refine bf z4 ?_ | with_reducible refine nt z4 ?_ | with_reducible refine nf z4 ?_ | with_reducible refine And.intro z4 ?_ | with_reducible refine bt z5 ?_ | with_reducible refine bf z5 ?_ | with_reducible refine nt z5 ?_ | with_reducible refine nf z5 ?_ | with_reducible refine And.intro z5 ?_ | with_reducible refine bt z6 ?_ | with_reducible refine bf z6 ?_ | with_reducible refine nt z6 ?_ | with_reducible refine nf z6 ?_ | with_reducible refine And.intro z6 ?_ | with_reducible refine bt z7 ?_ | with_reducible refine bf z7 ?_ | with_reducible refine nt z7 ?_ | with_reducible refine nf z7 ?_ | with_reducible refine And.intro z7 ?_ | with_reducible refine bt c24 ?_ | with_reducible refine bf c24 ?_ | with_reducible refine nt c24 ?_ | with_reducible refine nf c24 ?_ | with_reducible refine And.intro c24 ?_)
      exact go _ (fr.rf.up (o := 55) rfl) (ht.s0 c24)
    · have w24 : vp_in (nI r) 24 := vp_in_nI (by omega) (by decide)
      repeat (first | with_reducible refine bt z1 ?_ | with_reducible refine bf z1 ?_ | with_reducible refine nt z1 ?_ | with_reducible refine nf z1 ?_ | with_reducible refine And.intro z1 ?_ | with_reducible refine bt z2 ?_ | with_reducible refine bf z2 ?_ | with_reducible refine nt z2 ?_ | with_reducible refine nf z2 ?_ | with_reducible refine And.intro z2 ?_ | with_reducible refine bt z3 ?_ | with_reducible refine bf z3 ?_ | with_reducible refine nt z3 ?_ | with_reducible refine nf z3 ?_ | with_reducible refine And.intro z3 ?_ | with_reducible refine bt z4 ?_ | with_reducible refine bf z4 ?_ | with_reducible refine nt z4 ?_ | with_reducible refine nf z4 ?_ | with_reducible refine And.intro z4 ?_ | with_reducible refine bt z5 ?_ | with_reducible refine bf z5 ?_ | with_reducible refine nt z5 ?_ | with_reducible refine nf z5 ?_ | with_reducible refine And.intro z5 ?_ | with_reducible refine bt z6 ?_ | with_reducible refine bf z6 ?_ | with_reducible refine nt z6 ?_ | with_reducible refine nf z6 ?_ | with_reducible refine And.intro z6 ?_ | with_reducible refine bt z7 ?_ | with_reducible refine bf z7 ?_ | with_reducible refine nt z7 ?_ | with_reducible refine nf z7 ?_ | with_reducible refine And.intro z7 ?_ | with_reducible refine bt c24 ?_ | with_reducible refine bf c24 ?_ | with_reducible refine nt c24 ?_ | with_reducible refine nf c24 ?_ | with_reducible refine And.intro c24 ?_ | with_reducible refine bt w24 ?_ | with_reducible refine bf w24 ?_ | with_reducible refine nt w24 ?_ | with_reducible refine nf w24 ?_ | with_reducible refine And.intro w24 ?_)
      exact go _ ((fr.rf.up (o := 80) rfl).up (o := 55) rfl) ht.s
theorem as_2_4 {D kd ix f : Nat} (hkd : kd ≤ 7) (ih : ∀ (k a : Nat) (x : Int32) (n : Nat) (tr : Nat → Int32) (r : Nat) (H : pmT) (K : Int32 → pmT → Prop), k ≤ 7 → a ≤ 3 → cn kd f k a = some n → r + n < 1000 → H.1 55 46 = nI kd → H.1 55 47 = nI ix → TrM tr r H → (∀ H', fr [5546, 8000] H H' → TrM (ev kd (nI ix) f k a x tr r).1 (ev kd (nI ix) f k a x tr r).2.1 H' → K (ev kd (nI ix) f k a x tr r).2.2 H') → pm_R (D + f + 1) (M_as a) [.ref 55, .int (nI k), .int x] H (pm_i K)) (x : Int32) (n : Nat) (tr : Nat → Int32) (r : Nat) (H : pmT) (K : Int32 → pmT → Prop) (h : cn kd (f + 1) 4 2 = some n) (hr : r + n < 1000) (h46 : H.1 55 46 = nI kd) (h47 : H.1 55 47 = nI ix) (ht : TrM tr r H) (kk : ∀ H', fr [5546, 8000] H H' → TrM (ev kd (nI ix) (f + 1) 4 2 x tr r).1 (ev kd (nI ix) (f + 1) 4 2 x tr r).2.1 H' → K (ev kd (nI ix) (f + 1) 4 2 x tr r).2.2 H') : pm_R (D + (f + 1) + 1) M_Mo_fadesAs [.ref 55, .int (nI 4), .int x] H (pm_i K) := by
    have e : W_cd 4 2 = 50 := by decide +kernel
    rw [cn_50 e] at h
    rw [ev_50 e] at kk
    simp only [] at kk
    rw [e] at kk
    rw [show W_up 4 2 = 1 by decide +kernel] at kk h
    obtain ⟨p, q, e1, e2, hn⟩ := add2_s h
    have go : ∀ H1, fr [5546, 8000] H H1 → TrM (upd tr r (nI 50)) (r + 1) H1 → pm_R (D + f + 1) M_Mo_fadesAs [.ref 55, .int (1 : Int32), .int x] H1 (pm_i fun y H2 => pm_R (D + f + 1) M_Mo_playsAs [.ref 55, .int (H2.1 55 46), .int (2 : Int32)] H2 (pm_i fun z H3 => K (y - z) H3)) := fun H1 f1 t1 => ih 1 2 _ p _ _ H1 _ (by decide) (by decide) e1 (by omega) ((f1.1 55 46 rfl).trans h46) ((f1.1 55 47 rfl).trans h47) t1 (fun H2 f2 t2 => by
      rw [show H2.1 55 46 = nI kd from (f2.1 55 46 rfl).trans ((f1.1 55 46 rfl).trans h46)]
      exact ih kd 0 _ q _ _ H2 _ hkd (by decide) e2 (by rw [ev_r hkd _ _ _ _ _ _ p (by decide) (by decide) e1]; omega) (((f1.tr f2).1 55 46 rfl).trans h46) (((f1.tr f2).1 55 47 rfl).trans h47) t2 (fun H3 f3 t3 => kk H3 (f1.tr (f2.tr f3)) t3))
    refine m_Mo_fadesAs _ _ ?_
    rw [ht.1]
    try rw [h46]
    try rw [h47]
    rw [nI_1 r, nIc (show r < 2 ^ 31 by omega)]
    have z1 : ¬ nI 4 = (1 : Int32) := by decide
    have z2 : ¬ nI 4 = (2 : Int32) := by decide
    have z3 : ¬ nI 4 = (3 : Int32) := by decide
    have z4 : nI 4 = (4 : Int32) := by decide
    have z5 : ¬ nI 4 = (5 : Int32) := by decide
    have z6 : ¬ nI 4 = (6 : Int32) := by decide
    have z7 : ¬ nI 4 = (7 : Int32) := by decide
    have e24 : ((24 : Int32) ≤ nI r) = (24 ≤ r) := i_le 24 r (by decide) (by omega)
    rw [e24]
    by_cases c24 : 24 ≤ r
    · repeat (first | with_reducible refine bt z1 ?_ | with_reducible refine bf z1 ?_ | with_reducible refine nt z1 ?_ | with_reducible refine nf z1 ?_ | with_reducible refine And.intro z1 ?_ | with_reducible refine bt z2 ?_ | with_reducible refine bf z2 ?_ | with_reducible refine nt z2 ?_ | with_reducible refine nf z2 ?_ | with_reducible refine And.intro z2 ?_ | with_reducible refine bt z3 ?_ | with_reducible refine bf z3 ?_ | with_reducible refine nt z3 ?_ | with_reducible refine nf z3 ?_ | with_reducible refine And.intro z3 ?_ | with_reducible refine bt z4 ?_ | with_reducible refine bf z4 ?_ | with_reducible refine nt z4 ?_ | with_reducible refine nf z4 ?_ | with_reducible refine And.intro z4 ?_ | with_reducible refine bt z5 ?_ | with_reducible refine bf z5 ?_ | with_reducible refine nt z5 ?_ | with_reducible refine nf z5 ?_ | with_reducible refine And.intro z5 ?_ | with_reducible refine bt z6 ?_ | with_reducible refine bf z6 ?_ | with_reducible refine nt z6 ?_ | with_reducible refine nf z6 ?_ | with_reducible refine And.intro z6 ?_ | with_reducible refine bt z7 ?_ | with_reducible refine bf z7 ?_ | with_reducible refine nt z7 ?_ | with_reducible refine nf z7 ?_ | with_reducible refine And.intro z7 ?_ | with_reducible refine bt c24 ?_ | with_reducible refine bf c24 ?_ | with_reducible refine nt c24 ?_ | with_reducible refine nf c24 ?_ | with_reducible refine And.intro c24 ?_)
      exact go _ (fr.rf.up (o := 55) rfl) (ht.s0 c24)
    · have w24 : vp_in (nI r) 24 := vp_in_nI (by omega) (by decide)
      repeat (first | with_reducible refine bt z1 ?_ | with_reducible refine bf z1 ?_ | with_reducible refine nt z1 ?_ | with_reducible refine nf z1 ?_ | with_reducible refine And.intro z1 ?_ | with_reducible refine bt z2 ?_ | with_reducible refine bf z2 ?_ | with_reducible refine nt z2 ?_ | with_reducible refine nf z2 ?_ | with_reducible refine And.intro z2 ?_ | with_reducible refine bt z3 ?_ | with_reducible refine bf z3 ?_ | with_reducible refine nt z3 ?_ | with_reducible refine nf z3 ?_ | with_reducible refine And.intro z3 ?_ | with_reducible refine bt z4 ?_ | with_reducible refine bf z4 ?_ | with_reducible refine nt z4 ?_ | with_reducible refine nf z4 ?_ | with_reducible refine And.intro z4 ?_ | with_reducible refine bt z5 ?_ | with_reducible refine bf z5 ?_ | with_reducible refine nt z5 ?_ | with_reducible refine nf z5 ?_ | with_reducible refine And.intro z5 ?_ | with_reducible refine bt z6 ?_ | with_reducible refine bf z6 ?_ | with_reducible refine nt z6 ?_ | with_reducible refine nf z6 ?_ | with_reducible refine And.intro z6 ?_ | with_reducible refine bt z7 ?_ | with_reducible refine bf z7 ?_ | with_reducible refine nt z7 ?_ | with_reducible refine nf z7 ?_ | with_reducible refine And.intro z7 ?_ | with_reducible refine bt c24 ?_ | with_reducible refine bf c24 ?_ | with_reducible refine nt c24 ?_ | with_reducible refine nf c24 ?_ | with_reducible refine And.intro c24 ?_ | with_reducible refine bt w24 ?_ | with_reducible refine bf w24 ?_ | with_reducible refine nt w24 ?_ | with_reducible refine nf w24 ?_ | with_reducible refine And.intro w24 ?_)
      exact go _ ((fr.rf.up (o := 80) rfl).up (o := 55) rfl) ht.s
theorem as_2_5 {D kd ix f : Nat} (hkd : kd ≤ 7) (ih : ∀ (k a : Nat) (x : Int32) (n : Nat) (tr : Nat → Int32) (r : Nat) (H : pmT) (K : Int32 → pmT → Prop), k ≤ 7 → a ≤ 3 → cn kd f k a = some n → r + n < 1000 → H.1 55 46 = nI kd → H.1 55 47 = nI ix → TrM tr r H → (∀ H', fr [5546, 8000] H H' → TrM (ev kd (nI ix) f k a x tr r).1 (ev kd (nI ix) f k a x tr r).2.1 H' → K (ev kd (nI ix) f k a x tr r).2.2 H') → pm_R (D + f + 1) (M_as a) [.ref 55, .int (nI k), .int x] H (pm_i K)) (x : Int32) (n : Nat) (tr : Nat → Int32) (r : Nat) (H : pmT) (K : Int32 → pmT → Prop) (h : cn kd (f + 1) 5 2 = some n) (hr : r + n < 1000) (h46 : H.1 55 46 = nI kd) (h47 : H.1 55 47 = nI ix) (ht : TrM tr r H) (kk : ∀ H', fr [5546, 8000] H H' → TrM (ev kd (nI ix) (f + 1) 5 2 x tr r).1 (ev kd (nI ix) (f + 1) 5 2 x tr r).2.1 H' → K (ev kd (nI ix) (f + 1) 5 2 x tr r).2.2 H') : pm_R (D + (f + 1) + 1) M_Mo_fadesAs [.ref 55, .int (nI 5), .int x] H (pm_i K) := by
    have e : W_cd 5 2 = 40 := by decide +kernel
    rw [cn_40 e] at h
    rw [ev_40 e] at kk
    simp only [] at kk
    rw [e] at kk
    rw [show W_up 5 2 = 2 by decide +kernel] at kk h
    obtain ⟨p, e1, hn⟩ := add1_s h
    have go : ∀ H1, fr [5546, 8000] H H1 → TrM (upd tr r (nI 40)) (r + 1) H1 → pm_R (D + f + 1) M_Mo_fadesAs [.ref 55, .int (2 : Int32), .int x] H1 (pm_i fun y H2 => K (y * (3 : Int32)) H2) := fun H1 f1 t1 => ih 2 2 _ p _ _ H1 _ (by decide) (by decide) e1 (by omega) ((f1.1 55 46 rfl).trans h46) ((f1.1 55 47 rfl).trans h47) t1 (fun H2 f2 t2 => kk H2 (f1.tr f2) t2)
    refine m_Mo_fadesAs _ _ ?_
    rw [ht.1]
    try rw [h46]
    try rw [h47]
    rw [nI_1 r, nIc (show r < 2 ^ 31 by omega)]
    have z1 : ¬ nI 5 = (1 : Int32) := by decide
    have z2 : ¬ nI 5 = (2 : Int32) := by decide
    have z3 : ¬ nI 5 = (3 : Int32) := by decide
    have z4 : ¬ nI 5 = (4 : Int32) := by decide
    have z5 : nI 5 = (5 : Int32) := by decide
    have z6 : ¬ nI 5 = (6 : Int32) := by decide
    have z7 : ¬ nI 5 = (7 : Int32) := by decide
    have e24 : ((24 : Int32) ≤ nI r) = (24 ≤ r) := i_le 24 r (by decide) (by omega)
    rw [e24]
    by_cases c24 : 24 ≤ r
    · repeat (first | with_reducible refine bt z1 ?_ | with_reducible refine bf z1 ?_ | with_reducible refine nt z1 ?_ | with_reducible refine nf z1 ?_ | with_reducible refine And.intro z1 ?_ | with_reducible refine bt z2 ?_ | with_reducible refine bf z2 ?_ | with_reducible refine nt z2 ?_ | with_reducible refine nf z2 ?_ | with_reducible refine And.intro z2 ?_ | with_reducible refine bt z3 ?_ | with_reducible refine bf z3 ?_ | with_reducible refine nt z3 ?_ | with_reducible refine nf z3 ?_ | with_reducible refine And.intro z3 ?_ | with_reducible refine bt z4 ?_ | with_reducible refine bf z4 ?_ | with_reducible refine nt z4 ?_ | with_reducible refine nf z4 ?_ | with_reducible refine And.intro z4 ?_ | with_reducible refine bt z5 ?_ | with_reducible refine bf z5 ?_ | with_reducible refine nt z5 ?_ | with_reducible refine nf z5 ?_ | with_reducible refine And.intro z5 ?_ | with_reducible refine bt z6 ?_ | with_reducible refine bf z6 ?_ | with_reducible refine nt z6 ?_ | with_reducible refine nf z6 ?_ | with_reducible refine And.intro z6 ?_ | with_reducible refine bt z7 ?_ | with_reducible refine bf z7 ?_ | with_reducible refine nt z7 ?_ | with_reducible refine nf z7 ?_ | with_reducible refine And.intro z7 ?_ | with_reducible refine bt c24 ?_ | with_reducible refine bf c24 ?_ | with_reducible refine nt c24 ?_ | with_reducible refine nf c24 ?_ | with_reducible refine And.intro c24 ?_)
      exact go _ (fr.rf.up (o := 55) rfl) (ht.s0 c24)
    · have w24 : vp_in (nI r) 24 := vp_in_nI (by omega) (by decide)
      repeat (first | with_reducible refine bt z1 ?_ | with_reducible refine bf z1 ?_ | with_reducible refine nt z1 ?_ | with_reducible refine nf z1 ?_ | with_reducible refine And.intro z1 ?_ | with_reducible refine bt z2 ?_ | with_reducible refine bf z2 ?_ | with_reducible refine nt z2 ?_ | with_reducible refine nf z2 ?_ | with_reducible refine And.intro z2 ?_ | with_reducible refine bt z3 ?_ | with_reducible refine bf z3 ?_ | with_reducible refine nt z3 ?_ | with_reducible refine nf z3 ?_ | with_reducible refine And.intro z3 ?_ | with_reducible refine bt z4 ?_ | with_reducible refine bf z4 ?_ | with_reducible refine nt z4 ?_ | with_reducible refine nf z4 ?_ | with_reducible refine And.intro z4 ?_ | with_reducible refine bt z5 ?_ | with_reducible refine bf z5 ?_ | with_reducible refine nt z5 ?_ | with_reducible refine nf z5 ?_ | with_reducible refine And.intro z5 ?_ | with_reducible refine bt z6 ?_ | with_reducible refine bf z6 ?_ | with_reducible refine nt z6 ?_ | with_reducible refine nf z6 ?_ | with_reducible refine And.intro z6 ?_ | with_reducible refine bt z7 ?_ | with_reducible refine bf z7 ?_ | with_reducible refine nt z7 ?_ | with_reducible refine nf z7 ?_ | with_reducible refine And.intro z7 ?_ | with_reducible refine bt c24 ?_ | with_reducible refine bf c24 ?_ | with_reducible refine nt c24 ?_ | with_reducible refine nf c24 ?_ | with_reducible refine And.intro c24 ?_ | with_reducible refine bt w24 ?_ | with_reducible refine bf w24 ?_ | with_reducible refine nt w24 ?_ | with_reducible refine nf w24 ?_ | with_reducible refine And.intro w24 ?_)
      exact go _ ((fr.rf.up (o := 80) rfl).up (o := 55) rfl) ht.s
theorem as_2_6 {D kd ix f : Nat} (hkd : kd ≤ 7) (ih : ∀ (k a : Nat) (x : Int32) (n : Nat) (tr : Nat → Int32) (r : Nat) (H : pmT) (K : Int32 → pmT → Prop), k ≤ 7 → a ≤ 3 → cn kd f k a = some n → r + n < 1000 → H.1 55 46 = nI kd → H.1 55 47 = nI ix → TrM tr r H → (∀ H', fr [5546, 8000] H H' → TrM (ev kd (nI ix) f k a x tr r).1 (ev kd (nI ix) f k a x tr r).2.1 H' → K (ev kd (nI ix) f k a x tr r).2.2 H') → pm_R (D + f + 1) (M_as a) [.ref 55, .int (nI k), .int x] H (pm_i K)) (x : Int32) (n : Nat) (tr : Nat → Int32) (r : Nat) (H : pmT) (K : Int32 → pmT → Prop) (h : cn kd (f + 1) 6 2 = some n) (hr : r + n < 1000) (h46 : H.1 55 46 = nI kd) (h47 : H.1 55 47 = nI ix) (ht : TrM tr r H) (kk : ∀ H', fr [5546, 8000] H H' → TrM (ev kd (nI ix) (f + 1) 6 2 x tr r).1 (ev kd (nI ix) (f + 1) 6 2 x tr r).2.1 H' → K (ev kd (nI ix) (f + 1) 6 2 x tr r).2.2 H') : pm_R (D + (f + 1) + 1) M_Mo_fadesAs [.ref 55, .int (nI 6), .int x] H (pm_i K) := by
    have e : W_cd 6 2 = 11 := by decide +kernel
    rw [cn_11 e] at h
    rw [ev_11 e] at kk
    simp only [] at kk
    rw [e] at kk
    have hn := Option.some.inj h
    have go : ∀ H1, fr [5546, 8000] H H1 → TrM (upd tr r (nI 11)) (r + 1) H1 → K (x ^^^ nI ix) H1 := fun H1 f1 t1 => kk H1 f1 t1
    refine m_Mo_fadesAs _ _ ?_
    rw [ht.1]
    try rw [h46]
    try rw [h47]
    rw [nI_1 r, nIc (show r < 2 ^ 31 by omega)]
    have z1 : ¬ nI 6 = (1 : Int32) := by decide
    have z2 : ¬ nI 6 = (2 : Int32) := by decide
    have z3 : ¬ nI 6 = (3 : Int32) := by decide
    have z4 : ¬ nI 6 = (4 : Int32) := by decide
    have z5 : ¬ nI 6 = (5 : Int32) := by decide
    have z6 : nI 6 = (6 : Int32) := by decide
    have z7 : ¬ nI 6 = (7 : Int32) := by decide
    have e24 : ((24 : Int32) ≤ nI r) = (24 ≤ r) := i_le 24 r (by decide) (by omega)
    rw [e24]
    by_cases c24 : 24 ≤ r
    · repeat (first | with_reducible refine bt z1 ?_ | with_reducible refine bf z1 ?_ | with_reducible refine nt z1 ?_ | with_reducible refine nf z1 ?_ | with_reducible refine And.intro z1 ?_ | with_reducible refine bt z2 ?_ | with_reducible refine bf z2 ?_ | with_reducible refine nt z2 ?_ | with_reducible refine nf z2 ?_ | with_reducible refine And.intro z2 ?_ | with_reducible refine bt z3 ?_ | with_reducible refine bf z3 ?_ | with_reducible refine nt z3 ?_ | with_reducible refine nf z3 ?_ | with_reducible refine And.intro z3 ?_ | with_reducible refine bt z4 ?_ | with_reducible refine bf z4 ?_ | with_reducible refine nt z4 ?_ | with_reducible refine nf z4 ?_ | with_reducible refine And.intro z4 ?_ | with_reducible refine bt z5 ?_ | with_reducible refine bf z5 ?_ | with_reducible refine nt z5 ?_ | with_reducible refine nf z5 ?_ | with_reducible refine And.intro z5 ?_ | with_reducible refine bt z6 ?_ | with_reducible refine bf z6 ?_ | with_reducible refine nt z6 ?_ | with_reducible refine nf z6 ?_ | with_reducible refine And.intro z6 ?_ | with_reducible refine bt z7 ?_ | with_reducible refine bf z7 ?_ | with_reducible refine nt z7 ?_ | with_reducible refine nf z7 ?_ | with_reducible refine And.intro z7 ?_ | with_reducible refine bt c24 ?_ | with_reducible refine bf c24 ?_ | with_reducible refine nt c24 ?_ | with_reducible refine nf c24 ?_ | with_reducible refine And.intro c24 ?_)
      exact go _ (fr.rf.up (o := 55) rfl) (ht.s0 c24)
    · have w24 : vp_in (nI r) 24 := vp_in_nI (by omega) (by decide)
      repeat (first | with_reducible refine bt z1 ?_ | with_reducible refine bf z1 ?_ | with_reducible refine nt z1 ?_ | with_reducible refine nf z1 ?_ | with_reducible refine And.intro z1 ?_ | with_reducible refine bt z2 ?_ | with_reducible refine bf z2 ?_ | with_reducible refine nt z2 ?_ | with_reducible refine nf z2 ?_ | with_reducible refine And.intro z2 ?_ | with_reducible refine bt z3 ?_ | with_reducible refine bf z3 ?_ | with_reducible refine nt z3 ?_ | with_reducible refine nf z3 ?_ | with_reducible refine And.intro z3 ?_ | with_reducible refine bt z4 ?_ | with_reducible refine bf z4 ?_ | with_reducible refine nt z4 ?_ | with_reducible refine nf z4 ?_ | with_reducible refine And.intro z4 ?_ | with_reducible refine bt z5 ?_ | with_reducible refine bf z5 ?_ | with_reducible refine nt z5 ?_ | with_reducible refine nf z5 ?_ | with_reducible refine And.intro z5 ?_ | with_reducible refine bt z6 ?_ | with_reducible refine bf z6 ?_ | with_reducible refine nt z6 ?_ | with_reducible refine nf z6 ?_ | with_reducible refine And.intro z6 ?_ | with_reducible refine bt z7 ?_ | with_reducible refine bf z7 ?_ | with_reducible refine nt z7 ?_ | with_reducible refine nf z7 ?_ | with_reducible refine And.intro z7 ?_ | with_reducible refine bt c24 ?_ | with_reducible refine bf c24 ?_ | with_reducible refine nt c24 ?_ | with_reducible refine nf c24 ?_ | with_reducible refine And.intro c24 ?_ | with_reducible refine bt w24 ?_ | with_reducible refine bf w24 ?_ | with_reducible refine nt w24 ?_ | with_reducible refine nf w24 ?_ | with_reducible refine And.intro w24 ?_)
      exact go _ ((fr.rf.up (o := 80) rfl).up (o := 55) rfl) ht.s
theorem as_2_7 {D kd ix f : Nat} (hkd : kd ≤ 7) (ih : ∀ (k a : Nat) (x : Int32) (n : Nat) (tr : Nat → Int32) (r : Nat) (H : pmT) (K : Int32 → pmT → Prop), k ≤ 7 → a ≤ 3 → cn kd f k a = some n → r + n < 1000 → H.1 55 46 = nI kd → H.1 55 47 = nI ix → TrM tr r H → (∀ H', fr [5546, 8000] H H' → TrM (ev kd (nI ix) f k a x tr r).1 (ev kd (nI ix) f k a x tr r).2.1 H' → K (ev kd (nI ix) f k a x tr r).2.2 H') → pm_R (D + f + 1) (M_as a) [.ref 55, .int (nI k), .int x] H (pm_i K)) (x : Int32) (n : Nat) (tr : Nat → Int32) (r : Nat) (H : pmT) (K : Int32 → pmT → Prop) (h : cn kd (f + 1) 7 2 = some n) (hr : r + n < 1000) (h46 : H.1 55 46 = nI kd) (h47 : H.1 55 47 = nI ix) (ht : TrM tr r H) (kk : ∀ H', fr [5546, 8000] H H' → TrM (ev kd (nI ix) (f + 1) 7 2 x tr r).1 (ev kd (nI ix) (f + 1) 7 2 x tr r).2.1 H' → K (ev kd (nI ix) (f + 1) 7 2 x tr r).2.2 H') : pm_R (D + (f + 1) + 1) M_Mo_fadesAs [.ref 55, .int (nI 7), .int x] H (pm_i K) := by
    have e : W_cd 7 2 = 50 := by decide +kernel
    rw [cn_50 e] at h
    rw [ev_50 e] at kk
    simp only [] at kk
    rw [e] at kk
    rw [show W_up 7 2 = 1 by decide +kernel] at kk h
    obtain ⟨p, q, e1, e2, hn⟩ := add2_s h
    have go : ∀ H1, fr [5546, 8000] H H1 → TrM (upd tr r (nI 50)) (r + 1) H1 → pm_R (D + f + 1) M_Mo_fadesAs [.ref 55, .int (1 : Int32), .int x] H1 (pm_i fun y H2 => pm_R (D + f + 1) M_Mo_playsAs [.ref 55, .int (H2.1 55 46), .int (2 : Int32)] H2 (pm_i fun z H3 => K (y - z) H3)) := fun H1 f1 t1 => ih 1 2 _ p _ _ H1 _ (by decide) (by decide) e1 (by omega) ((f1.1 55 46 rfl).trans h46) ((f1.1 55 47 rfl).trans h47) t1 (fun H2 f2 t2 => by
      rw [show H2.1 55 46 = nI kd from (f2.1 55 46 rfl).trans ((f1.1 55 46 rfl).trans h46)]
      exact ih kd 0 _ q _ _ H2 _ hkd (by decide) e2 (by rw [ev_r hkd _ _ _ _ _ _ p (by decide) (by decide) e1]; omega) (((f1.tr f2).1 55 46 rfl).trans h46) (((f1.tr f2).1 55 47 rfl).trans h47) t2 (fun H3 f3 t3 => kk H3 (f1.tr (f2.tr f3)) t3))
    refine m_Mo_fadesAs _ _ ?_
    rw [ht.1]
    try rw [h46]
    try rw [h47]
    rw [nI_1 r, nIc (show r < 2 ^ 31 by omega)]
    have z1 : ¬ nI 7 = (1 : Int32) := by decide
    have z2 : ¬ nI 7 = (2 : Int32) := by decide
    have z3 : ¬ nI 7 = (3 : Int32) := by decide
    have z4 : ¬ nI 7 = (4 : Int32) := by decide
    have z5 : ¬ nI 7 = (5 : Int32) := by decide
    have z6 : ¬ nI 7 = (6 : Int32) := by decide
    have z7 : nI 7 = (7 : Int32) := by decide
    have e24 : ((24 : Int32) ≤ nI r) = (24 ≤ r) := i_le 24 r (by decide) (by omega)
    rw [e24]
    by_cases c24 : 24 ≤ r
    · repeat (first | with_reducible refine bt z1 ?_ | with_reducible refine bf z1 ?_ | with_reducible refine nt z1 ?_ | with_reducible refine nf z1 ?_ | with_reducible refine And.intro z1 ?_ | with_reducible refine bt z2 ?_ | with_reducible refine bf z2 ?_ | with_reducible refine nt z2 ?_ | with_reducible refine nf z2 ?_ | with_reducible refine And.intro z2 ?_ | with_reducible refine bt z3 ?_ | with_reducible refine bf z3 ?_ | with_reducible refine nt z3 ?_ | with_reducible refine nf z3 ?_ | with_reducible refine And.intro z3 ?_ | with_reducible refine bt z4 ?_ | with_reducible refine bf z4 ?_ | with_reducible refine nt z4 ?_ | with_reducible refine nf z4 ?_ | with_reducible refine And.intro z4 ?_ | with_reducible refine bt z5 ?_ | with_reducible refine bf z5 ?_ | with_reducible refine nt z5 ?_ | with_reducible refine nf z5 ?_ | with_reducible refine And.intro z5 ?_ | with_reducible refine bt z6 ?_ | with_reducible refine bf z6 ?_ | with_reducible refine nt z6 ?_ | with_reducible refine nf z6 ?_ | with_reducible refine And.intro z6 ?_ | with_reducible refine bt z7 ?_ | with_reducible refine bf z7 ?_ | with_reducible refine nt z7 ?_ | with_reducible refine nf z7 ?_ | with_reducible refine And.intro z7 ?_ | with_reducible refine bt c24 ?_ | with_reducible refine bf c24 ?_ | with_reducible refine nt c24 ?_ | with_reducible refine nf c24 ?_ | with_reducible refine And.intro c24 ?_)
      exact go _ (fr.rf.up (o := 55) rfl) (ht.s0 c24)
    · have w24 : vp_in (nI r) 24 := vp_in_nI (by omega) (by decide)
      repeat (first | with_reducible refine bt z1 ?_ | with_reducible refine bf z1 ?_ | with_reducible refine nt z1 ?_ | with_reducible refine nf z1 ?_ | with_reducible refine And.intro z1 ?_ | with_reducible refine bt z2 ?_ | with_reducible refine bf z2 ?_ | with_reducible refine nt z2 ?_ | with_reducible refine nf z2 ?_ | with_reducible refine And.intro z2 ?_ | with_reducible refine bt z3 ?_ | with_reducible refine bf z3 ?_ | with_reducible refine nt z3 ?_ | with_reducible refine nf z3 ?_ | with_reducible refine And.intro z3 ?_ | with_reducible refine bt z4 ?_ | with_reducible refine bf z4 ?_ | with_reducible refine nt z4 ?_ | with_reducible refine nf z4 ?_ | with_reducible refine And.intro z4 ?_ | with_reducible refine bt z5 ?_ | with_reducible refine bf z5 ?_ | with_reducible refine nt z5 ?_ | with_reducible refine nf z5 ?_ | with_reducible refine And.intro z5 ?_ | with_reducible refine bt z6 ?_ | with_reducible refine bf z6 ?_ | with_reducible refine nt z6 ?_ | with_reducible refine nf z6 ?_ | with_reducible refine And.intro z6 ?_ | with_reducible refine bt z7 ?_ | with_reducible refine bf z7 ?_ | with_reducible refine nt z7 ?_ | with_reducible refine nf z7 ?_ | with_reducible refine And.intro z7 ?_ | with_reducible refine bt c24 ?_ | with_reducible refine bf c24 ?_ | with_reducible refine nt c24 ?_ | with_reducible refine nf c24 ?_ | with_reducible refine And.intro c24 ?_ | with_reducible refine bt w24 ?_ | with_reducible refine bf w24 ?_ | with_reducible refine nt w24 ?_ | with_reducible refine nf w24 ?_ | with_reducible refine And.intro w24 ?_)
      exact go _ ((fr.rf.up (o := 80) rfl).up (o := 55) rfl) ht.s
theorem as_3_0 {D kd ix f : Nat} (hkd : kd ≤ 7) (ih : ∀ (k a : Nat) (x : Int32) (n : Nat) (tr : Nat → Int32) (r : Nat) (H : pmT) (K : Int32 → pmT → Prop), k ≤ 7 → a ≤ 3 → cn kd f k a = some n → r + n < 1000 → H.1 55 46 = nI kd → H.1 55 47 = nI ix → TrM tr r H → (∀ H', fr [5546, 8000] H H' → TrM (ev kd (nI ix) f k a x tr r).1 (ev kd (nI ix) f k a x tr r).2.1 H' → K (ev kd (nI ix) f k a x tr r).2.2 H') → pm_R (D + f + 1) (M_as a) [.ref 55, .int (nI k), .int x] H (pm_i K)) (x : Int32) (n : Nat) (tr : Nat → Int32) (r : Nat) (H : pmT) (K : Int32 → pmT → Prop) (h : cn kd (f + 1) 0 3 = some n) (hr : r + n < 1000) (h46 : H.1 55 46 = nI kd) (h47 : H.1 55 47 = nI ix) (ht : TrM tr r H) (kk : ∀ H', fr [5546, 8000] H H' → TrM (ev kd (nI ix) (f + 1) 0 3 x tr r).1 (ev kd (nI ix) (f + 1) 0 3 x tr r).2.1 H' → K (ev kd (nI ix) (f + 1) 0 3 x tr r).2.2 H') : pm_R (D + (f + 1) + 1) M_Mo_tellsAs [.ref 55, .int (nI 0), .int x] H (pm_i K) := by
    have e : W_cd 0 3 = 2 := by decide +kernel
    rw [cn_2 e] at h
    rw [ev_2 e] at kk
    simp only [] at kk
    rw [e] at kk
    obtain ⟨p, q, e1, e2, hn⟩ := add2_s h
    have go : ∀ H1, fr [5546, 8000] H H1 → TrM (upd tr r (nI 2)) (r + 1) H1 → pm_R (D + f + 1) M_Mo_addsAs [.ref 55, .int (nI kd), .int x] H1 (pm_i fun y H2 => pm_R (D + f + 1) M_Mo_fadesAs [.ref 55, .int (H2.1 55 46), .int (1 : Int32)] H2 (pm_i fun z H3 => K (y - z) H3)) := fun H1 f1 t1 => ih kd 1 _ p _ _ H1 _ hkd (by decide) e1 (by omega) ((f1.1 55 46 rfl).trans h46) ((f1.1 55 47 rfl).trans h47) t1 (fun H2 f2 t2 => by
      rw [show H2.1 55 46 = nI kd from (f2.1 55 46 rfl).trans ((f1.1 55 46 rfl).trans h46)]
      exact ih kd 2 _ q _ _ H2 _ hkd (by decide) e2 (by rw [ev_r hkd _ _ _ _ _ _ p hkd (by decide) e1]; omega) (((f1.tr f2).1 55 46 rfl).trans h46) (((f1.tr f2).1 55 47 rfl).trans h47) t2 (fun H3 f3 t3 => kk H3 (f1.tr (f2.tr f3)) t3))
    refine m_Mo_tellsAs _ _ ?_
    rw [ht.1]
    try rw [h46]
    try rw [h47]
    rw [nI_1 r, nIc (show r < 2 ^ 31 by omega)]
    have z1 : ¬ nI 0 = (1 : Int32) := by decide
    have z2 : ¬ nI 0 = (2 : Int32) := by decide
    have z3 : ¬ nI 0 = (3 : Int32) := by decide
    have z4 : ¬ nI 0 = (4 : Int32) := by decide
    have z5 : ¬ nI 0 = (5 : Int32) := by decide
    have z6 : ¬ nI 0 = (6 : Int32) := by decide
    have z7 : ¬ nI 0 = (7 : Int32) := by decide
    have e24 : ((24 : Int32) ≤ nI r) = (24 ≤ r) := i_le 24 r (by decide) (by omega)
    rw [e24]
    by_cases c24 : 24 ≤ r
    · repeat (first | with_reducible refine bt z1 ?_ | with_reducible refine bf z1 ?_ | with_reducible refine nt z1 ?_ | with_reducible refine nf z1 ?_ | with_reducible refine And.intro z1 ?_ | with_reducible refine bt z2 ?_ | with_reducible refine bf z2 ?_ | with_reducible refine nt z2 ?_ | with_reducible refine nf z2 ?_ | with_reducible refine And.intro z2 ?_ | with_reducible refine bt z3 ?_ | with_reducible refine bf z3 ?_ | with_reducible refine nt z3 ?_ | with_reducible refine nf z3 ?_ | with_reducible refine And.intro z3 ?_ | with_reducible refine bt z4 ?_ | with_reducible refine bf z4 ?_ | with_reducible refine nt z4 ?_ | with_reducible refine nf z4 ?_ | with_reducible refine And.intro z4 ?_ | with_reducible refine bt z5 ?_ | with_reducible refine bf z5 ?_ | with_reducible refine nt z5 ?_ | with_reducible refine nf z5 ?_ | with_reducible refine And.intro z5 ?_ | with_reducible refine bt z6 ?_ | with_reducible refine bf z6 ?_ | with_reducible refine nt z6 ?_ | with_reducible refine nf z6 ?_ | with_reducible refine And.intro z6 ?_ | with_reducible refine bt z7 ?_ | with_reducible refine bf z7 ?_ | with_reducible refine nt z7 ?_ | with_reducible refine nf z7 ?_ | with_reducible refine And.intro z7 ?_ | with_reducible refine bt c24 ?_ | with_reducible refine bf c24 ?_ | with_reducible refine nt c24 ?_ | with_reducible refine nf c24 ?_ | with_reducible refine And.intro c24 ?_)
      exact go _ (fr.rf.up (o := 55) rfl) (ht.s0 c24)
    · have w24 : vp_in (nI r) 24 := vp_in_nI (by omega) (by decide)
      repeat (first | with_reducible refine bt z1 ?_ | with_reducible refine bf z1 ?_ | with_reducible refine nt z1 ?_ | with_reducible refine nf z1 ?_ | with_reducible refine And.intro z1 ?_ | with_reducible refine bt z2 ?_ | with_reducible refine bf z2 ?_ | with_reducible refine nt z2 ?_ | with_reducible refine nf z2 ?_ | with_reducible refine And.intro z2 ?_ | with_reducible refine bt z3 ?_ | with_reducible refine bf z3 ?_ | with_reducible refine nt z3 ?_ | with_reducible refine nf z3 ?_ | with_reducible refine And.intro z3 ?_ | with_reducible refine bt z4 ?_ | with_reducible refine bf z4 ?_ | with_reducible refine nt z4 ?_ | with_reducible refine nf z4 ?_ | with_reducible refine And.intro z4 ?_ | with_reducible refine bt z5 ?_ | with_reducible refine bf z5 ?_ | with_reducible refine nt z5 ?_ | with_reducible refine nf z5 ?_ | with_reducible refine And.intro z5 ?_ | with_reducible refine bt z6 ?_ | with_reducible refine bf z6 ?_ | with_reducible refine nt z6 ?_ | with_reducible refine nf z6 ?_ | with_reducible refine And.intro z6 ?_ | with_reducible refine bt z7 ?_ | with_reducible refine bf z7 ?_ | with_reducible refine nt z7 ?_ | with_reducible refine nf z7 ?_ | with_reducible refine And.intro z7 ?_ | with_reducible refine bt c24 ?_ | with_reducible refine bf c24 ?_ | with_reducible refine nt c24 ?_ | with_reducible refine nf c24 ?_ | with_reducible refine And.intro c24 ?_ | with_reducible refine bt w24 ?_ | with_reducible refine bf w24 ?_ | with_reducible refine nt w24 ?_ | with_reducible refine nf w24 ?_ | with_reducible refine And.intro w24 ?_)
      exact go _ ((fr.rf.up (o := 80) rfl).up (o := 55) rfl) ht.s
theorem as_3_1 {D kd ix f : Nat} (hkd : kd ≤ 7) (ih : ∀ (k a : Nat) (x : Int32) (n : Nat) (tr : Nat → Int32) (r : Nat) (H : pmT) (K : Int32 → pmT → Prop), k ≤ 7 → a ≤ 3 → cn kd f k a = some n → r + n < 1000 → H.1 55 46 = nI kd → H.1 55 47 = nI ix → TrM tr r H → (∀ H', fr [5546, 8000] H H' → TrM (ev kd (nI ix) f k a x tr r).1 (ev kd (nI ix) f k a x tr r).2.1 H' → K (ev kd (nI ix) f k a x tr r).2.2 H') → pm_R (D + f + 1) (M_as a) [.ref 55, .int (nI k), .int x] H (pm_i K)) (x : Int32) (n : Nat) (tr : Nat → Int32) (r : Nat) (H : pmT) (K : Int32 → pmT → Prop) (h : cn kd (f + 1) 1 3 = some n) (hr : r + n < 1000) (h46 : H.1 55 46 = nI kd) (h47 : H.1 55 47 = nI ix) (ht : TrM tr r H) (kk : ∀ H', fr [5546, 8000] H H' → TrM (ev kd (nI ix) (f + 1) 1 3 x tr r).1 (ev kd (nI ix) (f + 1) 1 3 x tr r).2.1 H' → K (ev kd (nI ix) (f + 1) 1 3 x tr r).2.2 H') : pm_R (D + (f + 1) + 1) M_Mo_tellsAs [.ref 55, .int (nI 1), .int x] H (pm_i K) := by
    have e : W_cd 1 3 = 2 := by decide +kernel
    rw [cn_2 e] at h
    rw [ev_2 e] at kk
    simp only [] at kk
    rw [e] at kk
    obtain ⟨p, q, e1, e2, hn⟩ := add2_s h
    have go : ∀ H1, fr [5546, 8000] H H1 → TrM (upd tr r (nI 2)) (r + 1) H1 → pm_R (D + f + 1) M_Mo_addsAs [.ref 55, .int (nI kd), .int x] H1 (pm_i fun y H2 => pm_R (D + f + 1) M_Mo_fadesAs [.ref 55, .int (H2.1 55 46), .int (1 : Int32)] H2 (pm_i fun z H3 => K (y - z) H3)) := fun H1 f1 t1 => ih kd 1 _ p _ _ H1 _ hkd (by decide) e1 (by omega) ((f1.1 55 46 rfl).trans h46) ((f1.1 55 47 rfl).trans h47) t1 (fun H2 f2 t2 => by
      rw [show H2.1 55 46 = nI kd from (f2.1 55 46 rfl).trans ((f1.1 55 46 rfl).trans h46)]
      exact ih kd 2 _ q _ _ H2 _ hkd (by decide) e2 (by rw [ev_r hkd _ _ _ _ _ _ p hkd (by decide) e1]; omega) (((f1.tr f2).1 55 46 rfl).trans h46) (((f1.tr f2).1 55 47 rfl).trans h47) t2 (fun H3 f3 t3 => kk H3 (f1.tr (f2.tr f3)) t3))
    refine m_Mo_tellsAs _ _ ?_
    rw [ht.1]
    try rw [h46]
    try rw [h47]
    rw [nI_1 r, nIc (show r < 2 ^ 31 by omega)]
    have z1 : nI 1 = (1 : Int32) := by decide
    have z2 : ¬ nI 1 = (2 : Int32) := by decide
    have z3 : ¬ nI 1 = (3 : Int32) := by decide
    have z4 : ¬ nI 1 = (4 : Int32) := by decide
    have z5 : ¬ nI 1 = (5 : Int32) := by decide
    have z6 : ¬ nI 1 = (6 : Int32) := by decide
    have z7 : ¬ nI 1 = (7 : Int32) := by decide
    have e24 : ((24 : Int32) ≤ nI r) = (24 ≤ r) := i_le 24 r (by decide) (by omega)
    rw [e24]
    by_cases c24 : 24 ≤ r
    · repeat (first | with_reducible refine bt z1 ?_ | with_reducible refine bf z1 ?_ | with_reducible refine nt z1 ?_ | with_reducible refine nf z1 ?_ | with_reducible refine And.intro z1 ?_ | with_reducible refine bt z2 ?_ | with_reducible refine bf z2 ?_ | with_reducible refine nt z2 ?_ | with_reducible refine nf z2 ?_ | with_reducible refine And.intro z2 ?_ | with_reducible refine bt z3 ?_ | with_reducible refine bf z3 ?_ | with_reducible refine nt z3 ?_ | with_reducible refine nf z3 ?_ | with_reducible refine And.intro z3 ?_ | with_reducible refine bt z4 ?_ | with_reducible refine bf z4 ?_ | with_reducible refine nt z4 ?_ | with_reducible refine nf z4 ?_ | with_reducible refine And.intro z4 ?_ | with_reducible refine bt z5 ?_ | with_reducible refine bf z5 ?_ | with_reducible refine nt z5 ?_ | with_reducible refine nf z5 ?_ | with_reducible refine And.intro z5 ?_ | with_reducible refine bt z6 ?_ | with_reducible refine bf z6 ?_ | with_reducible refine nt z6 ?_ | with_reducible refine nf z6 ?_ | with_reducible refine And.intro z6 ?_ | with_reducible refine bt z7 ?_ | with_reducible refine bf z7 ?_ | with_reducible refine nt z7 ?_ | with_reducible refine nf z7 ?_ | with_reducible refine And.intro z7 ?_ | with_reducible refine bt c24 ?_ | with_reducible refine bf c24 ?_ | with_reducible refine nt c24 ?_ | with_reducible refine nf c24 ?_ | with_reducible refine And.intro c24 ?_)
      exact go _ (fr.rf.up (o := 55) rfl) (ht.s0 c24)
    · have w24 : vp_in (nI r) 24 := vp_in_nI (by omega) (by decide)
      repeat (first | with_reducible refine bt z1 ?_ | with_reducible refine bf z1 ?_ | with_reducible refine nt z1 ?_ | with_reducible refine nf z1 ?_ | with_reducible refine And.intro z1 ?_ | with_reducible refine bt z2 ?_ | with_reducible refine bf z2 ?_ | with_reducible refine nt z2 ?_ | with_reducible refine nf z2 ?_ | with_reducible refine And.intro z2 ?_ | with_reducible refine bt z3 ?_ | with_reducible refine bf z3 ?_ | with_reducible refine nt z3 ?_ | with_reducible refine nf z3 ?_ | with_reducible refine And.intro z3 ?_ | with_reducible refine bt z4 ?_ | with_reducible refine bf z4 ?_ | with_reducible refine nt z4 ?_ | with_reducible refine nf z4 ?_ | with_reducible refine And.intro z4 ?_ | with_reducible refine bt z5 ?_ | with_reducible refine bf z5 ?_ | with_reducible refine nt z5 ?_ | with_reducible refine nf z5 ?_ | with_reducible refine And.intro z5 ?_ | with_reducible refine bt z6 ?_ | with_reducible refine bf z6 ?_ | with_reducible refine nt z6 ?_ | with_reducible refine nf z6 ?_ | with_reducible refine And.intro z6 ?_ | with_reducible refine bt z7 ?_ | with_reducible refine bf z7 ?_ | with_reducible refine nt z7 ?_ | with_reducible refine nf z7 ?_ | with_reducible refine And.intro z7 ?_ | with_reducible refine bt c24 ?_ | with_reducible refine bf c24 ?_ | with_reducible refine nt c24 ?_ | with_reducible refine nf c24 ?_ | with_reducible refine And.intro c24 ?_ | with_reducible refine bt w24 ?_ | with_reducible refine bf w24 ?_ | with_reducible refine nt w24 ?_ | with_reducible refine nf w24 ?_ | with_reducible refine And.intro w24 ?_)
      exact go _ ((fr.rf.up (o := 80) rfl).up (o := 55) rfl) ht.s
theorem as_3_2 {D kd ix f : Nat} (hkd : kd ≤ 7) (ih : ∀ (k a : Nat) (x : Int32) (n : Nat) (tr : Nat → Int32) (r : Nat) (H : pmT) (K : Int32 → pmT → Prop), k ≤ 7 → a ≤ 3 → cn kd f k a = some n → r + n < 1000 → H.1 55 46 = nI kd → H.1 55 47 = nI ix → TrM tr r H → (∀ H', fr [5546, 8000] H H' → TrM (ev kd (nI ix) f k a x tr r).1 (ev kd (nI ix) f k a x tr r).2.1 H' → K (ev kd (nI ix) f k a x tr r).2.2 H') → pm_R (D + f + 1) (M_as a) [.ref 55, .int (nI k), .int x] H (pm_i K)) (x : Int32) (n : Nat) (tr : Nat → Int32) (r : Nat) (H : pmT) (K : Int32 → pmT → Prop) (h : cn kd (f + 1) 2 3 = some n) (hr : r + n < 1000) (h46 : H.1 55 46 = nI kd) (h47 : H.1 55 47 = nI ix) (ht : TrM tr r H) (kk : ∀ H', fr [5546, 8000] H H' → TrM (ev kd (nI ix) (f + 1) 2 3 x tr r).1 (ev kd (nI ix) (f + 1) 2 3 x tr r).2.1 H' → K (ev kd (nI ix) (f + 1) 2 3 x tr r).2.2 H') : pm_R (D + (f + 1) + 1) M_Mo_tellsAs [.ref 55, .int (nI 2), .int x] H (pm_i K) := by
    have e : W_cd 2 3 = 2 := by decide +kernel
    rw [cn_2 e] at h
    rw [ev_2 e] at kk
    simp only [] at kk
    rw [e] at kk
    obtain ⟨p, q, e1, e2, hn⟩ := add2_s h
    have go : ∀ H1, fr [5546, 8000] H H1 → TrM (upd tr r (nI 2)) (r + 1) H1 → pm_R (D + f + 1) M_Mo_addsAs [.ref 55, .int (nI kd), .int x] H1 (pm_i fun y H2 => pm_R (D + f + 1) M_Mo_fadesAs [.ref 55, .int (H2.1 55 46), .int (1 : Int32)] H2 (pm_i fun z H3 => K (y - z) H3)) := fun H1 f1 t1 => ih kd 1 _ p _ _ H1 _ hkd (by decide) e1 (by omega) ((f1.1 55 46 rfl).trans h46) ((f1.1 55 47 rfl).trans h47) t1 (fun H2 f2 t2 => by
      rw [show H2.1 55 46 = nI kd from (f2.1 55 46 rfl).trans ((f1.1 55 46 rfl).trans h46)]
      exact ih kd 2 _ q _ _ H2 _ hkd (by decide) e2 (by rw [ev_r hkd _ _ _ _ _ _ p hkd (by decide) e1]; omega) (((f1.tr f2).1 55 46 rfl).trans h46) (((f1.tr f2).1 55 47 rfl).trans h47) t2 (fun H3 f3 t3 => kk H3 (f1.tr (f2.tr f3)) t3))
    refine m_Mo_tellsAs _ _ ?_
    rw [ht.1]
    try rw [h46]
    try rw [h47]
    rw [nI_1 r, nIc (show r < 2 ^ 31 by omega)]
    have z1 : ¬ nI 2 = (1 : Int32) := by decide
    have z2 : nI 2 = (2 : Int32) := by decide
    have z3 : ¬ nI 2 = (3 : Int32) := by decide
    have z4 : ¬ nI 2 = (4 : Int32) := by decide
    have z5 : ¬ nI 2 = (5 : Int32) := by decide
    have z6 : ¬ nI 2 = (6 : Int32) := by decide
    have z7 : ¬ nI 2 = (7 : Int32) := by decide
    have e24 : ((24 : Int32) ≤ nI r) = (24 ≤ r) := i_le 24 r (by decide) (by omega)
    rw [e24]
    by_cases c24 : 24 ≤ r
    · repeat (first | with_reducible refine bt z1 ?_ | with_reducible refine bf z1 ?_ | with_reducible refine nt z1 ?_ | with_reducible refine nf z1 ?_ | with_reducible refine And.intro z1 ?_ | with_reducible refine bt z2 ?_ | with_reducible refine bf z2 ?_ | with_reducible refine nt z2 ?_ | with_reducible refine nf z2 ?_ | with_reducible refine And.intro z2 ?_ | with_reducible refine bt z3 ?_ | with_reducible refine bf z3 ?_ | with_reducible refine nt z3 ?_ | with_reducible refine nf z3 ?_ | with_reducible refine And.intro z3 ?_ | with_reducible refine bt z4 ?_ | with_reducible refine bf z4 ?_ | with_reducible refine nt z4 ?_ | with_reducible refine nf z4 ?_ | with_reducible refine And.intro z4 ?_ | with_reducible refine bt z5 ?_ | with_reducible refine bf z5 ?_ | with_reducible refine nt z5 ?_ | with_reducible refine nf z5 ?_ | with_reducible refine And.intro z5 ?_ | with_reducible refine bt z6 ?_ | with_reducible refine bf z6 ?_ | with_reducible refine nt z6 ?_ | with_reducible refine nf z6 ?_ | with_reducible refine And.intro z6 ?_ | with_reducible refine bt z7 ?_ | with_reducible refine bf z7 ?_ | with_reducible refine nt z7 ?_ | with_reducible refine nf z7 ?_ | with_reducible refine And.intro z7 ?_ | with_reducible refine bt c24 ?_ | with_reducible refine bf c24 ?_ | with_reducible refine nt c24 ?_ | with_reducible refine nf c24 ?_ | with_reducible refine And.intro c24 ?_)
      exact go _ (fr.rf.up (o := 55) rfl) (ht.s0 c24)
    · have w24 : vp_in (nI r) 24 := vp_in_nI (by omega) (by decide)
      repeat (first | with_reducible refine bt z1 ?_ | with_reducible refine bf z1 ?_ | with_reducible refine nt z1 ?_ | with_reducible refine nf z1 ?_ | with_reducible refine And.intro z1 ?_ | with_reducible refine bt z2 ?_ | with_reducible refine bf z2 ?_ | with_reducible refine nt z2 ?_ | with_reducible refine nf z2 ?_ | with_reducible refine And.intro z2 ?_ | with_reducible refine bt z3 ?_ | with_reducible refine bf z3 ?_ | with_reducible refine nt z3 ?_ | with_reducible refine nf z3 ?_ | with_reducible refine And.intro z3 ?_ | with_reducible refine bt z4 ?_ | with_reducible refine bf z4 ?_ | with_reducible refine nt z4 ?_ | with_reducible refine nf z4 ?_ | with_reducible refine And.intro z4 ?_ | with_reducible refine bt z5 ?_ | with_reducible refine bf z5 ?_ | with_reducible refine nt z5 ?_ | with_reducible refine nf z5 ?_ | with_reducible refine And.intro z5 ?_ | with_reducible refine bt z6 ?_ | with_reducible refine bf z6 ?_ | with_reducible refine nt z6 ?_ | with_reducible refine nf z6 ?_ | with_reducible refine And.intro z6 ?_ | with_reducible refine bt z7 ?_ | with_reducible refine bf z7 ?_ | with_reducible refine nt z7 ?_ | with_reducible refine nf z7 ?_ | with_reducible refine And.intro z7 ?_ | with_reducible refine bt c24 ?_ | with_reducible refine bf c24 ?_ | with_reducible refine nt c24 ?_ | with_reducible refine nf c24 ?_ | with_reducible refine And.intro c24 ?_ | with_reducible refine bt w24 ?_ | with_reducible refine bf w24 ?_ | with_reducible refine nt w24 ?_ | with_reducible refine nf w24 ?_ | with_reducible refine And.intro w24 ?_)
      exact go _ ((fr.rf.up (o := 80) rfl).up (o := 55) rfl) ht.s
theorem as_3_3 {D kd ix f : Nat} (hkd : kd ≤ 7) (ih : ∀ (k a : Nat) (x : Int32) (n : Nat) (tr : Nat → Int32) (r : Nat) (H : pmT) (K : Int32 → pmT → Prop), k ≤ 7 → a ≤ 3 → cn kd f k a = some n → r + n < 1000 → H.1 55 46 = nI kd → H.1 55 47 = nI ix → TrM tr r H → (∀ H', fr [5546, 8000] H H' → TrM (ev kd (nI ix) f k a x tr r).1 (ev kd (nI ix) f k a x tr r).2.1 H' → K (ev kd (nI ix) f k a x tr r).2.2 H') → pm_R (D + f + 1) (M_as a) [.ref 55, .int (nI k), .int x] H (pm_i K)) (x : Int32) (n : Nat) (tr : Nat → Int32) (r : Nat) (H : pmT) (K : Int32 → pmT → Prop) (h : cn kd (f + 1) 3 3 = some n) (hr : r + n < 1000) (h46 : H.1 55 46 = nI kd) (h47 : H.1 55 47 = nI ix) (ht : TrM tr r H) (kk : ∀ H', fr [5546, 8000] H H' → TrM (ev kd (nI ix) (f + 1) 3 3 x tr r).1 (ev kd (nI ix) (f + 1) 3 3 x tr r).2.1 H' → K (ev kd (nI ix) (f + 1) 3 3 x tr r).2.2 H') : pm_R (D + (f + 1) + 1) M_Mo_tellsAs [.ref 55, .int (nI 3), .int x] H (pm_i K) := by
    have e : W_cd 3 3 = 2 := by decide +kernel
    rw [cn_2 e] at h
    rw [ev_2 e] at kk
    simp only [] at kk
    rw [e] at kk
    obtain ⟨p, q, e1, e2, hn⟩ := add2_s h
    have go : ∀ H1, fr [5546, 8000] H H1 → TrM (upd tr r (nI 2)) (r + 1) H1 → pm_R (D + f + 1) M_Mo_addsAs [.ref 55, .int (nI kd), .int x] H1 (pm_i fun y H2 => pm_R (D + f + 1) M_Mo_fadesAs [.ref 55, .int (H2.1 55 46), .int (1 : Int32)] H2 (pm_i fun z H3 => K (y - z) H3)) := fun H1 f1 t1 => ih kd 1 _ p _ _ H1 _ hkd (by decide) e1 (by omega) ((f1.1 55 46 rfl).trans h46) ((f1.1 55 47 rfl).trans h47) t1 (fun H2 f2 t2 => by
      rw [show H2.1 55 46 = nI kd from (f2.1 55 46 rfl).trans ((f1.1 55 46 rfl).trans h46)]
      exact ih kd 2 _ q _ _ H2 _ hkd (by decide) e2 (by rw [ev_r hkd _ _ _ _ _ _ p hkd (by decide) e1]; omega) (((f1.tr f2).1 55 46 rfl).trans h46) (((f1.tr f2).1 55 47 rfl).trans h47) t2 (fun H3 f3 t3 => kk H3 (f1.tr (f2.tr f3)) t3))
    refine m_Mo_tellsAs _ _ ?_
    rw [ht.1]
    try rw [h46]
    try rw [h47]
    rw [nI_1 r, nIc (show r < 2 ^ 31 by omega)]
    have z1 : ¬ nI 3 = (1 : Int32) := by decide
    have z2 : ¬ nI 3 = (2 : Int32) := by decide
    have z3 : nI 3 = (3 : Int32) := by decide
    have z4 : ¬ nI 3 = (4 : Int32) := by decide
    have z5 : ¬ nI 3 = (5 : Int32) := by decide
    have z6 : ¬ nI 3 = (6 : Int32) := by decide
    have z7 : ¬ nI 3 = (7 : Int32) := by decide
    have e24 : ((24 : Int32) ≤ nI r) = (24 ≤ r) := i_le 24 r (by decide) (by omega)
    rw [e24]
    by_cases c24 : 24 ≤ r
    · repeat (first | with_reducible refine bt z1 ?_ | with_reducible refine bf z1 ?_ | with_reducible refine nt z1 ?_ | with_reducible refine nf z1 ?_ | with_reducible refine And.intro z1 ?_ | with_reducible refine bt z2 ?_ | with_reducible refine bf z2 ?_ | with_reducible refine nt z2 ?_ | with_reducible refine nf z2 ?_ | with_reducible refine And.intro z2 ?_ | with_reducible refine bt z3 ?_ | with_reducible refine bf z3 ?_ | with_reducible refine nt z3 ?_ | with_reducible refine nf z3 ?_ | with_reducible refine And.intro z3 ?_ | with_reducible refine bt z4 ?_ | with_reducible refine bf z4 ?_ | with_reducible refine nt z4 ?_ | with_reducible refine nf z4 ?_ | with_reducible refine And.intro z4 ?_ | with_reducible refine bt z5 ?_ | with_reducible refine bf z5 ?_ | with_reducible refine nt z5 ?_ | with_reducible refine nf z5 ?_ | with_reducible refine And.intro z5 ?_ | with_reducible refine bt z6 ?_ | with_reducible refine bf z6 ?_ | with_reducible refine nt z6 ?_ | with_reducible refine nf z6 ?_ | with_reducible refine And.intro z6 ?_ | with_reducible refine bt z7 ?_ | with_reducible refine bf z7 ?_ | with_reducible refine nt z7 ?_ | with_reducible refine nf z7 ?_ | with_reducible refine And.intro z7 ?_ | with_reducible refine bt c24 ?_ | with_reducible refine bf c24 ?_ | with_reducible refine nt c24 ?_ | with_reducible refine nf c24 ?_ | with_reducible refine And.intro c24 ?_)
      exact go _ (fr.rf.up (o := 55) rfl) (ht.s0 c24)
    · have w24 : vp_in (nI r) 24 := vp_in_nI (by omega) (by decide)
      repeat (first | with_reducible refine bt z1 ?_ | with_reducible refine bf z1 ?_ | with_reducible refine nt z1 ?_ | with_reducible refine nf z1 ?_ | with_reducible refine And.intro z1 ?_ | with_reducible refine bt z2 ?_ | with_reducible refine bf z2 ?_ | with_reducible refine nt z2 ?_ | with_reducible refine nf z2 ?_ | with_reducible refine And.intro z2 ?_ | with_reducible refine bt z3 ?_ | with_reducible refine bf z3 ?_ | with_reducible refine nt z3 ?_ | with_reducible refine nf z3 ?_ | with_reducible refine And.intro z3 ?_ | with_reducible refine bt z4 ?_ | with_reducible refine bf z4 ?_ | with_reducible refine nt z4 ?_ | with_reducible refine nf z4 ?_ | with_reducible refine And.intro z4 ?_ | with_reducible refine bt z5 ?_ | with_reducible refine bf z5 ?_ | with_reducible refine nt z5 ?_ | with_reducible refine nf z5 ?_ | with_reducible refine And.intro z5 ?_ | with_reducible refine bt z6 ?_ | with_reducible refine bf z6 ?_ | with_reducible refine nt z6 ?_ | with_reducible refine nf z6 ?_ | with_reducible refine And.intro z6 ?_ | with_reducible refine bt z7 ?_ | with_reducible refine bf z7 ?_ | with_reducible refine nt z7 ?_ | with_reducible refine nf z7 ?_ | with_reducible refine And.intro z7 ?_ | with_reducible refine bt c24 ?_ | with_reducible refine bf c24 ?_ | with_reducible refine nt c24 ?_ | with_reducible refine nf c24 ?_ | with_reducible refine And.intro c24 ?_ | with_reducible refine bt w24 ?_ | with_reducible refine bf w24 ?_ | with_reducible refine nt w24 ?_ | with_reducible refine nf w24 ?_ | with_reducible refine And.intro w24 ?_)
      exact go _ ((fr.rf.up (o := 80) rfl).up (o := 55) rfl) ht.s
theorem as_3_4 {D kd ix f : Nat} (hkd : kd ≤ 7) (ih : ∀ (k a : Nat) (x : Int32) (n : Nat) (tr : Nat → Int32) (r : Nat) (H : pmT) (K : Int32 → pmT → Prop), k ≤ 7 → a ≤ 3 → cn kd f k a = some n → r + n < 1000 → H.1 55 46 = nI kd → H.1 55 47 = nI ix → TrM tr r H → (∀ H', fr [5546, 8000] H H' → TrM (ev kd (nI ix) f k a x tr r).1 (ev kd (nI ix) f k a x tr r).2.1 H' → K (ev kd (nI ix) f k a x tr r).2.2 H') → pm_R (D + f + 1) (M_as a) [.ref 55, .int (nI k), .int x] H (pm_i K)) (x : Int32) (n : Nat) (tr : Nat → Int32) (r : Nat) (H : pmT) (K : Int32 → pmT → Prop) (h : cn kd (f + 1) 4 3 = some n) (hr : r + n < 1000) (h46 : H.1 55 46 = nI kd) (h47 : H.1 55 47 = nI ix) (ht : TrM tr r H) (kk : ∀ H', fr [5546, 8000] H H' → TrM (ev kd (nI ix) (f + 1) 4 3 x tr r).1 (ev kd (nI ix) (f + 1) 4 3 x tr r).2.1 H' → K (ev kd (nI ix) (f + 1) 4 3 x tr r).2.2 H') : pm_R (D + (f + 1) + 1) M_Mo_tellsAs [.ref 55, .int (nI 4), .int x] H (pm_i K) := by
    have e : W_cd 4 3 = 2 := by decide +kernel
    rw [cn_2 e] at h
    rw [ev_2 e] at kk
    simp only [] at kk
    rw [e] at kk
    obtain ⟨p, q, e1, e2, hn⟩ := add2_s h
    have go : ∀ H1, fr [5546, 8000] H H1 → TrM (upd tr r (nI 2)) (r + 1) H1 → pm_R (D + f + 1) M_Mo_addsAs [.ref 55, .int (nI kd), .int x] H1 (pm_i fun y H2 => pm_R (D + f + 1) M_Mo_fadesAs [.ref 55, .int (H2.1 55 46), .int (1 : Int32)] H2 (pm_i fun z H3 => K (y - z) H3)) := fun H1 f1 t1 => ih kd 1 _ p _ _ H1 _ hkd (by decide) e1 (by omega) ((f1.1 55 46 rfl).trans h46) ((f1.1 55 47 rfl).trans h47) t1 (fun H2 f2 t2 => by
      rw [show H2.1 55 46 = nI kd from (f2.1 55 46 rfl).trans ((f1.1 55 46 rfl).trans h46)]
      exact ih kd 2 _ q _ _ H2 _ hkd (by decide) e2 (by rw [ev_r hkd _ _ _ _ _ _ p hkd (by decide) e1]; omega) (((f1.tr f2).1 55 46 rfl).trans h46) (((f1.tr f2).1 55 47 rfl).trans h47) t2 (fun H3 f3 t3 => kk H3 (f1.tr (f2.tr f3)) t3))
    refine m_Mo_tellsAs _ _ ?_
    rw [ht.1]
    try rw [h46]
    try rw [h47]
    rw [nI_1 r, nIc (show r < 2 ^ 31 by omega)]
    have z1 : ¬ nI 4 = (1 : Int32) := by decide
    have z2 : ¬ nI 4 = (2 : Int32) := by decide
    have z3 : ¬ nI 4 = (3 : Int32) := by decide
    have z4 : nI 4 = (4 : Int32) := by decide
    have z5 : ¬ nI 4 = (5 : Int32) := by decide
    have z6 : ¬ nI 4 = (6 : Int32) := by decide
    have z7 : ¬ nI 4 = (7 : Int32) := by decide
    have e24 : ((24 : Int32) ≤ nI r) = (24 ≤ r) := i_le 24 r (by decide) (by omega)
    rw [e24]
    by_cases c24 : 24 ≤ r
    · repeat (first | with_reducible refine bt z1 ?_ | with_reducible refine bf z1 ?_ | with_reducible refine nt z1 ?_ | with_reducible refine nf z1 ?_ | with_reducible refine And.intro z1 ?_ | with_reducible refine bt z2 ?_ | with_reducible refine bf z2 ?_ | with_reducible refine nt z2 ?_ | with_reducible refine nf z2 ?_ | with_reducible refine And.intro z2 ?_ | with_reducible refine bt z3 ?_ | with_reducible refine bf z3 ?_ | with_reducible refine nt z3 ?_ | with_reducible refine nf z3 ?_ | with_reducible refine And.intro z3 ?_ | with_reducible refine bt z4 ?_ | with_reducible refine bf z4 ?_ | with_reducible refine nt z4 ?_ | with_reducible refine nf z4 ?_ | with_reducible refine And.intro z4 ?_ | with_reducible refine bt z5 ?_ | with_reducible refine bf z5 ?_ | with_reducible refine nt z5 ?_ | with_reducible refine nf z5 ?_ | with_reducible refine And.intro z5 ?_ | with_reducible refine bt z6 ?_ | with_reducible refine bf z6 ?_ | with_reducible refine nt z6 ?_ | with_reducible refine nf z6 ?_ | with_reducible refine And.intro z6 ?_ | with_reducible refine bt z7 ?_ | with_reducible refine bf z7 ?_ | with_reducible refine nt z7 ?_ | with_reducible refine nf z7 ?_ | with_reducible refine And.intro z7 ?_ | with_reducible refine bt c24 ?_ | with_reducible refine bf c24 ?_ | with_reducible refine nt c24 ?_ | with_reducible refine nf c24 ?_ | with_reducible refine And.intro c24 ?_)
      exact go _ (fr.rf.up (o := 55) rfl) (ht.s0 c24)
    · have w24 : vp_in (nI r) 24 := vp_in_nI (by omega) (by decide)
      repeat (first | with_reducible refine bt z1 ?_ | with_reducible refine bf z1 ?_ | with_reducible refine nt z1 ?_ | with_reducible refine nf z1 ?_ | with_reducible refine And.intro z1 ?_ | with_reducible refine bt z2 ?_ | with_reducible refine bf z2 ?_ | with_reducible refine nt z2 ?_ | with_reducible refine nf z2 ?_ | with_reducible refine And.intro z2 ?_ | with_reducible refine bt z3 ?_ | with_reducible refine bf z3 ?_ | with_reducible refine nt z3 ?_ | with_reducible refine nf z3 ?_ | with_reducible refine And.intro z3 ?_ | with_reducible refine bt z4 ?_ | with_reducible refine bf z4 ?_ | with_reducible refine nt z4 ?_ | with_reducible refine nf z4 ?_ | with_reducible refine And.intro z4 ?_ | with_reducible refine bt z5 ?_ | with_reducible refine bf z5 ?_ | with_reducible refine nt z5 ?_ | with_reducible refine nf z5 ?_ | with_reducible refine And.intro z5 ?_ | with_reducible refine bt z6 ?_ | with_reducible refine bf z6 ?_ | with_reducible refine nt z6 ?_ | with_reducible refine nf z6 ?_ | with_reducible refine And.intro z6 ?_ | with_reducible refine bt z7 ?_ | with_reducible refine bf z7 ?_ | with_reducible refine nt z7 ?_ | with_reducible refine nf z7 ?_ | with_reducible refine And.intro z7 ?_ | with_reducible refine bt c24 ?_ | with_reducible refine bf c24 ?_ | with_reducible refine nt c24 ?_ | with_reducible refine nf c24 ?_ | with_reducible refine And.intro c24 ?_ | with_reducible refine bt w24 ?_ | with_reducible refine bf w24 ?_ | with_reducible refine nt w24 ?_ | with_reducible refine nf w24 ?_ | with_reducible refine And.intro w24 ?_)
      exact go _ ((fr.rf.up (o := 80) rfl).up (o := 55) rfl) ht.s
theorem as_3_5 {D kd ix f : Nat} (hkd : kd ≤ 7) (ih : ∀ (k a : Nat) (x : Int32) (n : Nat) (tr : Nat → Int32) (r : Nat) (H : pmT) (K : Int32 → pmT → Prop), k ≤ 7 → a ≤ 3 → cn kd f k a = some n → r + n < 1000 → H.1 55 46 = nI kd → H.1 55 47 = nI ix → TrM tr r H → (∀ H', fr [5546, 8000] H H' → TrM (ev kd (nI ix) f k a x tr r).1 (ev kd (nI ix) f k a x tr r).2.1 H' → K (ev kd (nI ix) f k a x tr r).2.2 H') → pm_R (D + f + 1) (M_as a) [.ref 55, .int (nI k), .int x] H (pm_i K)) (x : Int32) (n : Nat) (tr : Nat → Int32) (r : Nat) (H : pmT) (K : Int32 → pmT → Prop) (h : cn kd (f + 1) 5 3 = some n) (hr : r + n < 1000) (h46 : H.1 55 46 = nI kd) (h47 : H.1 55 47 = nI ix) (ht : TrM tr r H) (kk : ∀ H', fr [5546, 8000] H H' → TrM (ev kd (nI ix) (f + 1) 5 3 x tr r).1 (ev kd (nI ix) (f + 1) 5 3 x tr r).2.1 H' → K (ev kd (nI ix) (f + 1) 5 3 x tr r).2.2 H') : pm_R (D + (f + 1) + 1) M_Mo_tellsAs [.ref 55, .int (nI 5), .int x] H (pm_i K) := by
    have e : W_cd 5 3 = 60 := by decide +kernel
    rw [cn_60 e] at h
    rw [ev_60 e] at kk
    simp only [] at kk
    rw [e] at kk
    rw [show W_up 5 3 = 3 by decide +kernel] at kk h
    obtain ⟨p, e1, hn⟩ := add1_s h
    have go : ∀ H1, fr [5546, 8000] H H1 → TrM (upd tr r (nI 60)) (r + 1) H1 → pm_R (D + f + 1) M_Mo_tellsAs [.ref 55, .int (3 : Int32), .int x] H1 (pm_i fun y H2 => K (y ^^^ (5 : Int32)) H2) := fun H1 f1 t1 => ih 3 3 _ p _ _ H1 _ (by decide) (by decide) e1 (by omega) ((f1.1 55 46 rfl).trans h46) ((f1.1 55 47 rfl).trans h47) t1 (fun H2 f2 t2 => kk H2 (f1.tr f2) t2)
    refine m_Mo_tellsAs _ _ ?_
    rw [ht.1]
    try rw [h46]
    try rw [h47]
    rw [nI_1 r, nIc (show r < 2 ^ 31 by omega)]
    have z1 : ¬ nI 5 = (1 : Int32) := by decide
    have z2 : ¬ nI 5 = (2 : Int32) := by decide
    have z3 : ¬ nI 5 = (3 : Int32) := by decide
    have z4 : ¬ nI 5 = (4 : Int32) := by decide
    have z5 : nI 5 = (5 : Int32) := by decide
    have z6 : ¬ nI 5 = (6 : Int32) := by decide
    have z7 : ¬ nI 5 = (7 : Int32) := by decide
    have e24 : ((24 : Int32) ≤ nI r) = (24 ≤ r) := i_le 24 r (by decide) (by omega)
    rw [e24]
    by_cases c24 : 24 ≤ r
    · repeat (first | with_reducible refine bt z1 ?_ | with_reducible refine bf z1 ?_ | with_reducible refine nt z1 ?_ | with_reducible refine nf z1 ?_ | with_reducible refine And.intro z1 ?_ | with_reducible refine bt z2 ?_ | with_reducible refine bf z2 ?_ | with_reducible refine nt z2 ?_ | with_reducible refine nf z2 ?_ | with_reducible refine And.intro z2 ?_ | with_reducible refine bt z3 ?_ | with_reducible refine bf z3 ?_ | with_reducible refine nt z3 ?_ | with_reducible refine nf z3 ?_ | with_reducible refine And.intro z3 ?_ | with_reducible refine bt z4 ?_ | with_reducible refine bf z4 ?_ | with_reducible refine nt z4 ?_ | with_reducible refine nf z4 ?_ | with_reducible refine And.intro z4 ?_ | with_reducible refine bt z5 ?_ | with_reducible refine bf z5 ?_ | with_reducible refine nt z5 ?_ | with_reducible refine nf z5 ?_ | with_reducible refine And.intro z5 ?_ | with_reducible refine bt z6 ?_ | with_reducible refine bf z6 ?_ | with_reducible refine nt z6 ?_ | with_reducible refine nf z6 ?_ | with_reducible refine And.intro z6 ?_ | with_reducible refine bt z7 ?_ | with_reducible refine bf z7 ?_ | with_reducible refine nt z7 ?_ | with_reducible refine nf z7 ?_ | with_reducible refine And.intro z7 ?_ | with_reducible refine bt c24 ?_ | with_reducible refine bf c24 ?_ | with_reducible refine nt c24 ?_ | with_reducible refine nf c24 ?_ | with_reducible refine And.intro c24 ?_)
      exact go _ (fr.rf.up (o := 55) rfl) (ht.s0 c24)
    · have w24 : vp_in (nI r) 24 := vp_in_nI (by omega) (by decide)
      repeat (first | with_reducible refine bt z1 ?_ | with_reducible refine bf z1 ?_ | with_reducible refine nt z1 ?_ | with_reducible refine nf z1 ?_ | with_reducible refine And.intro z1 ?_ | with_reducible refine bt z2 ?_ | with_reducible refine bf z2 ?_ | with_reducible refine nt z2 ?_ | with_reducible refine nf z2 ?_ | with_reducible refine And.intro z2 ?_ | with_reducible refine bt z3 ?_ | with_reducible refine bf z3 ?_ | with_reducible refine nt z3 ?_ | with_reducible refine nf z3 ?_ | with_reducible refine And.intro z3 ?_ | with_reducible refine bt z4 ?_ | with_reducible refine bf z4 ?_ | with_reducible refine nt z4 ?_ | with_reducible refine nf z4 ?_ | with_reducible refine And.intro z4 ?_ | with_reducible refine bt z5 ?_ | with_reducible refine bf z5 ?_ | with_reducible refine nt z5 ?_ | with_reducible refine nf z5 ?_ | with_reducible refine And.intro z5 ?_ | with_reducible refine bt z6 ?_ | with_reducible refine bf z6 ?_ | with_reducible refine nt z6 ?_ | with_reducible refine nf z6 ?_ | with_reducible refine And.intro z6 ?_ | with_reducible refine bt z7 ?_ | with_reducible refine bf z7 ?_ | with_reducible refine nt z7 ?_ | with_reducible refine nf z7 ?_ | with_reducible refine And.intro z7 ?_ | with_reducible refine bt c24 ?_ | with_reducible refine bf c24 ?_ | with_reducible refine nt c24 ?_ | with_reducible refine nf c24 ?_ | with_reducible refine And.intro c24 ?_ | with_reducible refine bt w24 ?_ | with_reducible refine bf w24 ?_ | with_reducible refine nt w24 ?_ | with_reducible refine nf w24 ?_ | with_reducible refine And.intro w24 ?_)
      exact go _ ((fr.rf.up (o := 80) rfl).up (o := 55) rfl) ht.s
theorem as_3_6 {D kd ix f : Nat} (hkd : kd ≤ 7) (ih : ∀ (k a : Nat) (x : Int32) (n : Nat) (tr : Nat → Int32) (r : Nat) (H : pmT) (K : Int32 → pmT → Prop), k ≤ 7 → a ≤ 3 → cn kd f k a = some n → r + n < 1000 → H.1 55 46 = nI kd → H.1 55 47 = nI ix → TrM tr r H → (∀ H', fr [5546, 8000] H H' → TrM (ev kd (nI ix) f k a x tr r).1 (ev kd (nI ix) f k a x tr r).2.1 H' → K (ev kd (nI ix) f k a x tr r).2.2 H') → pm_R (D + f + 1) (M_as a) [.ref 55, .int (nI k), .int x] H (pm_i K)) (x : Int32) (n : Nat) (tr : Nat → Int32) (r : Nat) (H : pmT) (K : Int32 → pmT → Prop) (h : cn kd (f + 1) 6 3 = some n) (hr : r + n < 1000) (h46 : H.1 55 46 = nI kd) (h47 : H.1 55 47 = nI ix) (ht : TrM tr r H) (kk : ∀ H', fr [5546, 8000] H H' → TrM (ev kd (nI ix) (f + 1) 6 3 x tr r).1 (ev kd (nI ix) (f + 1) 6 3 x tr r).2.1 H' → K (ev kd (nI ix) (f + 1) 6 3 x tr r).2.2 H') : pm_R (D + (f + 1) + 1) M_Mo_tellsAs [.ref 55, .int (nI 6), .int x] H (pm_i K) := by
    have e : W_cd 6 3 = 2 := by decide +kernel
    rw [cn_2 e] at h
    rw [ev_2 e] at kk
    simp only [] at kk
    rw [e] at kk
    obtain ⟨p, q, e1, e2, hn⟩ := add2_s h
    have go : ∀ H1, fr [5546, 8000] H H1 → TrM (upd tr r (nI 2)) (r + 1) H1 → pm_R (D + f + 1) M_Mo_addsAs [.ref 55, .int (nI kd), .int x] H1 (pm_i fun y H2 => pm_R (D + f + 1) M_Mo_fadesAs [.ref 55, .int (H2.1 55 46), .int (1 : Int32)] H2 (pm_i fun z H3 => K (y - z) H3)) := fun H1 f1 t1 => ih kd 1 _ p _ _ H1 _ hkd (by decide) e1 (by omega) ((f1.1 55 46 rfl).trans h46) ((f1.1 55 47 rfl).trans h47) t1 (fun H2 f2 t2 => by
      rw [show H2.1 55 46 = nI kd from (f2.1 55 46 rfl).trans ((f1.1 55 46 rfl).trans h46)]
      exact ih kd 2 _ q _ _ H2 _ hkd (by decide) e2 (by rw [ev_r hkd _ _ _ _ _ _ p hkd (by decide) e1]; omega) (((f1.tr f2).1 55 46 rfl).trans h46) (((f1.tr f2).1 55 47 rfl).trans h47) t2 (fun H3 f3 t3 => kk H3 (f1.tr (f2.tr f3)) t3))
    refine m_Mo_tellsAs _ _ ?_
    rw [ht.1]
    try rw [h46]
    try rw [h47]
    rw [nI_1 r, nIc (show r < 2 ^ 31 by omega)]
    have z1 : ¬ nI 6 = (1 : Int32) := by decide
    have z2 : ¬ nI 6 = (2 : Int32) := by decide
    have z3 : ¬ nI 6 = (3 : Int32) := by decide
    have z4 : ¬ nI 6 = (4 : Int32) := by decide
    have z5 : ¬ nI 6 = (5 : Int32) := by decide
    have z6 : nI 6 = (6 : Int32) := by decide
    have z7 : ¬ nI 6 = (7 : Int32) := by decide
    have e24 : ((24 : Int32) ≤ nI r) = (24 ≤ r) := i_le 24 r (by decide) (by omega)
    rw [e24]
    by_cases c24 : 24 ≤ r
    · repeat (first | with_reducible refine bt z1 ?_ | with_reducible refine bf z1 ?_ | with_reducible refine nt z1 ?_ | with_reducible refine nf z1 ?_ | with_reducible refine And.intro z1 ?_ | with_reducible refine bt z2 ?_ | with_reducible refine bf z2 ?_ | with_reducible refine nt z2 ?_ | with_reducible refine nf z2 ?_ | with_reducible refine And.intro z2 ?_ | with_reducible refine bt z3 ?_ | with_reducible refine bf z3 ?_ | with_reducible refine nt z3 ?_ | with_reducible refine nf z3 ?_ | with_reducible refine And.intro z3 ?_ | with_reducible refine bt z4 ?_ | with_reducible refine bf z4 ?_ | with_reducible refine nt z4 ?_ | with_reducible refine nf z4 ?_ | with_reducible refine And.intro z4 ?_ | with_reducible refine bt z5 ?_ | with_reducible refine bf z5 ?_ | with_reducible refine nt z5 ?_ | with_reducible refine nf z5 ?_ | with_reducible refine And.intro z5 ?_ | with_reducible refine bt z6 ?_ | with_reducible refine bf z6 ?_ | with_reducible refine nt z6 ?_ | with_reducible refine nf z6 ?_ | with_reducible refine And.intro z6 ?_ | with_reducible refine bt z7 ?_ | with_reducible refine bf z7 ?_ | with_reducible refine nt z7 ?_ | with_reducible refine nf z7 ?_ | with_reducible refine And.intro z7 ?_ | with_reducible refine bt c24 ?_ | with_reducible refine bf c24 ?_ | with_reducible refine nt c24 ?_ | with_reducible refine nf c24 ?_ | with_reducible refine And.intro c24 ?_)
      exact go _ (fr.rf.up (o := 55) rfl) (ht.s0 c24)
    · have w24 : vp_in (nI r) 24 := vp_in_nI (by omega) (by decide)
      repeat (first | with_reducible refine bt z1 ?_ | with_reducible refine bf z1 ?_ | with_reducible refine nt z1 ?_ | with_reducible refine nf z1 ?_ | with_reducible refine And.intro z1 ?_ | with_reducible refine bt z2 ?_ | with_reducible refine bf z2 ?_ | with_reducible refine nt z2 ?_ | with_reducible refine nf z2 ?_ | with_reducible refine And.intro z2 ?_ | with_reducible refine bt z3 ?_ | with_reducible refine bf z3 ?_ | with_reducible refine nt z3 ?_ | with_reducible refine nf z3 ?_ | with_reducible refine And.intro z3 ?_ | with_reducible refine bt z4 ?_ | with_reducible refine bf z4 ?_ | with_reducible refine nt z4 ?_ | with_reducible refine nf z4 ?_ | with_reducible refine And.intro z4 ?_ | with_reducible refine bt z5 ?_ | with_reducible refine bf z5 ?_ | with_reducible refine nt z5 ?_ | with_reducible refine nf z5 ?_ | with_reducible refine And.intro z5 ?_ | with_reducible refine bt z6 ?_ | with_reducible refine bf z6 ?_ | with_reducible refine nt z6 ?_ | with_reducible refine nf z6 ?_ | with_reducible refine And.intro z6 ?_ | with_reducible refine bt z7 ?_ | with_reducible refine bf z7 ?_ | with_reducible refine nt z7 ?_ | with_reducible refine nf z7 ?_ | with_reducible refine And.intro z7 ?_ | with_reducible refine bt c24 ?_ | with_reducible refine bf c24 ?_ | with_reducible refine nt c24 ?_ | with_reducible refine nf c24 ?_ | with_reducible refine And.intro c24 ?_ | with_reducible refine bt w24 ?_ | with_reducible refine bf w24 ?_ | with_reducible refine nt w24 ?_ | with_reducible refine nf w24 ?_ | with_reducible refine And.intro w24 ?_)
      exact go _ ((fr.rf.up (o := 80) rfl).up (o := 55) rfl) ht.s
theorem as_3_7 {D kd ix f : Nat} (hkd : kd ≤ 7) (ih : ∀ (k a : Nat) (x : Int32) (n : Nat) (tr : Nat → Int32) (r : Nat) (H : pmT) (K : Int32 → pmT → Prop), k ≤ 7 → a ≤ 3 → cn kd f k a = some n → r + n < 1000 → H.1 55 46 = nI kd → H.1 55 47 = nI ix → TrM tr r H → (∀ H', fr [5546, 8000] H H' → TrM (ev kd (nI ix) f k a x tr r).1 (ev kd (nI ix) f k a x tr r).2.1 H' → K (ev kd (nI ix) f k a x tr r).2.2 H') → pm_R (D + f + 1) (M_as a) [.ref 55, .int (nI k), .int x] H (pm_i K)) (x : Int32) (n : Nat) (tr : Nat → Int32) (r : Nat) (H : pmT) (K : Int32 → pmT → Prop) (h : cn kd (f + 1) 7 3 = some n) (hr : r + n < 1000) (h46 : H.1 55 46 = nI kd) (h47 : H.1 55 47 = nI ix) (ht : TrM tr r H) (kk : ∀ H', fr [5546, 8000] H H' → TrM (ev kd (nI ix) (f + 1) 7 3 x tr r).1 (ev kd (nI ix) (f + 1) 7 3 x tr r).2.1 H' → K (ev kd (nI ix) (f + 1) 7 3 x tr r).2.2 H') : pm_R (D + (f + 1) + 1) M_Mo_tellsAs [.ref 55, .int (nI 7), .int x] H (pm_i K) := by
    have e : W_cd 7 3 = 81 := by decide +kernel
    rw [cn_81 e] at h
    rw [ev_81 e] at kk
    simp only [] at kk
    rw [e] at kk
    rw [show W_up 7 3 = 4 by decide +kernel] at kk h
    obtain ⟨p, e1, hn⟩ := add1_s h
    have go : ∀ H1, fr [5546, 8000] H H1 → TrM (upd tr r (nI 81)) (r + 1) H1 → pm_R (D + f + 1) M_Mo_tellsAs [.ref 55, .int (4 : Int32), .int x] H1 (pm_i fun y H2 => K (y - (1 : Int32)) H2) := fun H1 f1 t1 => ih 4 3 _ p _ _ H1 _ (by decide) (by decide) e1 (by omega) ((f1.1 55 46 rfl).trans h46) ((f1.1 55 47 rfl).trans h47) t1 (fun H2 f2 t2 => kk H2 (f1.tr f2) t2)
    refine m_Mo_tellsAs _ _ ?_
    rw [ht.1]
    try rw [h46]
    try rw [h47]
    rw [nI_1 r, nIc (show r < 2 ^ 31 by omega)]
    have z1 : ¬ nI 7 = (1 : Int32) := by decide
    have z2 : ¬ nI 7 = (2 : Int32) := by decide
    have z3 : ¬ nI 7 = (3 : Int32) := by decide
    have z4 : ¬ nI 7 = (4 : Int32) := by decide
    have z5 : ¬ nI 7 = (5 : Int32) := by decide
    have z6 : ¬ nI 7 = (6 : Int32) := by decide
    have z7 : nI 7 = (7 : Int32) := by decide
    have e24 : ((24 : Int32) ≤ nI r) = (24 ≤ r) := i_le 24 r (by decide) (by omega)
    rw [e24]
    by_cases c24 : 24 ≤ r
    · repeat (first | with_reducible refine bt z1 ?_ | with_reducible refine bf z1 ?_ | with_reducible refine nt z1 ?_ | with_reducible refine nf z1 ?_ | with_reducible refine And.intro z1 ?_ | with_reducible refine bt z2 ?_ | with_reducible refine bf z2 ?_ | with_reducible refine nt z2 ?_ | with_reducible refine nf z2 ?_ | with_reducible refine And.intro z2 ?_ | with_reducible refine bt z3 ?_ | with_reducible refine bf z3 ?_ | with_reducible refine nt z3 ?_ | with_reducible refine nf z3 ?_ | with_reducible refine And.intro z3 ?_ | with_reducible refine bt z4 ?_ | with_reducible refine bf z4 ?_ | with_reducible refine nt z4 ?_ | with_reducible refine nf z4 ?_ | with_reducible refine And.intro z4 ?_ | with_reducible refine bt z5 ?_ | with_reducible refine bf z5 ?_ | with_reducible refine nt z5 ?_ | with_reducible refine nf z5 ?_ | with_reducible refine And.intro z5 ?_ | with_reducible refine bt z6 ?_ | with_reducible refine bf z6 ?_ | with_reducible refine nt z6 ?_ | with_reducible refine nf z6 ?_ | with_reducible refine And.intro z6 ?_ | with_reducible refine bt z7 ?_ | with_reducible refine bf z7 ?_ | with_reducible refine nt z7 ?_ | with_reducible refine nf z7 ?_ | with_reducible refine And.intro z7 ?_ | with_reducible refine bt c24 ?_ | with_reducible refine bf c24 ?_ | with_reducible refine nt c24 ?_ | with_reducible refine nf c24 ?_ | with_reducible refine And.intro c24 ?_)
      exact go _ (fr.rf.up (o := 55) rfl) (ht.s0 c24)
    · have w24 : vp_in (nI r) 24 := vp_in_nI (by omega) (by decide)
      repeat (first | with_reducible refine bt z1 ?_ | with_reducible refine bf z1 ?_ | with_reducible refine nt z1 ?_ | with_reducible refine nf z1 ?_ | with_reducible refine And.intro z1 ?_ | with_reducible refine bt z2 ?_ | with_reducible refine bf z2 ?_ | with_reducible refine nt z2 ?_ | with_reducible refine nf z2 ?_ | with_reducible refine And.intro z2 ?_ | with_reducible refine bt z3 ?_ | with_reducible refine bf z3 ?_ | with_reducible refine nt z3 ?_ | with_reducible refine nf z3 ?_ | with_reducible refine And.intro z3 ?_ | with_reducible refine bt z4 ?_ | with_reducible refine bf z4 ?_ | with_reducible refine nt z4 ?_ | with_reducible refine nf z4 ?_ | with_reducible refine And.intro z4 ?_ | with_reducible refine bt z5 ?_ | with_reducible refine bf z5 ?_ | with_reducible refine nt z5 ?_ | with_reducible refine nf z5 ?_ | with_reducible refine And.intro z5 ?_ | with_reducible refine bt z6 ?_ | with_reducible refine bf z6 ?_ | with_reducible refine nt z6 ?_ | with_reducible refine nf z6 ?_ | with_reducible refine And.intro z6 ?_ | with_reducible refine bt z7 ?_ | with_reducible refine bf z7 ?_ | with_reducible refine nt z7 ?_ | with_reducible refine nf z7 ?_ | with_reducible refine And.intro z7 ?_ | with_reducible refine bt c24 ?_ | with_reducible refine bf c24 ?_ | with_reducible refine nt c24 ?_ | with_reducible refine nf c24 ?_ | with_reducible refine And.intro c24 ?_ | with_reducible refine bt w24 ?_ | with_reducible refine bf w24 ?_ | with_reducible refine nt w24 ?_ | with_reducible refine nf w24 ?_ | with_reducible refine And.intro w24 ?_)
      exact go _ ((fr.rf.up (o := 80) rfl).up (o := 55) rfl) ht.s
theorem c_as {D kd ix : Nat} (hkd : kd ≤ 7) : ∀ (f k a : Nat) (x : Int32) (n : Nat) (tr : Nat → Int32) (r : Nat) (H : pmT) (K : Int32 → pmT → Prop), k ≤ 7 → a ≤ 3 → cn kd f k a = some n → r + n < 1000 → H.1 55 46 = nI kd → H.1 55 47 = nI ix → TrM tr r H → (∀ H', fr [5546, 8000] H H' → TrM (ev kd (nI ix) f k a x tr r).1 (ev kd (nI ix) f k a x tr r).2.1 H' → K (ev kd (nI ix) f k a x tr r).2.2 H') → pm_R (D + f + 1) (M_as a) [.ref 55, .int (nI k), .int x] H (pm_i K)
  | 0, k, a, x, n, tr, r, H, K, hk, ha, h, hr, h46, h47, ht, kk => by cases h
  | f + 1, k, a, x, n, tr, r, H, K, hk, ha, h, hr, h46, h47, ht, kk => by
    have ih := c_as (D := D) (ix := ix) hkd f
    rcases (show a = 0 ∨ a = 1 ∨ a = 2 ∨ a = 3 by omega) with y | y | y | y <;> subst y
    · rcases (show k = 0 ∨ k = 1 ∨ k = 2 ∨ k = 3 ∨ k = 4 ∨ k = 5 ∨ k = 6 ∨ k = 7 by omega) with y | y | y | y | y | y | y | y <;> subst y
      · exact as_0_0 hkd ih x n tr r H K h hr h46 h47 ht kk
      · exact as_0_1 hkd ih x n tr r H K h hr h46 h47 ht kk
      · exact as_0_2 hkd ih x n tr r H K h hr h46 h47 ht kk
      · exact as_0_3 hkd ih x n tr r H K h hr h46 h47 ht kk
      · exact as_0_4 hkd ih x n tr r H K h hr h46 h47 ht kk
      · exact as_0_5 hkd ih x n tr r H K h hr h46 h47 ht kk
      · exact as_0_6 hkd ih x n tr r H K h hr h46 h47 ht kk
      · exact as_0_7 hkd ih x n tr r H K h hr h46 h47 ht kk
    · rcases (show k = 0 ∨ k = 1 ∨ k = 2 ∨ k = 3 ∨ k = 4 ∨ k = 5 ∨ k = 6 ∨ k = 7 by omega) with y | y | y | y | y | y | y | y <;> subst y
      · exact as_1_0 hkd ih x n tr r H K h hr h46 h47 ht kk
      · exact as_1_1 hkd ih x n tr r H K h hr h46 h47 ht kk
      · exact as_1_2 hkd ih x n tr r H K h hr h46 h47 ht kk
      · exact as_1_3 hkd ih x n tr r H K h hr h46 h47 ht kk
      · exact as_1_4 hkd ih x n tr r H K h hr h46 h47 ht kk
      · exact as_1_5 hkd ih x n tr r H K h hr h46 h47 ht kk
      · exact as_1_6 hkd ih x n tr r H K h hr h46 h47 ht kk
      · exact as_1_7 hkd ih x n tr r H K h hr h46 h47 ht kk
    · rcases (show k = 0 ∨ k = 1 ∨ k = 2 ∨ k = 3 ∨ k = 4 ∨ k = 5 ∨ k = 6 ∨ k = 7 by omega) with y | y | y | y | y | y | y | y <;> subst y
      · exact as_2_0 hkd ih x n tr r H K h hr h46 h47 ht kk
      · exact as_2_1 hkd ih x n tr r H K h hr h46 h47 ht kk
      · exact as_2_2 hkd ih x n tr r H K h hr h46 h47 ht kk
      · exact as_2_3 hkd ih x n tr r H K h hr h46 h47 ht kk
      · exact as_2_4 hkd ih x n tr r H K h hr h46 h47 ht kk
      · exact as_2_5 hkd ih x n tr r H K h hr h46 h47 ht kk
      · exact as_2_6 hkd ih x n tr r H K h hr h46 h47 ht kk
      · exact as_2_7 hkd ih x n tr r H K h hr h46 h47 ht kk
    · rcases (show k = 0 ∨ k = 1 ∨ k = 2 ∨ k = 3 ∨ k = 4 ∨ k = 5 ∨ k = 6 ∨ k = 7 by omega) with y | y | y | y | y | y | y | y <;> subst y
      · exact as_3_0 hkd ih x n tr r H K h hr h46 h47 ht kk
      · exact as_3_1 hkd ih x n tr r H K h hr h46 h47 ht kk
      · exact as_3_2 hkd ih x n tr r H K h hr h46 h47 ht kk
      · exact as_3_3 hkd ih x n tr r H K h hr h46 h47 ht kk
      · exact as_3_4 hkd ih x n tr r H K h hr h46 h47 ht kk
      · exact as_3_5 hkd ih x n tr r H K h hr h46 h47 ht kk
      · exact as_3_6 hkd ih x n tr r H K h hr h46 h47 ht kk
      · exact as_3_7 hkd ih x n tr r H K h hr h46 h47 ht kk
