/-! playings and nights of the reference -/
def MX (hb : Nat → Nat) (L : Law) (H : pmT) : Prop := MHb hb H ∧ HV hb ∧ LawM L H
theorem MHb.fr {hb : Nat → Nat} {S : List Nat} {H H' : pmT} (h : MHb hb H) (a : fr S H H') (g : pm_has S 5600 = false) : MHb hb H' :=
  ⟨(a.1 56 36 g).trans h.1, (a.1 56 37 g).trans h.2.1, (a.1 56 38 g).trans h.2.2.1, (a.1 56 39 g).trans h.2.2.2.1, (a.1 56 40 g).trans h.2.2.2.2⟩
theorem MX.fr {hb : Nat → Nat} {L : Law} {S : List Nat} {H H' : pmT} (h : MX hb L H) (a : fr S H H') (g : (pm_has S 5513 || pm_has S 6300) = false) (g2 : pm_has S 5600 = false) : MX hb L H' := ⟨h.1.fr a g2, h.2.1, h.2.2.fr a g⟩
theorem MR.fb {S R : List Nat} {b b' : Nat} {H H' : pmT} {r : Row} (h : MR H b' r) (a : fb S R b H H') (g : (pm_has S 6500 || (pm_has S 6600 || (pm_has S 5600 || (pm_has S 6700 || pm_has S 6800)))) = false) (g2 : pm_has R 56 = false) (n : b' ≠ b) : MR H' b' r := by
  simp only [Bool.or_eq_false_iff] at g
  exact ⟨(a.1 65 b' g.1 (Or.inr n)).trans h.1, (a.1 66 b' g.2.1 (Or.inr n)).trans h.2.1, (a.1 56 (24 + b') g.2.2.1 (Or.inl g2)).trans h.2.2.1, (a.1 67 b' g.2.2.2.1 (Or.inr n)).trans h.2.2.2.1, (a.1 68 b' g.2.2.2.2 (Or.inr n)).trans h.2.2.2.2⟩
theorem MR.fr {S : List Nat} {b' : Nat} {H H' : pmT} {r : Row} (h : MR H b' r) (a : fr S H H') (g : (pm_has S 6500 || (pm_has S 6600 || (pm_has S 5600 || (pm_has S 6700 || pm_has S 6800)))) = false) : MR H' b' r := by
  simp only [Bool.or_eq_false_iff] at g
  exact ⟨(a.1 65 b' g.1).trans h.1, (a.1 66 b' g.2.1).trans h.2.1, (a.1 56 (24 + b') g.2.2.1).trans h.2.2.1, (a.1 67 b' g.2.2.2.1).trans h.2.2.2.1, (a.1 68 b' g.2.2.2.2).trans h.2.2.2.2⟩
theorem nI_pl (a : Nat) {b : Nat} : (nI a + nI b) = nI (a + b) := nI_add a b
theorem c_comesM {d k b s : Nat} {H : pmT} {K : Int32 → pmT → Prop} {hb : Nat → Nat} {r : Row} (hH : MHb hb H) (hv : HV hb) (hR : MR H b r) (hr : RV k r) (hb12 : b < 12) (hs : s ≤ 1) (kk : K (nI (W_came hb r s)) H) : pm_R d M_Mo_comesRight [.ref 55, .int (nI b), .int (nI s)] H (pm_i K) := by
  obtain ⟨h1, h2, h3, h4, h5⟩ := hR
  obtain ⟨v1, v2, v3, v4, v5⟩ := hr
  obtain ⟨b0, b1, b2, b3, b4⟩ := hH
  obtain ⟨w0, w1, w2, w3, w4⟩ := hv
  refine m_Mo_comesRight _ _ ?_
  have e24 : (24 : Int32) + nI b = nI (24 + b) := nI_add 24 b
  rw [e24, nIc (show b < 2 ^ 31 by omega), nIc (show 24 + b < 2 ^ 31 by omega), h1, h2, h3, b0, b1]
  have hin : vp_in (nI b) 12 := vp_in_nI hb12 (by decide)
  have hin2 : vp_in (nI (24 + b)) 41 := vp_in_nI (by omega) (by decide)
  have eone : ∀ n : Nat, n ≤ 1 → (nI n = (1 : Int32)) = (n = 1) := fun n hn => i_eq n 1 (by omega) (by decide)
  simp only [Int32.zero_add, Int32.add_zero, nI_add]
  unfold W_came W_help at kk
  have fin : ∀ x : Nat, x ≤ 198 → K (nI (if r.2.1 < r.1 + x then 1 else 0)) H → (nI (r.1 + x) ≤ nI r.2.1 → pm_i K (some (.int (0 : Int32))) H) ∧ (¬ nI (r.1 + x) ≤ nI r.2.1 → pm_i K (some (.int (1 : Int32))) H) := by
    intro x hx k2
    rw [i_le _ _ (by omega) (by omega)]
    by_cases q : r.1 + x ≤ r.2.1
    · first | refine bt q ?_ | refine bf q ?_ | refine nt q ?_ | refine nf q ?_
      rw [if_neg (by omega)] at k2
      exact k2
    · first | refine bt q ?_ | refine bf q ?_ | refine nt q ?_ | refine nf q ?_
      rw [if_pos (by omega)] at k2
      exact k2
  have fin0 : K (nI (if r.2.1 < r.1 then 1 else 0)) H → (nI r.1 ≤ nI r.2.1 → pm_i K (some (.int (0 : Int32))) H) ∧ (¬ nI r.1 ≤ nI r.2.1 → pm_i K (some (.int (1 : Int32))) H) := fun k2 => fin 0 (by omega) k2
  by_cases c1 : s = 1
  · first | refine bt ((eone s hs).mpr c1) ?_ | refine bf ((eone s hs).mpr c1) ?_ | refine nt ((eone s hs).mpr c1) ?_ | refine nf ((eone s hs).mpr c1) ?_
    rw [if_pos c1] at kk
    refine ⟨hin2, ?_⟩
    by_cases c2 : r.2.2.1 = 1
    · first | refine bt ((eone _ v3).mpr c2) ?_ | refine bf ((eone _ v3).mpr c2) ?_ | refine nt ((eone _ v3).mpr c2) ?_ | refine nf ((eone _ v3).mpr c2) ?_
      rw [if_pos c2] at kk
      exact ⟨hin, fin _ (by omega) kk⟩
    · first | refine bt (fun z => c2 ((eone _ v3).mp z)) ?_ | refine bf (fun z => c2 ((eone _ v3).mp z)) ?_ | refine nt (fun z => c2 ((eone _ v3).mp z)) ?_ | refine nf (fun z => c2 ((eone _ v3).mp z)) ?_
      rw [if_neg c2] at kk
      exact ⟨hin, fin _ (by omega) kk⟩
  · first | refine bt (fun z => c1 ((eone s hs).mp z)) ?_ | refine bf (fun z => c1 ((eone s hs).mp z)) ?_ | refine nt (fun z => c1 ((eone s hs).mp z)) ?_ | refine nf (fun z => c1 ((eone s hs).mp z)) ?_
    rw [if_neg c1] at kk
    refine ⟨hin2, ?_⟩
    by_cases c2 : r.2.2.1 = 1
    · first | refine bt ((eone _ v3).mpr c2) ?_ | refine bf ((eone _ v3).mpr c2) ?_ | refine nt ((eone _ v3).mpr c2) ?_ | refine nf ((eone _ v3).mpr c2) ?_
      rw [if_pos c2] at kk
      rw [Nat.zero_add] at kk
      exact ⟨hin, fin _ (by omega) kk⟩
    · first | refine bt (fun z => c2 ((eone _ v3).mp z)) ?_ | refine bf (fun z => c2 ((eone _ v3).mp z)) ?_ | refine nt (fun z => c2 ((eone _ v3).mp z)) ?_ | refine nf (fun z => c2 ((eone _ v3).mp z)) ?_
      rw [if_neg c2] at kk
      exact ⟨hin, fin0 kk⟩
abbrev JA : List Nat := [5514, 5515, 5516, 5517, 5518, 6400]
theorem c_addsM {d k b s c : Nat} {H : pmT} {K : Int32 → pmT → Prop} {hb : Nat → Nat} {L : Law} {r : Row} (hX : MX hb L H) (hR : MR H b r) (hr : RV k r) (hk : k < 2 ^ 20) (hb12 : b < 12) (hs : s ≤ 1) (hc : c ≤ 1) (kk : ∀ H', fr JA H H' → K (nI (W_give L r s c)) H') : pm_R (d + 71) M_Mo_addsFor [.ref 55, .int (nI b), .int (nI s), .int (nI c)] H (pm_i K) := by
  obtain ⟨h1, h2, h3, h4, h5⟩ := hR
  obtain ⟨v1, v2, v3, v4, v5⟩ := hr
  have hL := hX.2.2
  refine m_Mo_addsFor _ _ _ ?_
  rw [nIc (show b < 2 ^ 31 by omega), h1, h2, h4]
  rcases (show c = 0 ∨ c = 1 by omega) with ec | ec <;> subst ec
  · first | refine bt (show nI 0 = 0 from rfl) ?_ | refine bf (show nI 0 = 0 from rfl) ?_ | refine nt (show nI 0 = 0 from rfl) ?_ | refine nf (show nI 0 = 0 from rfl) ?_
    refine ⟨vp_in_nI hb12 (by decide), ?_⟩
    have ev : ((((6 : Int32) + ((2 : Int32) * (0 : Int32))) - ((2 : Int32) * nI s)) - nI r.2.2.2.1).toInt = ((6 + 2 * 0 - 2 * s : Nat) : Int) - r.2.2.2.1 := by
      rw [show (6 : Int32) + ((2 : Int32) * (0 : Int32)) = nI (6 + 2 * 0) from rfl, show (2 : Int32) * nI s = nI (2 * s) from pk_mul 2 s, pk_sub (by omega)]
      exact pk_sub_toInt (by omega) (by omega)
    generalize hvv : (((6 : Int32) + ((2 : Int32) * (0 : Int32))) - ((2 : Int32) * nI s)) - nI r.2.2.2.1 = vv at ev
    have i1 : ((1 : Int32) ≤ vv) = (1 ≤ vv.toInt) := propext Int32.le_iff_toInt_le
    have i0 : ((0 : Int32) ≤ vv) = (0 ≤ vv.toInt) := propext Int32.le_iff_toInt_le
    have i99 : (vv ≤ (99 : Int32)) = (vv.toInt ≤ 99) := propext Int32.le_iff_toInt_le
    cases L with
    | none =>
      have e12 : H.1 55 12 < 0 := hL
      have ek : W_give none r s 0 = max 1 (6 + 2 * 0 - (2 * s + r.2.2.2.1)) := rfl
      rw [ek] at kk
      by_cases c1 : 1 ≤ vv.toInt
      · first | refine bt (i1.mpr c1) ?_ | refine bf (i1.mpr c1) ?_ | refine nt (i1.mpr c1) ?_ | refine nf (i1.mpr c1) ?_
        first | refine bt e12 ?_ | refine bf e12 ?_ | refine nt e12 ?_ | refine nf e12 ?_
        first | refine bt (i0.mpr (by omega)) ?_ | refine bf (i0.mpr (by omega)) ?_ | refine nt (i0.mpr (by omega)) ?_ | refine nf (i0.mpr (by omega)) ?_
        first | refine bt (i99.mpr (by omega)) ?_ | refine bf (i99.mpr (by omega)) ?_ | refine nt (i99.mpr (by omega)) ?_ | refine nf (i99.mpr (by omega)) ?_
        have : vv = nI (max 1 (6 + 2 * 0 - (2 * s + r.2.2.2.1))) := by
          apply Int32.toInt_inj.mp
          rw [nI_toInt (by omega)]
          omega
        rw [this]
        exact kk H fr.rf
      · first | refine bt (fun z => c1 (i1.mp z)) ?_ | refine bf (fun z => c1 (i1.mp z)) ?_ | refine nt (fun z => c1 (i1.mp z)) ?_ | refine nf (fun z => c1 (i1.mp z)) ?_
        first | refine bt e12 ?_ | refine bf e12 ?_ | refine nt e12 ?_ | refine nf e12 ?_
        have : (1 : Int32) = nI (max 1 (6 + 2 * 0 - (2 * s + r.2.2.2.1))) := by
          show nI 1 = _
          congr 1
          omega
        rw [this]
        exact kk H fr.rf
    | some f =>
      have e12 : ¬ H.1 55 12 < 0 := by
        obtain ⟨n', t', r', q1, q2, q3⟩ := hL
        rw [q2]
        exact nI_pos (by omega)
      have go : pm_R (d + 70) M_Mo_workOut [.ref 55, .int (0 : Int32), .int (H.1 55 12)] ((pm_up (pm_up (pm_up (pm_up (pm_up (pm_up H.1 64 0 (nI r.1)) 64 1 (nI r.2.1)) 64 2 (0 : Int32)) 64 3 (nI s)) 64 4 (nI r.2.2.1)) 64 5 (nI r.2.2.2.1)), H.2) (pm_i (fun x2 H1 => (0 ≤ x2 → (x2 ≤ (99 : Int32) → pm_i K (some (.int x2)) H1) ∧ (¬ x2 ≤ (99 : Int32) → pm_i K (some (.int (99 : Int32))) H1)) ∧ (¬ 0 ≤ x2 → pm_i K (some (.int (0 : Int32))) H1))) := by
        have hf : fr JA H (pm_up (pm_up (pm_up (pm_up (pm_up (pm_up H.1 64 0 (nI r.1)) 64 1 (nI r.2.1)) 64 2 (0 : Int32)) 64 3 (nI s)) 64 4 (nI r.2.2.1)) 64 5 (nI r.2.2.2.1), H.2) :=
          ((((((fr.rf (S := JA) (H := H)).up (o := 64) (k := 0) (v := nI r.1) rfl).up (o := 64) (k := 1) (v := nI r.2.1) rfl).up (o := 64) (k := 2) (v := (0 : Int32)) rfl).up (o := 64) (k := 3) (v := nI s) rfl).up (o := 64) (k := 4) (v := nI r.2.2.1) rfl).up (o := 64) (k := 5) (v := nI r.2.2.2.1) rfl
        have e5512 : H.1 55 12 = (pm_up (pm_up (pm_up (pm_up (pm_up (pm_up H.1 64 0 (nI r.1)) 64 1 (nI r.2.1)) 64 2 (0 : Int32)) 64 3 (nI s)) 64 4 (nI r.2.2.1)) 64 5 (nI r.2.2.2.1), H.2).1 55 12 := (hf.1 55 12 rfl).symm
        rw [e5512]
        refine c_workM (hL.fr hf rfl) (nm := W_nm r s 0) (fun j hj => ?_) (fun H' hf' => ?_)
        · match j, hj with
          | 0, _ => rfl
          | 1, _ => rfl
          | 2, _ => rfl
          | 3, _ => rfl
          | 4, _ => rfl
          | 5, _ => rfl
        · have k1 := kk H' (hf.tr (hf'.mono rfl))
          have ek : W_give (some f) r s 0 = min 99 (f (W_nm r s 0)).toNatClampNeg := rfl
          rw [ek] at k1
          have ec : (f (W_nm r s 0)).toNatClampNeg = (f (W_nm r s 0)).toInt.toNat := rfl
          generalize f (W_nm r s 0) = x at k1 ec
          by_cases q0 : 0 ≤ x
          · first | refine bt q0 ?_ | refine bf q0 ?_ | refine nt q0 ?_ | refine nf q0 ?_
            rw [Int32.le_iff_toInt_le] at q0
            have z0 : (0 : Int32).toInt = 0 := rfl
            have z99 : (99 : Int32).toInt = 99 := rfl
            by_cases q9 : x ≤ 99
            · first | refine bt q9 ?_ | refine bf q9 ?_ | refine nt q9 ?_ | refine nf q9 ?_
              rw [Int32.le_iff_toInt_le, z99] at q9
              have : x = nI (min 99 x.toNatClampNeg) := by
                apply Int32.toInt_inj.mp
                rw [nI_toInt (by omega)]
                omega
              rw [this]
              exact k1
            · first | refine bt q9 ?_ | refine bf q9 ?_ | refine nt q9 ?_ | refine nf q9 ?_
              rw [Int32.le_iff_toInt_le, z99] at q9
              have : (99 : Int32) = nI (min 99 x.toNatClampNeg) := by
                show nI 99 = _
                congr 1
                omega
              rw [this]
              exact k1
          · first | refine bt q0 ?_ | refine bf q0 ?_ | refine nt q0 ?_ | refine nf q0 ?_
            rw [Int32.le_iff_toInt_le] at q0
            have z0 : (0 : Int32).toInt = 0 := rfl
            have : (0 : Int32) = nI (min 99 x.toNatClampNeg) := by
              show nI 0 = _
              congr 1
              omega
            rw [this]
            exact k1
      have e24 : (24 : Int32) + nI b = nI (24 + b) := nI_add 24 b
      rw [e24, nIc (show 24 + b < 2 ^ 31 by omega), h3]
      have hin2 : vp_in (nI (24 + b)) 41 := vp_in_nI (by omega) (by decide)
      exact ⟨fun _ => ⟨fun z => absurd z e12, fun _ => ⟨hin2, go⟩⟩, fun _ => ⟨fun z => absurd z e12, fun _ => ⟨hin2, go⟩⟩⟩
  · first | refine bt (show ¬ nI 1 = 0 by decide) ?_ | refine bf (show ¬ nI 1 = 0 by decide) ?_ | refine nt (show ¬ nI 1 = 0 by decide) ?_ | refine nf (show ¬ nI 1 = 0 by decide) ?_
    refine ⟨vp_in_nI hb12 (by decide), ?_⟩
    have ev : ((((6 : Int32) + ((2 : Int32) * (1 : Int32))) - ((2 : Int32) * nI s)) - nI r.2.2.2.1).toInt = ((6 + 2 * 1 - 2 * s : Nat) : Int) - r.2.2.2.1 := by
      rw [show (6 : Int32) + ((2 : Int32) * (1 : Int32)) = nI (6 + 2 * 1) from rfl, show (2 : Int32) * nI s = nI (2 * s) from pk_mul 2 s, pk_sub (by omega)]
      exact pk_sub_toInt (by omega) (by omega)
    generalize hvv : (((6 : Int32) + ((2 : Int32) * (1 : Int32))) - ((2 : Int32) * nI s)) - nI r.2.2.2.1 = vv at ev
    have i1 : ((1 : Int32) ≤ vv) = (1 ≤ vv.toInt) := propext Int32.le_iff_toInt_le
    have i0 : ((0 : Int32) ≤ vv) = (0 ≤ vv.toInt) := propext Int32.le_iff_toInt_le
    have i99 : (vv ≤ (99 : Int32)) = (vv.toInt ≤ 99) := propext Int32.le_iff_toInt_le
    cases L with
    | none =>
      have e12 : H.1 55 12 < 0 := hL
      have ek : W_give none r s 1 = max 1 (6 + 2 * 1 - (2 * s + r.2.2.2.1)) := rfl
      rw [ek] at kk
      by_cases c1 : 1 ≤ vv.toInt
      · first | refine bt (i1.mpr c1) ?_ | refine bf (i1.mpr c1) ?_ | refine nt (i1.mpr c1) ?_ | refine nf (i1.mpr c1) ?_
        first | refine bt e12 ?_ | refine bf e12 ?_ | refine nt e12 ?_ | refine nf e12 ?_
        first | refine bt (i0.mpr (by omega)) ?_ | refine bf (i0.mpr (by omega)) ?_ | refine nt (i0.mpr (by omega)) ?_ | refine nf (i0.mpr (by omega)) ?_
        first | refine bt (i99.mpr (by omega)) ?_ | refine bf (i99.mpr (by omega)) ?_ | refine nt (i99.mpr (by omega)) ?_ | refine nf (i99.mpr (by omega)) ?_
        have : vv = nI (max 1 (6 + 2 * 1 - (2 * s + r.2.2.2.1))) := by
          apply Int32.toInt_inj.mp
          rw [nI_toInt (by omega)]
          omega
        rw [this]
        exact kk H fr.rf
      · first | refine bt (fun z => c1 (i1.mp z)) ?_ | refine bf (fun z => c1 (i1.mp z)) ?_ | refine nt (fun z => c1 (i1.mp z)) ?_ | refine nf (fun z => c1 (i1.mp z)) ?_
        first | refine bt e12 ?_ | refine bf e12 ?_ | refine nt e12 ?_ | refine nf e12 ?_
        have : (1 : Int32) = nI (max 1 (6 + 2 * 1 - (2 * s + r.2.2.2.1))) := by
          show nI 1 = _
          congr 1
          omega
        rw [this]
        exact kk H fr.rf
    | some f =>
      have e12 : ¬ H.1 55 12 < 0 := by
        obtain ⟨n', t', r', q1, q2, q3⟩ := hL
        rw [q2]
        exact nI_pos (by omega)
      have go : pm_R (d + 70) M_Mo_workOut [.ref 55, .int (0 : Int32), .int (H.1 55 12)] ((pm_up (pm_up (pm_up (pm_up (pm_up (pm_up H.1 64 0 (nI r.1)) 64 1 (nI r.2.1)) 64 2 (1 : Int32)) 64 3 (nI s)) 64 4 (nI r.2.2.1)) 64 5 (nI r.2.2.2.1)), H.2) (pm_i (fun x2 H1 => (0 ≤ x2 → (x2 ≤ (99 : Int32) → pm_i K (some (.int x2)) H1) ∧ (¬ x2 ≤ (99 : Int32) → pm_i K (some (.int (99 : Int32))) H1)) ∧ (¬ 0 ≤ x2 → pm_i K (some (.int (0 : Int32))) H1))) := by
        have hf : fr JA H (pm_up (pm_up (pm_up (pm_up (pm_up (pm_up H.1 64 0 (nI r.1)) 64 1 (nI r.2.1)) 64 2 (1 : Int32)) 64 3 (nI s)) 64 4 (nI r.2.2.1)) 64 5 (nI r.2.2.2.1), H.2) :=
          ((((((fr.rf (S := JA) (H := H)).up (o := 64) (k := 0) (v := nI r.1) rfl).up (o := 64) (k := 1) (v := nI r.2.1) rfl).up (o := 64) (k := 2) (v := (1 : Int32)) rfl).up (o := 64) (k := 3) (v := nI s) rfl).up (o := 64) (k := 4) (v := nI r.2.2.1) rfl).up (o := 64) (k := 5) (v := nI r.2.2.2.1) rfl
        have e5512 : H.1 55 12 = (pm_up (pm_up (pm_up (pm_up (pm_up (pm_up H.1 64 0 (nI r.1)) 64 1 (nI r.2.1)) 64 2 (1 : Int32)) 64 3 (nI s)) 64 4 (nI r.2.2.1)) 64 5 (nI r.2.2.2.1), H.2).1 55 12 := (hf.1 55 12 rfl).symm
        rw [e5512]
        refine c_workM (hL.fr hf rfl) (nm := W_nm r s 1) (fun j hj => ?_) (fun H' hf' => ?_)
        · match j, hj with
          | 0, _ => rfl
          | 1, _ => rfl
          | 2, _ => rfl
          | 3, _ => rfl
          | 4, _ => rfl
          | 5, _ => rfl
        · have k1 := kk H' (hf.tr (hf'.mono rfl))
          have ek : W_give (some f) r s 1 = min 99 (f (W_nm r s 1)).toNatClampNeg := rfl
          rw [ek] at k1
          have ec : (f (W_nm r s 1)).toNatClampNeg = (f (W_nm r s 1)).toInt.toNat := rfl
          generalize f (W_nm r s 1) = x at k1 ec
          by_cases q0 : 0 ≤ x
          · first | refine bt q0 ?_ | refine bf q0 ?_ | refine nt q0 ?_ | refine nf q0 ?_
            rw [Int32.le_iff_toInt_le] at q0
            have z0 : (0 : Int32).toInt = 0 := rfl
            have z99 : (99 : Int32).toInt = 99 := rfl
            by_cases q9 : x ≤ 99
            · first | refine bt q9 ?_ | refine bf q9 ?_ | refine nt q9 ?_ | refine nf q9 ?_
              rw [Int32.le_iff_toInt_le, z99] at q9
              have : x = nI (min 99 x.toNatClampNeg) := by
                apply Int32.toInt_inj.mp
                rw [nI_toInt (by omega)]
                omega
              rw [this]
              exact k1
            · first | refine bt q9 ?_ | refine bf q9 ?_ | refine nt q9 ?_ | refine nf q9 ?_
              rw [Int32.le_iff_toInt_le, z99] at q9
              have : (99 : Int32) = nI (min 99 x.toNatClampNeg) := by
                show nI 99 = _
                congr 1
                omega
              rw [this]
              exact k1
          · first | refine bt q0 ?_ | refine bf q0 ?_ | refine nt q0 ?_ | refine nf q0 ?_
            rw [Int32.le_iff_toInt_le] at q0
            have z0 : (0 : Int32).toInt = 0 := rfl
            have : (0 : Int32) = nI (min 99 x.toNatClampNeg) := by
              show nI 0 = _
              congr 1
              omega
            rw [this]
            exact k1
      have e24 : (24 : Int32) + nI b = nI (24 + b) := nI_add 24 b
      rw [e24, nIc (show 24 + b < 2 ^ 31 by omega), h3]
      have hin2 : vp_in (nI (24 + b)) 41 := vp_in_nI (by omega) (by decide)
      exact ⟨fun _ => ⟨fun z => absurd z e12, fun _ => ⟨hin2, go⟩⟩, fun _ => ⟨fun z => absurd z e12, fun _ => ⟨hin2, go⟩⟩⟩
theorem c_gainsM {d k b c v : Nat} {H : pmT} {K : pmT → Prop} {r : Row} (hR : MR H b r) (hr : RV k r) (hb12 : b < 12) (hc : c ≤ 1) (hv : v ≤ 999) (kk : ∀ H', fb [] [65, 66] b H H' → MR H' b (W_learn r c v) → K H') : pm_R d M_Mo_gains [.ref 55, .int (nI b), .int (nI c), .int (nI v)] H (pm_v K) := by
  obtain ⟨h1, h2, h3, h4, h5⟩ := hR
  obtain ⟨v1, v2, v3, v4, v5⟩ := hr
  refine m_Mo_gains _ _ _ ?_
  rw [nIc (by omega), h1, h2]
  have hin : vp_in (nI b) 12 := vp_in_nI hb12 (by decide)
  have ez : (nI c = 0) = (c = 0) := i_eq c 0 (by omega) (by decide)
  have e9 : ∀ x : Nat, x ≤ 999 → (nI x + nI v ≤ (999 : Int32)) = (x + v ≤ 999) := fun x hx => by rw [nI_add]; exact i_le _ 999 (by omega) (by decide)
  rw [ez, e9 _ v1, e9 _ v2, nI_add, nI_add]
  have u0 : ∀ (o : Nat) (x : Int32), pm_up H.1 o b x o b = x := fun o x => by rw [pm_up_self]; exact pk_us
  have emin : ∀ x : Nat, (x ≤ 999 → nI x = nI (min 999 x)) ∧ (¬ x ≤ 999 → (999 : Int32) = nI (min 999 x)) := fun x => ⟨fun h => by congr 1; omega, fun h => by show nI 999 = _; congr 1; omega⟩
  unfold W_learn at kk
  by_cases c1 : c = 1
  · first | refine bt (show ¬ c = 0 by omega) ?_ | refine bf (show ¬ c = 0 by omega) ?_ | refine nt (show ¬ c = 0 by omega) ?_ | refine nf (show ¬ c = 0 by omega) ?_
    rw [if_pos c1] at kk
    refine ⟨hin, ?_⟩
    by_cases c9 : r.1 + v ≤ 999
    · first | refine bt c9 ?_ | refine bf c9 ?_ | refine nt c9 ?_ | refine nf c9 ?_
      rw [(emin _).1 c9]
      exact kk _ (fb.upR fb.rf rfl) ⟨u0 65 _, h2, h3, h4, h5⟩
    · first | refine bt c9 ?_ | refine bf c9 ?_ | refine nt c9 ?_ | refine nf c9 ?_
      rw [(emin _).2 c9]
      exact kk _ (fb.upR fb.rf rfl) ⟨u0 65 _, h2, h3, h4, h5⟩
  · first | refine bt (show c = 0 by omega) ?_ | refine bf (show c = 0 by omega) ?_ | refine nt (show c = 0 by omega) ?_ | refine nf (show c = 0 by omega) ?_
    rw [if_neg c1] at kk
    refine ⟨hin, ?_⟩
    by_cases c9 : r.2.1 + v ≤ 999
    · first | refine bt c9 ?_ | refine bf c9 ?_ | refine nt c9 ?_ | refine nf c9 ?_
      rw [(emin _).1 c9]
      exact kk _ (fb.upR fb.rf rfl) ⟨h1, u0 66 _, h3, h4, h5⟩
    · first | refine bt c9 ?_ | refine bf c9 ?_ | refine nt c9 ?_ | refine nf c9 ?_
      rw [(emin _).2 c9]
      exact kk _ (fb.upR fb.rf rfl) ⟨h1, u0 66 _, h3, h4, h5⟩
theorem c_playsM {d k b s : Nat} {H : pmT} {K : Int32 → pmT → Prop} {hb : Nat → Nat} {L : Law} {r : Row} (hX : MX hb L H) (hR : MR H b r) (hr : RV k r) (hk : k < 2 ^ 20) (hb12 : b < 12) (hs : s ≤ 1) (kk : ∀ H', fb JA [65, 66, 67, 68] b H H' → MR H' b (W_play hb L r s) → K (nI (W_came hb r s)) H') : pm_R (d + 72) M_Mo_plays [.ref 55, .int (nI b), .int (nI s)] H (pm_i K) := by
  refine m_Mo_plays _ _ ?_
  have hcl := W_came_le hb r s
  refine c_comesM hX.1 hX.2.1 hR hr hb12 hs ?_
  refine c_addsM hX hR hr hk hb12 hs hcl (fun H1 f1 => ?_)
  have hR1 : MR H1 b r := hR.fr f1 rfl
  refine c_gainsM hR1 hr hb12 hcl (Nat.le_trans (W_give_le L r s _ hcl) (by decide)) (fun H2 f2 hR3 => ?_)
  have hr2 := RV_learn hr (W_came hb r s) (W_give L r s (W_came hb r s))
  have f12 : fb JA [65, 66, 67, 68] b H H2 := (f1.fb).tr (f2.mono rfl rfl)
  unfold W_play at kk
  generalize W_learn r (W_came hb r s) (W_give L r s (W_came hb r s)) = r' at hR3 hr2 kk
  generalize W_came hb r s = c at hcl kk
  obtain ⟨g1, g2, g3, g4, g5⟩ := hR3
  obtain ⟨v1, v2, v3, v4, v5⟩ := hr2
  rw [nIc (show b < 2 ^ 31 by omega), g4, g5]
  refine ⟨vp_in_nI hb12 (by decide), ?_⟩
  have ez : (nI c = 0) = (c = 0) := i_eq c 0 (by omega) (by decide)
  have ec01 : nI c = 0 ∨ nI c = 1 := by
    rcases (show c = 0 ∨ c = 1 by omega) with e | e <;> rw [e]
    · exact Or.inl rfl
    · exact Or.inr rfl
  have u0 : ∀ (h : Nat → Nat → Int32) (o : Nat) (x : Int32), pm_up h o b x o b = x := fun h o x => by rw [pm_up_self]; exact pk_us
  have ep : nI r'.2.2.2.1 + (1 : Int32) = nI (r'.2.2.2.1 + 1) := nI_1 _
  have fin : ∀ x : Int32, nI r'.2.2.2.2 + x = nI (r'.2.2.2.2 + c) → (nI c = 0 ∨ nI c = 1) ∧ pm_i K (some (.int (nI c))) (pm_up (pm_up H2.1 67 b (nI r'.2.2.2.1 + (1 : Int32))) 68 b (nI r'.2.2.2.2 + x), H2.2) := by
    intro x ex
    rw [ex, ep]
    refine ⟨ec01, kk _ ((f12.upR (o := 67) rfl).upR (o := 68) rfl) ⟨g1, g2, g3, ?_, ?_⟩⟩
    · show pm_up H2.1 67 b _ 67 b = _
      rw [u0]; rfl
    · show pm_up _ 68 b _ 68 b = _
      rw [u0]; rfl
  by_cases c0 : c = 0
  · first | refine bt (ez.mpr c0) ?_ | refine bf (ez.mpr c0) ?_ | refine nt (ez.mpr c0) ?_ | refine nf (ez.mpr c0) ?_
    exact fin 0 (by rw [c0, Int32.add_zero]; rfl)
  · first | refine bt (fun z => c0 (ez.mp z)) ?_ | refine bf (fun z => c0 (ez.mp z)) ?_ | refine nt (fun z => c0 (ez.mp z)) ?_ | refine nf (fun z => c0 (ez.mp z)) ?_
    exact fin 1 (by rw [show c = 1 by omega]; exact nI_1 _)
theorem c_nightM {d k b f : Nat} {H : pmT} {K : pmT → Prop} {hb : Nat → Nat} {r : Row} (hH : MHb hb H) (hv : HV hb) (ef : H.1 55 23 = nI f) (hR : MR H b r) (hr : RV k r) (hk : k < 2 ^ 20) (hb12 : b < 12) (hf : f ≤ 12) (kk : ∀ H', fb [] [65, 66, 67, 68] b H H' → MR H' b (W_sleep hb r f) → K H') : pm_R d M_Mo_nightOf [.ref 55, .int (nI b)] H (pm_v K) := by
  obtain ⟨h1, h2, h3, h4, h5⟩ := hR
  obtain ⟨v1, v2, v3, v4, v5⟩ := hr
  obtain ⟨b0, b1, b2, b3, b4⟩ := hH
  obtain ⟨w0, w1, w2, w3, w4⟩ := hv
  refine m_Mo_nightOf _ ?_
  rw [nIc (by omega), h1, h2, h5, b3, ef]
  refine ⟨vp_in_nI hb12 (by decide), ?_⟩
  have m1 : r.2.1 * f ≤ 999 * 12 := Nat.mul_le_mul v2 hf
  have m3 : r.2.1 * f ≤ r.2.1 * 12 := Nat.mul_le_mul_left _ hf
  have m2 : hb 3 * r.2.2.2.2 ≤ 9 * 2 ^ 20 := Nat.mul_le_mul w3 (by omega)
  have n1 : r.1 * f ≤ 999 * 12 := Nat.mul_le_mul v1 hf
  have n3 : r.1 * f ≤ r.1 * 12 := Nat.mul_le_mul_left _ hf
  have er : nI r.1 - nI r.1 * nI f / (12 : Int32) = nI (W_right r f) := by
    rw [pk_mul, show (12 : Int32) = nI 12 from rfl, pk_div (by omega) (by decide) (by decide), pk_sub (by omega)]
    rfl
  have ew : upd (H.1 66) b (nI r.2.1 - nI r.2.1 * nI f / (12 : Int32)) b + nI (hb 3) * nI r.2.2.2.2 / (2 : Int32) = nI (r.2.1 - r.2.1 * f / 12 + hb 3 * r.2.2.2.2 / 2) := by
    rw [pk_us, pk_mul, pk_mul, show (12 : Int32) = nI 12 from rfl, show (2 : Int32) = nI 2 from rfl, pk_div (by omega) (by decide) (by decide), pk_div (by omega) (by decide) (by decide), pk_sub (by omega), nI_add]
  rw [er, ew, show (nI (r.2.1 - r.2.1 * f / 12 + hb 3 * r.2.2.2.2 / 2) ≤ (999 : Int32)) = (r.2.1 - r.2.1 * f / 12 + hb 3 * r.2.2.2.2 / 2 ≤ 999) from i_le _ 999 (by omega) (by decide)]
  have u0 : ∀ (h : Nat → Nat → Int32) (o : Nat) (x : Int32), pm_up h o b x o b = x := fun h o x => by rw [pm_up_self]; exact pk_us
  have fin : ∀ x : Int32, x = nI (W_wrong hb r f) → pm_v K none (pm_up (pm_up (pm_up (pm_up (pm_up H.1 65 b (nI (W_right r f))) 66 b (nI r.2.1 - nI r.2.1 * nI f / (12 : Int32))) 66 b x) 67 b (0 : Int32)) 68 b (0 : Int32), H.2) := by
    intro x ex
    refine kk _ (((((fb.rf.upR (o := 65) rfl).upR (o := 66) rfl).upR (o := 66) rfl).upR (o := 67) rfl).upR (o := 68) rfl) ⟨?_, ?_, h3, ?_, ?_⟩
    · exact u0 _ 65 _
    · exact (u0 _ 66 _).trans ex
    · exact u0 _ 67 _
    · exact u0 _ 68 _
  by_cases c9 : r.2.1 - r.2.1 * f / 12 + hb 3 * r.2.2.2.2 / 2 ≤ 999
  · first | refine bt c9 ?_ | refine bf c9 ?_ | refine nt c9 ?_ | refine nf c9 ?_
    exact fin _ (by unfold W_wrong; congr 1; omega)
  · first | refine bt c9 ?_ | refine bf c9 ?_ | refine nt c9 ?_ | refine nf c9 ?_
    exact fin 999 (by unfold W_wrong; show nI 999 = _; congr 1; omega)
/-! bits counted, lessons in thought -/
theorem nI_and (a b : Nat) : nI a &&& nI b = nI (a &&& b) := by
  apply Int32.toBitVec_inj.mp
  show BitVec.ofNat 32 a &&& BitVec.ofNat 32 b = BitVec.ofNat 32 (a &&& b)
  exact (BitVec.ofNat_and).symm
def kern : Nat → Nat → Nat → Option Nat
  | 0, c, v => if v = 0 then some c else none
  | m + 1, c, v => if v = 0 then some c else kern m (c + 1) (v &&& (v - 1))
set_option maxRecDepth 100000 in
theorem kern_ok : ∀ v, v < 4096 → kern 12 0 v = some (W_pop v) := by decide +kernel
theorem lp_bitsM {d R : Nat} {H : pmT} {K : Int32 → pmT → Prop} (kk : K (nI R) H) : ∀ (m c v : Nat), v < 4096 → kern m c v = some R → pm_RW none d M_Mo_bitsOf (pm_i K) 4 [(1, .int (nI c)), (2, .int (nI v))] [] H
  | 0, c, v, hv, e => by
    unfold kern at e
    refine b_Mo_bitsOf_4 _ _ ?_
    by_cases h : v = 0
    · rw [if_pos h] at e
      cases e
      subst h
      first | refine bt (show nI 0 = 0 from rfl) ?_ | refine bf (show nI 0 = 0 from rfl) ?_ | refine nt (show nI 0 = 0 from rfl) ?_ | refine nf (show nI 0 = 0 from rfl) ?_
      exact kk
    · rw [if_neg h] at e; cases e
  | m + 1, c, v, hv, e => by
    unfold kern at e
    refine b_Mo_bitsOf_4 _ _ ?_
    by_cases h : v = 0
    · rw [if_pos h] at e
      cases e
      subst h
      first | refine bt (show nI 0 = 0 from rfl) ?_ | refine bf (show nI 0 = 0 from rfl) ?_ | refine nt (show nI 0 = 0 from rfl) ?_ | refine nf (show nI 0 = 0 from rfl) ?_
      exact kk
    · rw [if_neg h] at e
      first | refine bt (nI_ne0 (show 0 < v by omega) (by omega)) ?_ | refine bf (nI_ne0 (show 0 < v by omega) (by omega)) ?_ | refine nt (nI_ne0 (show 0 < v by omega) (by omega)) ?_ | refine nf (nI_ne0 (show 0 < v by omega) (by omega)) ?_
      rw [show nI c + (1 : Int32) = nI (c + 1) from nI_1 c, i_s1 (by omega), nI_and]
      have hle : v &&& (v - 1) ≤ v := Nat.and_le_left
      exact lp_bitsM kk m (c + 1) _ (by omega) e
theorem c_bitsM {d v : Nat} {H : pmT} {K : Int32 → pmT → Prop} (hv : v < 4096) (kk : K (nI (W_pop v)) H) : pm_R d M_Mo_bitsOf [.int (nI v)] H (pm_i K) := by
  refine m_Mo_bitsOf _ ?_
  exact lp_bitsM kk 12 0 v hv (kern_ok v hv)
theorem lp_setM {d n : Nat} {T : Nat → Row} {k0 : Nat} {K : Int32 → pmT → Prop} {H : pmT} (hn : H.1 55 6 = nI n) (hn12 : n ≤ 12) (hT : ∀ b, b < n → MR H b (T b)) (hV : ∀ b, b < n → RV k0 (T b)) (kk : K (nI (W_set (W_isR T) n)) H) : ∀ m b, b + m = n → pm_RW none (d + 1) M_Mo_rightSet (pm_i K) 4 [(0, .ref 55), (1, .int (nI (W_set (W_isR T) b))), (2, .int (nI b))] [] H
  | 0, b, hb => by
    refine b_Mo_rightSet_4 _ _ ?_
    have e : b = n := by omega
    rw [hn, i_le _ _ (by omega) (by omega)]
    first | refine bt (show n ≤ b by omega) ?_ | refine bf (show n ≤ b by omega) ?_ | refine nt (show n ≤ b by omega) ?_ | refine nf (show n ≤ b by omega) ?_
    rw [e]
    exact kk
  | m + 1, b, hb => by
    have ih := lp_setM (d := d) hn hn12 hT hV kk m
    refine b_Mo_rightSet_4 _ _ ?_
    obtain ⟨h1, h2, h3⟩ := hT b (by omega)
    obtain ⟨v1, v2, v3⟩ := hV b (by omega)
    rw [hn, i_le _ _ (by omega) (by omega), nIc (by omega), h1, h2, i_le _ _ (by omega) (by omega)]
    have ea : nI b + (1 : Int32) = nI (b + 1) := nI_1 b
    first | refine bt (show ¬ n ≤ b by omega) ?_ | refine bf (show ¬ n ≤ b by omega) ?_ | refine nt (show ¬ n ≤ b by omega) ?_ | refine nf (show ¬ n ≤ b by omega) ?_
    refine ⟨vp_in_nI (by omega) (by decide), ?_⟩
    rw [ea, one_shl b (by omega), set_or (W_set_lt _ b), show nI (W_set (W_isR T) b) ||| (0 : Int32) = nI (W_set (W_isR T) b) from (nI_or _ 0).trans (by rw [Nat.or_zero])]
    have i1 := ih (b + 1) (by omega)
    unfold W_set at i1
    by_cases c : (T b).2.1 < (T b).1
    · rw [if_pos (show W_isR T b = true from decide_eq_true c)] at i1
      exact ⟨fun z => absurd c (by omega), fun _ => i1⟩
    · rw [if_neg (show ¬ W_isR T b = true from fun z => c (of_decide_eq_true z)), Nat.add_zero] at i1
      exact ⟨fun _ => i1, fun z => absurd (show (T b).1 ≤ (T b).2.1 by omega) z⟩
theorem c_setM {d n : Nat} {T : Nat → Row} {k0 : Nat} {K : Int32 → pmT → Prop} {H : pmT} (hn : H.1 55 6 = nI n) (hn12 : n ≤ 12) (hT : ∀ b, b < n → MR H b (T b)) (hV : ∀ b, b < n → RV k0 (T b)) (kk : K (nI (W_set (W_isR T) n)) H) : pm_R (d + 1) M_Mo_rightSet [.ref 55] H (pm_i K) := by
  refine m_Mo_rightSet ?_
  exact lp_setM hn hn12 hT hV kk n 0 (by omega)
theorem lp_slipM {d n : Nat} {T : Nat → Row} {k0 : Nat} {K : Int32 → pmT → Prop} {H : pmT} (hn : H.1 55 6 = nI n) (hn12 : n ≤ 12) (hT : ∀ b, b < n → MR H b (T b)) (hV : ∀ b, b < n → RV k0 (T b)) : ∀ m b, b + m = n → K (W_slip T m b) H → pm_RW none (d + 1) M_Mo_slip (pm_i K) 2 [(0, .ref 55), (1, .int (nI b))] [] H
  | 0, b, hb, kk => by
    refine b_Mo_slip_2 _ ?_
    rw [hn, i_le _ _ (by omega) (by omega)]
    first | refine bt (show n ≤ b by omega) ?_ | refine bf (show n ≤ b by omega) ?_ | refine nt (show n ≤ b by omega) ?_ | refine nf (show n ≤ b by omega) ?_
    exact kk
  | m + 1, b, hb, kk => by
    have ih := lp_slipM (d := d) (K := K) hn hn12 hT hV m
    refine b_Mo_slip_2 _ ?_
    obtain ⟨h1, h2, h3⟩ := hT b (by omega)
    obtain ⟨v1, v2, v3⟩ := hV b (by omega)
    rw [hn, i_le _ _ (by omega) (by omega), nIc (by omega), h1, h2, i_le _ _ (by omega) (by omega)]
    have ea : nI b + (1 : Int32) = nI (b + 1) := nI_1 b
    first | refine bt (show ¬ n ≤ b by omega) ?_ | refine bf (show ¬ n ≤ b by omega) ?_ | refine nt (show ¬ n ≤ b by omega) ?_ | refine nf (show ¬ n ≤ b by omega) ?_
    refine ⟨vp_in_nI (by omega) (by decide), ?_⟩
    rw [ea]
    unfold W_slip at kk
    by_cases c : (T b).2.1 < (T b).1
    · rw [if_pos c] at kk
      exact ⟨fun z => absurd c (by omega), fun _ => ih (b + 1) (by omega) kk⟩
    · rw [if_neg c] at kk
      exact ⟨fun _ => kk, fun z => absurd (show (T b).1 ≤ (T b).2.1 by omega) z⟩
theorem c_slipM {d n : Nat} {T : Nat → Row} {k0 : Nat} {K : Int32 → pmT → Prop} {H : pmT} (hn : H.1 55 6 = nI n) (hn12 : n ≤ 12) (hT : ∀ b, b < n → MR H b (T b)) (hV : ∀ b, b < n → RV k0 (T b)) (kk : K (W_slip T n 0) H) : pm_R (d + 1) M_Mo_slip [.ref 55] H (pm_i K) := by
  refine m_Mo_slip ?_
  exact lp_slipM hn hn12 hT hV n 0 (by omega) kk
