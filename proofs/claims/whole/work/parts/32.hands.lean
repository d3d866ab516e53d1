/-! playings and nights of the class, in deed and in thought -/
def CX (hb : Nat → Nat) (L : Law) (H : pmT) : Prop := CHb hb H ∧ HV hb ∧ LawC L H
theorem LawC.fr {L : Law} {S : List Nat} {H H' : pmT} (h : LawC L H) (a : fr S H H') (g : (pm_has S 1407 || (pm_has S 1600 || pm_has S 1700)) = false) : LawC L H' := by
  simp only [Bool.or_eq_false_iff] at g
  obtain ⟨h1, h2⟩ := h
  have e0 : H'.2.2.2 = H.2.2.2 := by rw [a.2]
  have e6 : H'.1 14 6 = H.1 14 6 := a.1 14 6 g.1
  have ec : H'.1 H'.2.2.2 = H.1 H.2.2.2 := by
    rw [e0]
    funext j
    rcases h1 with e | e <;> rw [e]
    · exact a.1 16 j g.2.1
    · exact a.1 17 j g.2.2
  refine ⟨by rw [e0]; exact h1, ?_⟩
  cases L with
  | none => exact e6.trans h2
  | some f =>
    obtain ⟨len, q1, q2, q3, q4, q5⟩ := h2
    exact ⟨len, q1, q2, e6.trans q3, by rw [ec]; exact q4, by rw [ec]; exact q5⟩
theorem CHb.fr {hb : Nat → Nat} {S : List Nat} {H H' : pmT} (h : CHb hb H) (a : fr S H H') (g : pm_has S 2000 = false) : CHb hb H' :=
  ⟨(a.1 20 0 g).trans h.1, (a.1 20 1 g).trans h.2.1, (a.1 20 2 g).trans h.2.2.1, (a.1 20 3 g).trans h.2.2.2.1, (a.1 20 4 g).trans h.2.2.2.2⟩
theorem CX.fr {hb : Nat → Nat} {L : Law} {S : List Nat} {H H' : pmT} (h : CX hb L H) (a : fr S H H') (g : (pm_has S 1407 || (pm_has S 1600 || pm_has S 1700)) = false) (g2 : pm_has S 2000 = false) : CX hb L H' := ⟨h.1.fr a g2, h.2.1, h.2.2.fr a g⟩
theorem i_lt (a b : Nat) (ha : a < 2 ^ 31) (hb : b < 2 ^ 31) : (nI a < nI b) = (a < b) := propext (nI_ltI ha hb)
theorem i_eq (a b : Nat) (ha : a < 2 ^ 31) (hb : b < 2 ^ 31) : (nI a = nI b) = (a = b) := propext (nI_eq ha hb)
theorem give_none {c s n : Nat} (hc : c ≤ 1) (hs : s ≤ 1) (hn : n < 2 ^ 20) : pm_max (1 : Int32) ((6 : Int32) + (2 : Int32) * nI c - (2 : Int32) * nI s - nI n) = nI (max 1 (6 + 2 * c - (2 * s + n))) := by
  have e1 : (6 : Int32) + (2 : Int32) * nI c = nI (6 + 2 * c) := by
    rw [show (2 : Int32) = nI 2 from rfl, pk_mul, show (6 : Int32) = nI 6 from rfl, nI_add]
  have e2 : (2 : Int32) * nI s = nI (2 * s) := by rw [show (2 : Int32) = nI 2 from rfl, pk_mul]
  rw [e1, e2, pk_sub (by omega)]
  have ht := pk_sub_toInt (a := 6 + 2 * c - 2 * s) (b := n) (by omega) (by omega)
  have h1 : (1 : Int32).toInt = 1 := rfl
  unfold pm_max
  split
  · rename_i h
    rw [Int32.lt_iff_toInt_lt, ht, h1] at h
    rw [pk_sub (by omega)]
    congr 1
    omega
  · rename_i h
    rw [Int32.lt_iff_toInt_lt, ht, h1] at h
    show nI 1 = _
    congr 1
    omega
theorem give_some (x : Int32) : pm_max (0 : Int32) (pm_min (99 : Int32) x) = nI (min 99 x.toNatClampNeg) := by
  have h99 : (99 : Int32).toInt = 99 := rfl
  have h0 : (0 : Int32).toInt = 0 := rfl
  have hc : x.toNatClampNeg = x.toInt.toNat := rfl
  unfold pm_max pm_min
  by_cases h : x < 99
  · rw [if_pos h]
    rw [Int32.lt_iff_toInt_lt, h99] at h
    by_cases g : 0 < x
    · rw [if_pos g]
      rw [Int32.lt_iff_toInt_lt, h0] at g
      apply Int32.toInt_inj.mp
      rw [nI_toInt (by omega), hc]
      omega
    · rw [if_neg g]
      rw [Int32.lt_iff_toInt_lt, h0] at g
      show nI 0 = _
      congr 1
      omega
  · rw [if_neg h]
    rw [Int32.lt_iff_toInt_lt, h99] at h
    rw [if_pos (by decide)]
    show nI 99 = _
    congr 1
    omega
theorem c_comes_now {d k b s : Nat} {H : pmT} {K : Int32 → pmT → Prop} {hb : Nat → Nat} {r : Row} (hH : CHb hb H) (hv : HV hb) (hR : NR H b r) (hr : RV k r) (hb12 : b < 12) (hs : s ≤ 1) (kk : K (nI (W_came hb r s)) H) : pm_R d M_Pr_comes [.ref 1, .ref 2, .int (nI b), .int (nI s)] H (pm_i K) := by
  obtain ⟨h1, h2, h3, h4, h5⟩ := hR
  obtain ⟨v1, v2, v3, v4, v5⟩ := hr
  obtain ⟨b0, b1, b2, b3, b4⟩ := hH
  obtain ⟨w0, w1, w2, w3, w4⟩ := hv
  refine m_Pr_comes_1_2 _ _ ?_
  rw [nIc (by omega), h1, h2, h3, b0, b1]
  have hin : vp_in (nI b) 12 := vp_in_nI hb12 (by decide)
  have eone : ∀ n : Nat, n ≤ 1 → (nI n = (1 : Int32)) = (n = 1) := fun n hn => i_eq n 1 (by omega) (by decide)
  simp only [Int32.zero_add, Int32.add_zero, nI_add]
  unfold W_came W_help at kk
  have fin : ∀ x : Nat, x ≤ 198 → K (nI (if r.2.1 < r.1 + x then 1 else 0)) H → (nI (r.1 + x) ≤ nI r.2.1 → pm_i K (some (.int (0 : Int32))) H) ∧ (¬ nI (r.1 + x) ≤ nI r.2.1 → pm_i K (some (.int (1 : Int32))) H) := by
    intro x hx k2
    rw [i_le _ _ (by omega) (by omega)]
    by_cases q : r.1 + x ≤ r.2.1
    · first | refine bt q ?_ | refine bf q ?_ | refine nt q ?_ | refine nf q ?_
      rw [if_neg (by omega)] at k2
      exact k2
    · first | refine bt q ?_ | refine bf q ?_ | refine nt q ?_ | refine nf q ?_
      rw [if_pos (by omega)] at k2
      exact k2
  have fin0 : K (nI (if r.2.1 < r.1 then 1 else 0)) H → (nI r.1 ≤ nI r.2.1 → pm_i K (some (.int (0 : Int32))) H) ∧ (¬ nI r.1 ≤ nI r.2.1 → pm_i K (some (.int (1 : Int32))) H) := fun k2 => fin 0 (by omega) k2
  by_cases c1 : s = 1
  · first | refine bt ((eone s hs).mpr c1) ?_ | refine bf ((eone s hs).mpr c1) ?_ | refine nt ((eone s hs).mpr c1) ?_ | refine nf ((eone s hs).mpr c1) ?_
    rw [if_pos c1] at kk
    refine ⟨hin, ?_⟩
    by_cases c2 : r.2.2.1 = 1
    · first | refine bt ((eone _ v3).mpr c2) ?_ | refine bf ((eone _ v3).mpr c2) ?_ | refine nt ((eone _ v3).mpr c2) ?_ | refine nf ((eone _ v3).mpr c2) ?_
      rw [if_pos c2] at kk
      exact fin _ (by omega) kk
    · first | refine bt (fun z => c2 ((eone _ v3).mp z)) ?_ | refine bf (fun z => c2 ((eone _ v3).mp z)) ?_ | refine nt (fun z => c2 ((eone _ v3).mp z)) ?_ | refine nf (fun z => c2 ((eone _ v3).mp z)) ?_
      rw [if_neg c2] at kk
      exact fin _ (by omega) kk
  · first | refine bt (fun z => c1 ((eone s hs).mp z)) ?_ | refine bf (fun z => c1 ((eone s hs).mp z)) ?_ | refine nt (fun z => c1 ((eone s hs).mp z)) ?_ | refine nf (fun z => c1 ((eone s hs).mp z)) ?_
    rw [if_neg c1] at kk
    refine ⟨hin, ?_⟩
    by_cases c2 : r.2.2.1 = 1
    · first | refine bt ((eone _ v3).mpr c2) ?_ | refine bf ((eone _ v3).mpr c2) ?_ | refine nt ((eone _ v3).mpr c2) ?_ | refine nf ((eone _ v3).mpr c2) ?_
      rw [if_pos c2] at kk
      rw [Nat.zero_add] at kk
      exact fin _ (by omega) kk
    · first | refine bt (fun z => c2 ((eone _ v3).mp z)) ?_ | refine bf (fun z => c2 ((eone _ v3).mp z)) ?_ | refine nt (fun z => c2 ((eone _ v3).mp z)) ?_ | refine nf (fun z => c2 ((eone _ v3).mp z)) ?_
      rw [if_neg c2] at kk
      exact fin0 kk
theorem c_gives_now {d k b s c : Nat} {H : pmT} {K : Int32 → pmT → Prop} {hb : Nat → Nat} {L : Law} {r : Row} (hX : CX hb L H) (hR : NR H b r) (hr : RV k r) (hk : k < 2 ^ 20) (hb12 : b < 12) (hs : s ≤ 1) (hc : c ≤ 1) (kk : ∀ H', fr [1800, 1900] H H' → K (nI (W_give L r s c)) H') : pm_R (d + 2) M_Pr_gives [.ref 1, .ref 2, .int (nI b), .int (nI s), .int (nI c)] H (pm_i K) := by
  obtain ⟨h1, h2, h3, h4, h5⟩ := hR
  obtain ⟨v1, v2, v3, v4, v5⟩ := hr
  refine m_Pr_gives_1_2 _ _ _ ?_
  rw [nIc (by omega), h1, h2, h3, h4]
  refine ⟨vp_in_nI hb12 (by decide), ?_⟩
  have hLC := hX.2.2
  cases L with
  | none =>
    have e6 : H.1 14 6 = nI 0 := hLC.2
    have c0 : H.1 14 6 ≤ 0 := by rw [e6]; decide
    first | refine bt c0 ?_ | refine bf c0 ?_ | refine nt c0 ?_ | refine nf c0 ?_
    rw [give_none hc hs (by omega)]
    exact kk H fr.rf
  | some f =>
    obtain ⟨len, q1, q2, q3, q4, q5⟩ := id hLC.2
    have c0 : ¬ H.1 14 6 ≤ 0 := by
      rw [q3]
      have e := i_le len 0 (by omega) (by decide)
      intro z
      have := e.mp z
      omega
    first | refine bt c0 ?_ | refine bf c0 ?_ | refine nt c0 ?_ | refine nf c0 ?_
    have hf : fr [1800, 1900] H (pm_up (pm_up (pm_up (pm_up (pm_up (pm_up H.1 19 0 (nI r.1)) 19 1 (nI r.2.1)) 19 2 (nI c)) 19 3 (nI s)) 19 4 (nI r.2.2.1)) 19 5 (nI r.2.2.2.1), H.2) :=
      ((((((fr.rf (S := [1800, 1900]) (H := H)).up (o := 19) (k := 0) (v := nI r.1) rfl).up (o := 19) (k := 1) (v := nI r.2.1) rfl).up (o := 19) (k := 2) (v := nI c) rfl).up (o := 19) (k := 3) (v := nI s) rfl).up (o := 19) (k := 4) (v := nI r.2.2.1) rfl).up (o := 19) (k := 5) (v := nI r.2.2.2.1) rfl
    refine c_workOut (hLC.fr hf rfl) (W_nm r s c) (fun j hj => ?_) (fun H' hf' => ?_)
    · match j, hj with
      | 0, _ => rfl
      | 1, _ => rfl
      | 2, _ => rfl
      | 3, _ => rfl
      | 4, _ => rfl
      | 5, _ => rfl
    · show K (pm_max (0 : Int32) (pm_min (99 : Int32) (f (W_nm r s c)))) H'
      rw [give_some]
      exact kk H' (hf.tr (hf'.mono rfl))
theorem c_learn_now {d k b c v : Nat} {H : pmT} {K : pmT → Prop} {r : Row} (hR : NR H b r) (hr : RV k r) (hb12 : b < 12) (hc : c ≤ 1) (hv : v ≤ 999) (kk : ∀ H', fb [] [3, 4] b H H' → NR H' b (W_learn r c v) → K H') : pm_R (d + 1) M_Ha_learn [.ref 2, .int (nI b), .int (nI c), .int (nI v)] H (pm_v K) := by
  obtain ⟨h1, h2, h3, h4, h5⟩ := hR
  obtain ⟨v1, v2, v3, v4, v5⟩ := hr
  refine m_Ha_learn_2 _ _ _ ?_
  rw [nIc (by omega), h1, h2]
  have hin : vp_in (nI b) 12 := vp_in_nI hb12 (by decide)
  have eone : (nI c = (1 : Int32)) = (c = 1) := i_eq c 1 (by omega) (by decide)
  have emin : ∀ x : Nat, x ≤ 999 → pm_min (999 : Int32) (nI x + nI v) = nI (min 999 (x + v)) := fun x hx => by rw [nI_add]; exact pm_min_nI (a := 999) (by decide) (by omega)
  rw [eone, emin _ v1, emin _ v2]
  have u0 : ∀ (o : Nat) (x : Int32), pm_up H.1 o b x o b = x := fun o x => by rw [pm_up_self]; exact pk_us
  by_cases c1 : c = 1
  · first | refine bt c1 ?_ | refine bf c1 ?_ | refine nt c1 ?_ | refine nf c1 ?_
    refine ⟨hin, kk _ (fb.upR fb.rf rfl) ?_⟩
    unfold W_learn
    rw [if_pos c1]
    exact ⟨u0 3 _, h2, h3, h4, h5⟩
  · first | refine bt c1 ?_ | refine bf c1 ?_ | refine nt c1 ?_ | refine nf c1 ?_
    refine ⟨hin, kk _ (fb.upR fb.rf rfl) ?_⟩
    unfold W_learn
    rw [if_neg c1]
    exact ⟨h1, u0 4 _, h3, h4, h5⟩
theorem c_playOnce_now {d k b s : Nat} {H : pmT} {K : Int32 → pmT → Prop} {hb : Nat → Nat} {L : Law} {r : Row} (hX : CX hb L H) (hR : NR H b r) (hr : RV k r) (hk : k < 2 ^ 20) (hb12 : b < 12) (hs : s ≤ 1) (kk : ∀ H', fb [105, 1800, 1900] [3, 4, 6, 7] b H H' → NR H' b (W_play hb L r s) → H'.1 1 4 = nI (W_give L r s (W_came hb r s)) → K (nI (W_came hb r s)) H') : pm_R (d + 3) M_Pr_playOnce [.ref 1, .ref 2, .int (nI b), .int (nI s)] H (pm_i K) := by
  refine m_Pr_playOnce_1_2 _ _ ?_
  have hcl := W_came_le hb r s
  refine c_comes_now hX.1 hX.2.1 hR hr hb12 hs ?_
  refine c_gives_now hX hR hr hk hb12 hs hcl (fun H1 f1 => ?_)
  have hR1 : NR H1 b r := hR.fr f1 rfl
  have hR2 : NR (pm_up H1.1 1 4 (nI (W_give L r s (W_came hb r s))), H1.2) b r := hR1
  refine c_learn_now hR2 hr hb12 hcl (Nat.le_trans (W_give_le L r s _ hcl) (by decide)) (fun H2 f2 hR3 => ?_)
  have hr2 := RV_learn hr (W_came hb r s) (W_give L r s (W_came hb r s))
  have f12 : fb [105, 1800, 1900] [3, 4, 6, 7] b H H2 := ((f1.mono (S' := [105, 1800, 1900]) rfl).fb.up (o := 1) (k := 4) rfl).tr (f2.mono rfl rfl)
  have eg : H2.1 1 4 = nI (W_give L r s (W_came hb r s)) := (f2.1 1 4 rfl (Or.inl rfl)).trans rfl
  unfold W_play at kk
  generalize W_learn r (W_came hb r s) (W_give L r s (W_came hb r s)) = r' at hR3 hr2 kk
  generalize W_came hb r s = c at hcl kk eg
  obtain ⟨g1, g2, g3, g4, g5⟩ := hR3
  obtain ⟨v1, v2, v3, v4, v5⟩ := hr2
  rw [nIc (by omega), g4, g5]
  refine ⟨vp_in_nI hb12 (by decide), ?_⟩
  have u0 : ∀ (h : Nat → Nat → Int32) (o : Nat) (x : Int32), pm_up h o b x o b = x := fun h o x => by rw [pm_up_self]; exact pk_us
  have ec : nI r'.2.2.2.2 + nI c = nI (r'.2.2.2.2 + c) := nI_add _ _
  have ep : nI r'.2.2.2.1 + (1 : Int32) = nI (r'.2.2.2.1 + 1) := nI_1 _
  refine kk _ ((f12.upR (o := 6) rfl).upR (o := 7) rfl) ⟨g1, g2, g3, ?_, ?_⟩ eg
  · show pm_up H2.1 6 b _ 6 b = _
    rw [u0, ep]; rfl
  · show pm_up _ 7 b _ 7 b = _
    rw [u0, ec]; rfl
theorem c_wrong_now {d k b f : Nat} {H : pmT} {K : Int32 → pmT → Prop} {hb : Nat → Nat} {r : Row} (hH : CHb hb H) (hv : HV hb) (hR : NR H b r) (hr : RV k r) (hk : k < 2 ^ 20) (hb12 : b < 12) (hf : f ≤ 12) (kk : K (nI (W_wrong hb r f)) H) : pm_R (d + 1) M_Pr_wrongByMorning [.ref 1, .ref 2, .int (nI b), .int (nI f)] H (pm_i K) := by
  obtain ⟨h1, h2, h3, h4, h5⟩ := hR
  obtain ⟨v1, v2, v3, v4, v5⟩ := hr
  obtain ⟨b0, b1, b2, b3, b4⟩ := hH
  obtain ⟨w0, w1, w2, w3, w4⟩ := hv
  refine m_Pr_wrongByMorning_1_2 _ _ ?_
  rw [nIc (by omega), h2, h5, b3]
  refine ⟨vp_in_nI hb12 (by decide), ?_⟩
  have m1 : r.2.1 * f ≤ 999 * 12 := Nat.mul_le_mul v2 hf
  have m3 : r.2.1 * f ≤ r.2.1 * 12 := Nat.mul_le_mul_left _ hf
  have m2 : hb 3 * r.2.2.2.2 ≤ 9 * 2 ^ 20 := Nat.mul_le_mul w3 (by omega)
  have e : pm_min (999 : Int32) (nI r.2.1 - nI r.2.1 * nI f / (12 : Int32) + nI (hb 3) * nI r.2.2.2.2 / (2 : Int32)) = nI (W_wrong hb r f) := by
    rw [pk_mul, pk_mul, show (12 : Int32) = nI 12 from rfl, show (2 : Int32) = nI 2 from rfl, pk_div (by omega) (by decide) (by decide), pk_div (by omega) (by decide) (by decide), pk_sub (by omega), nI_add]
    exact pm_min_nI (a := 999) (by decide) (by omega)
  rw [e]
  exact kk
theorem c_right_now {d k b f : Nat} {H : pmT} {K : Int32 → pmT → Prop} {r : Row} (hR : NR H b r) (hr : RV k r) (hb12 : b < 12) (hf : f ≤ 12) (kk : K (nI (W_right r f)) H) : pm_R d M_Pr_rightByMorning [.ref 1, .ref 2, .int (nI b), .int (nI f)] H (pm_i K) := by
  obtain ⟨h1, h2, h3, h4, h5⟩ := hR
  obtain ⟨v1, v2, v3, v4, v5⟩ := hr
  refine m_Pr_rightByMorning_1_2 _ _ ?_
  rw [nIc (by omega), h1]
  refine ⟨vp_in_nI hb12 (by decide), ?_⟩
  have m1 : r.1 * f ≤ 999 * 12 := Nat.mul_le_mul v1 hf
  have m3 : r.1 * f ≤ r.1 * 12 := Nat.mul_le_mul_left _ hf
  have e : nI r.1 - nI r.1 * nI f / (12 : Int32) = nI (W_right r f) := by
    rw [pk_mul, show (12 : Int32) = nI 12 from rfl, pk_div (by omega) (by decide) (by decide), pk_sub (by omega)]
    rfl
  rw [e]
  exact kk
theorem c_sleepOver_now {d k b f : Nat} {H : pmT} {K : pmT → Prop} {hb : Nat → Nat} {r : Row} (hH : CHb hb H) (hv : HV hb) (hR : NR H b r) (hr : RV k r) (hk : k < 2 ^ 20) (hb12 : b < 12) (hf : f ≤ 12) (kk : ∀ H', fb [] [3, 4, 6, 7] b H H' → NR H' b (W_sleep hb r f) → K H') : pm_R (d + 2) M_Pr_sleepOver [.ref 1, .ref 2, .int (nI b), .int (nI f)] H (pm_v K) := by
  refine m_Pr_sleepOver_1_2 _ _ ?_
  refine c_wrong_now hH hv hR hr hk hb12 hf ?_
  refine ⟨vp_in_nI hb12 (by decide), ?_⟩
  rw [nIc (by omega)]
  have u0 : ∀ (h : Nat → Nat → Int32) (o : Nat) (x : Int32), pm_up h o b x o b = x := fun h o x => by rw [pm_up_self]; exact pk_us
  have hw : W_wrong hb r f ≤ 999 := Nat.min_le_left _ _
  have hR1 : NR (pm_up H.1 4 b (nI (W_wrong hb r f)), H.2) b (r.1, W_wrong hb r f, r.2.2) := ⟨hR.1, u0 H.1 4 _, hR.2.2.1, hR.2.2.2.1, hR.2.2.2.2⟩
  have hr1 : RV k (r.1, W_wrong hb r f, r.2.2) := ⟨hr.1, hw, hr.2.2.1, hr.2.2.2.1, hr.2.2.2.2⟩
  refine c_right_now hR1 hr1 hb12 hf ?_
  refine kk _ ((((fb.rf.upR (o := 4) rfl).upR (o := 3) rfl).upR (o := 6) rfl).upR (o := 7) rfl) ⟨?_, ?_, hR.2.2.1, ?_, ?_⟩
  · exact u0 _ 3 _
  · exact u0 _ 4 _
  · exact u0 _ 6 _
  · exact u0 _ 7 _
theorem c_comes_th {d k b s : Nat} {H : pmT} {K : Int32 → pmT → Prop} {hb : Nat → Nat} {r : Row} (hH : CHb hb H) (hv : HV hb) (hR : TR H b r) (hr : RV k r) (hb12 : b < 12) (hs : s ≤ 1) (kk : K (nI (W_came hb r s)) H) : pm_R d M_Pr_comes [.ref 1, .ref 8, .int (nI b), .int (nI s)] H (pm_i K) := by
  obtain ⟨h1, h2, h3, h4, h5⟩ := hR
  obtain ⟨v1, v2, v3, v4, v5⟩ := hr
  obtain ⟨b0, b1, b2, b3, b4⟩ := hH
  obtain ⟨w0, w1, w2, w3, w4⟩ := hv
  refine m_Pr_comes_1_8 _ _ ?_
  rw [nIc (by omega), h1, h2, h3, b0, b1]
  have hin : vp_in (nI b) 12 := vp_in_nI hb12 (by decide)
  have eone : ∀ n : Nat, n ≤ 1 → (nI n = (1 : Int32)) = (n = 1) := fun n hn => i_eq n 1 (by omega) (by decide)
  simp only [Int32.zero_add, Int32.add_zero, nI_add]
  unfold W_came W_help at kk
  have fin : ∀ x : Nat, x ≤ 198 → K (nI (if r.2.1 < r.1 + x then 1 else 0)) H → (nI (r.1 + x) ≤ nI r.2.1 → pm_i K (some (.int (0 : Int32))) H) ∧ (¬ nI (r.1 + x) ≤ nI r.2.1 → pm_i K (some (.int (1 : Int32))) H) := by
    intro x hx k2
    rw [i_le _ _ (by omega) (by omega)]
    by_cases q : r.1 + x ≤ r.2.1
    · first | refine bt q ?_ | refine bf q ?_ | refine nt q ?_ | refine nf q ?_
      rw [if_neg (by omega)] at k2
      exact k2
    · first | refine bt q ?_ | refine bf q ?_ | refine nt q ?_ | refine nf q ?_
      rw [if_pos (by omega)] at k2
      exact k2
  have fin0 : K (nI (if r.2.1 < r.1 then 1 else 0)) H → (nI r.1 ≤ nI r.2.1 → pm_i K (some (.int (0 : Int32))) H) ∧ (¬ nI r.1 ≤ nI r.2.1 → pm_i K (some (.int (1 : Int32))) H) := fun k2 => fin 0 (by omega) k2
  by_cases c1 : s = 1
  · first | refine bt ((eone s hs).mpr c1) ?_ | refine bf ((eone s hs).mpr c1) ?_ | refine nt ((eone s hs).mpr c1) ?_ | refine nf ((eone s hs).mpr c1) ?_
    rw [if_pos c1] at kk
    refine ⟨hin, ?_⟩
    by_cases c2 : r.2.2.1 = 1
    · first | refine bt ((eone _ v3).mpr c2) ?_ | refine bf ((eone _ v3).mpr c2) ?_ | refine nt ((eone _ v3).mpr c2) ?_ | refine nf ((eone _ v3).mpr c2) ?_
      rw [if_pos c2] at kk
      exact fin _ (by omega) kk
    · first | refine bt (fun z => c2 ((eone _ v3).mp z)) ?_ | refine bf (fun z => c2 ((eone _ v3).mp z)) ?_ | refine nt (fun z => c2 ((eone _ v3).mp z)) ?_ | refine nf (fun z => c2 ((eone _ v3).mp z)) ?_
      rw [if_neg c2] at kk
      exact fin _ (by omega) kk
  · first | refine bt (fun z => c1 ((eone s hs).mp z)) ?_ | refine bf (fun z => c1 ((eone s hs).mp z)) ?_ | refine nt (fun z => c1 ((eone s hs).mp z)) ?_ | refine nf (fun z => c1 ((eone s hs).mp z)) ?_
    rw [if_neg c1] at kk
    refine ⟨hin, ?_⟩
    by_cases c2 : r.2.2.1 = 1
    · first | refine bt ((eone _ v3).mpr c2) ?_ | refine bf ((eone _ v3).mpr c2) ?_ | refine nt ((eone _ v3).mpr c2) ?_ | refine nf ((eone _ v3).mpr c2) ?_
      rw [if_pos c2] at kk
      rw [Nat.zero_add] at kk
      exact fin _ (by omega) kk
    · first | refine bt (fun z => c2 ((eone _ v3).mp z)) ?_ | refine bf (fun z => c2 ((eone _ v3).mp z)) ?_ | refine nt (fun z => c2 ((eone _ v3).mp z)) ?_ | refine nf (fun z => c2 ((eone _ v3).mp z)) ?_
      rw [if_neg c2] at kk
      exact fin0 kk
theorem c_gives_th {d k b s c : Nat} {H : pmT} {K : Int32 → pmT → Prop} {hb : Nat → Nat} {L : Law} {r : Row} (hX : CX hb L H) (hR : TR H b r) (hr : RV k r) (hk : k < 2 ^ 20) (hb12 : b < 12) (hs : s ≤ 1) (hc : c ≤ 1) (kk : ∀ H', fr [1800, 1900] H H' → K (nI (W_give L r s c)) H') : pm_R (d + 2) M_Pr_gives [.ref 1, .ref 8, .int (nI b), .int (nI s), .int (nI c)] H (pm_i K) := by
  obtain ⟨h1, h2, h3, h4, h5⟩ := hR
  obtain ⟨v1, v2, v3, v4, v5⟩ := hr
  refine m_Pr_gives_1_8 _ _ _ ?_
  rw [nIc (by omega), h1, h2, h3, h4]
  refine ⟨vp_in_nI hb12 (by decide), ?_⟩
  have hLC := hX.2.2
  cases L with
  | none =>
    have e6 : H.1 14 6 = nI 0 := hLC.2
    have c0 : H.1 14 6 ≤ 0 := by rw [e6]; decide
    first | refine bt c0 ?_ | refine bf c0 ?_ | refine nt c0 ?_ | refine nf c0 ?_
    rw [give_none hc hs (by omega)]
    exact kk H fr.rf
  | some f =>
    obtain ⟨len, q1, q2, q3, q4, q5⟩ := id hLC.2
    have c0 : ¬ H.1 14 6 ≤ 0 := by
      rw [q3]
      have e := i_le len 0 (by omega) (by decide)
      intro z
      have := e.mp z
      omega
    first | refine bt c0 ?_ | refine bf c0 ?_ | refine nt c0 ?_ | refine nf c0 ?_
    have hf : fr [1800, 1900] H (pm_up (pm_up (pm_up (pm_up (pm_up (pm_up H.1 19 0 (nI r.1)) 19 1 (nI r.2.1)) 19 2 (nI c)) 19 3 (nI s)) 19 4 (nI r.2.2.1)) 19 5 (nI r.2.2.2.1), H.2) :=
      ((((((fr.rf (S := [1800, 1900]) (H := H)).up (o := 19) (k := 0) (v := nI r.1) rfl).up (o := 19) (k := 1) (v := nI r.2.1) rfl).up (o := 19) (k := 2) (v := nI c) rfl).up (o := 19) (k := 3) (v := nI s) rfl).up (o := 19) (k := 4) (v := nI r.2.2.1) rfl).up (o := 19) (k := 5) (v := nI r.2.2.2.1) rfl
    refine c_workOut (hLC.fr hf rfl) (W_nm r s c) (fun j hj => ?_) (fun H' hf' => ?_)
    · match j, hj with
      | 0, _ => rfl
      | 1, _ => rfl
      | 2, _ => rfl
      | 3, _ => rfl
      | 4, _ => rfl
      | 5, _ => rfl
    · show K (pm_max (0 : Int32) (pm_min (99 : Int32) (f (W_nm r s c)))) H'
      rw [give_some]
      exact kk H' (hf.tr (hf'.mono rfl))
theorem c_learn_th {d k b c v : Nat} {H : pmT} {K : pmT → Prop} {r : Row} (hR : TR H b r) (hr : RV k r) (hb12 : b < 12) (hc : c ≤ 1) (hv : v ≤ 999) (kk : ∀ H', fb [] [9, 10] b H H' → TR H' b (W_learn r c v) → K H') : pm_R (d + 1) M_Ha_learn [.ref 8, .int (nI b), .int (nI c), .int (nI v)] H (pm_v K) := by
  obtain ⟨h1, h2, h3, h4, h5⟩ := hR
  obtain ⟨v1, v2, v3, v4, v5⟩ := hr
  refine m_Ha_learn_8 _ _ _ ?_
  rw [nIc (by omega), h1, h2]
  have hin : vp_in (nI b) 12 := vp_in_nI hb12 (by decide)
  have eone : (nI c = (1 : Int32)) = (c = 1) := i_eq c 1 (by omega) (by decide)
  have emin : ∀ x : Nat, x ≤ 999 → pm_min (999 : Int32) (nI x + nI v) = nI (min 999 (x + v)) := fun x hx => by rw [nI_add]; exact pm_min_nI (a := 999) (by decide) (by omega)
  rw [eone, emin _ v1, emin _ v2]
  have u0 : ∀ (o : Nat) (x : Int32), pm_up H.1 o b x o b = x := fun o x => by rw [pm_up_self]; exact pk_us
  by_cases c1 : c = 1
  · first | refine bt c1 ?_ | refine bf c1 ?_ | refine nt c1 ?_ | refine nf c1 ?_
    refine ⟨hin, kk _ (fb.upR fb.rf rfl) ?_⟩
    unfold W_learn
    rw [if_pos c1]
    exact ⟨u0 9 _, h2, h3, h4, h5⟩
  · first | refine bt c1 ?_ | refine bf c1 ?_ | refine nt c1 ?_ | refine nf c1 ?_
    refine ⟨hin, kk _ (fb.upR fb.rf rfl) ?_⟩
    unfold W_learn
    rw [if_neg c1]
    exact ⟨h1, u0 10 _, h3, h4, h5⟩
theorem c_playOnce_th {d k b s : Nat} {H : pmT} {K : Int32 → pmT → Prop} {hb : Nat → Nat} {L : Law} {r : Row} (hX : CX hb L H) (hR : TR H b r) (hr : RV k r) (hk : k < 2 ^ 20) (hb12 : b < 12) (hs : s ≤ 1) (kk : ∀ H', fb [105, 1800, 1900] [9, 10, 12, 13] b H H' → TR H' b (W_play hb L r s) → H'.1 1 4 = nI (W_give L r s (W_came hb r s)) → K (nI (W_came hb r s)) H') : pm_R (d + 3) M_Pr_playOnce [.ref 1, .ref 8, .int (nI b), .int (nI s)] H (pm_i K) := by
  refine m_Pr_playOnce_1_8 _ _ ?_
  have hcl := W_came_le hb r s
  refine c_comes_th hX.1 hX.2.1 hR hr hb12 hs ?_
  refine c_gives_th hX hR hr hk hb12 hs hcl (fun H1 f1 => ?_)
  have hR1 : TR H1 b r := hR.fr f1 rfl
  have hR2 : TR (pm_up H1.1 1 4 (nI (W_give L r s (W_came hb r s))), H1.2) b r := hR1
  refine c_learn_th hR2 hr hb12 hcl (Nat.le_trans (W_give_le L r s _ hcl) (by decide)) (fun H2 f2 hR3 => ?_)
  have hr2 := RV_learn hr (W_came hb r s) (W_give L r s (W_came hb r s))
  have f12 : fb [105, 1800, 1900] [9, 10, 12, 13] b H H2 := ((f1.mono (S' := [105, 1800, 1900]) rfl).fb.up (o := 1) (k := 4) rfl).tr (f2.mono rfl rfl)
  have eg : H2.1 1 4 = nI (W_give L r s (W_came hb r s)) := (f2.1 1 4 rfl (Or.inl rfl)).trans rfl
  unfold W_play at kk
  generalize W_learn r (W_came hb r s) (W_give L r s (W_came hb r s)) = r' at hR3 hr2 kk
  generalize W_came hb r s = c at hcl kk eg
  obtain ⟨g1, g2, g3, g4, g5⟩ := hR3
  obtain ⟨v1, v2, v3, v4, v5⟩ := hr2
  rw [nIc (by omega), g4, g5]
  refine ⟨vp_in_nI hb12 (by decide), ?_⟩
  have u0 : ∀ (h : Nat → Nat → Int32) (o : Nat) (x : Int32), pm_up h o b x o b = x := fun h o x => by rw [pm_up_self]; exact pk_us
  have ec : nI r'.2.2.2.2 + nI c = nI (r'.2.2.2.2 + c) := nI_add _ _
  have ep : nI r'.2.2.2.1 + (1 : Int32) = nI (r'.2.2.2.1 + 1) := nI_1 _
  refine kk _ ((f12.upR (o := 12) rfl).upR (o := 13) rfl) ⟨g1, g2, g3, ?_, ?_⟩ eg
  · show pm_up H2.1 12 b _ 12 b = _
    rw [u0, ep]; rfl
  · show pm_up _ 13 b _ 13 b = _
    rw [u0, ec]; rfl
theorem c_wrong_th {d k b f : Nat} {H : pmT} {K : Int32 → pmT → Prop} {hb : Nat → Nat} {r : Row} (hH : CHb hb H) (hv : HV hb) (hR : TR H b r) (hr : RV k r) (hk : k < 2 ^ 20) (hb12 : b < 12) (hf : f ≤ 12) (kk : K (nI (W_wrong hb r f)) H) : pm_R (d + 1) M_Pr_wrongByMorning [.ref 1, .ref 8, .int (nI b), .int (nI f)] H (pm_i K) := by
  obtain ⟨h1, h2, h3, h4, h5⟩ := hR
  obtain ⟨v1, v2, v3, v4, v5⟩ := hr
  obtain ⟨b0, b1, b2, b3, b4⟩ := hH
  obtain ⟨w0, w1, w2, w3, w4⟩ := hv
  refine m_Pr_wrongByMorning_1_8 _ _ ?_
  rw [nIc (by omega), h2, h5, b3]
  refine ⟨vp_in_nI hb12 (by decide), ?_⟩
  have m1 : r.2.1 * f ≤ 999 * 12 := Nat.mul_le_mul v2 hf
  have m3 : r.2.1 * f ≤ r.2.1 * 12 := Nat.mul_le_mul_left _ hf
  have m2 : hb 3 * r.2.2.2.2 ≤ 9 * 2 ^ 20 := Nat.mul_le_mul w3 (by omega)
  have e : pm_min (999 : Int32) (nI r.2.1 - nI r.2.1 * nI f / (12 : Int32) + nI (hb 3) * nI r.2.2.2.2 / (2 : Int32)) = nI (W_wrong hb r f) := by
    rw [pk_mul, pk_mul, show (12 : Int32) = nI 12 from rfl, show (2 : Int32) = nI 2 from rfl, pk_div (by omega) (by decide) (by decide), pk_div (by omega) (by decide) (by decide), pk_sub (by omega), nI_add]
    exact pm_min_nI (a := 999) (by decide) (by omega)
  rw [e]
  exact kk
theorem c_right_th {d k b f : Nat} {H : pmT} {K : Int32 → pmT → Prop} {r : Row} (hR : TR H b r) (hr : RV k r) (hb12 : b < 12) (hf : f ≤ 12) (kk : K (nI (W_right r f)) H) : pm_R d M_Pr_rightByMorning [.ref 1, .ref 8, .int (nI b), .int (nI f)] H (pm_i K) := by
  obtain ⟨h1, h2, h3, h4, h5⟩ := hR
  obtain ⟨v1, v2, v3, v4, v5⟩ := hr
  refine m_Pr_rightByMorning_1_8 _ _ ?_
  rw [nIc (by omega), h1]
  refine ⟨vp_in_nI hb12 (by decide), ?_⟩
  have m1 : r.1 * f ≤ 999 * 12 := Nat.mul_le_mul v1 hf
  have m3 : r.1 * f ≤ r.1 * 12 := Nat.mul_le_mul_left _ hf
  have e : nI r.1 - nI r.1 * nI f / (12 : Int32) = nI (W_right r f) := by
    rw [pk_mul, show (12 : Int32) = nI 12 from rfl, pk_div (by omega) (by decide) (by decide), pk_sub (by omega)]
    rfl
  rw [e]
  exact kk
theorem c_sleepOver_th {d k b f : Nat} {H : pmT} {K : pmT → Prop} {hb : Nat → Nat} {r : Row} (hH : CHb hb H) (hv : HV hb) (hR : TR H b r) (hr : RV k r) (hk : k < 2 ^ 20) (hb12 : b < 12) (hf : f ≤ 12) (kk : ∀ H', fb [] [9, 10, 12, 13] b H H' → TR H' b (W_sleep hb r f) → K H') : pm_R (d + 2) M_Pr_sleepOver [.ref 1, .ref 8, .int (nI b), .int (nI f)] H (pm_v K) := by
  refine m_Pr_sleepOver_1_8 _ _ ?_
  refine c_wrong_th hH hv hR hr hk hb12 hf ?_
  refine ⟨vp_in_nI hb12 (by decide), ?_⟩
  rw [nIc (by omega)]
  have u0 : ∀ (h : Nat → Nat → Int32) (o : Nat) (x : Int32), pm_up h o b x o b = x := fun h o x => by rw [pm_up_self]; exact pk_us
  have hw : W_wrong hb r f ≤ 999 := Nat.min_le_left _ _
  have hR1 : TR (pm_up H.1 10 b (nI (W_wrong hb r f)), H.2) b (r.1, W_wrong hb r f, r.2.2) := ⟨hR.1, u0 H.1 10 _, hR.2.2.1, hR.2.2.2.1, hR.2.2.2.2⟩
  have hr1 : RV k (r.1, W_wrong hb r f, r.2.2) := ⟨hr.1, hw, hr.2.2.1, hr.2.2.2.1, hr.2.2.2.2⟩
  refine c_right_th hR1 hr1 hb12 hf ?_
  refine kk _ ((((fb.rf.upR (o := 10) rfl).upR (o := 9) rfl).upR (o := 12) rfl).upR (o := 13) rfl) ⟨?_, ?_, hR.2.2.1, ?_, ?_⟩
  · exact u0 _ 9 _
  · exact u0 _ 10 _
  · exact u0 _ 12 _
  · exact u0 _ 13 _
