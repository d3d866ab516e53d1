/-! calls in pairs: WRONG FOR, odds, draws, what is told -/
/-- least and greatest, as the reference looks for them -/
def W_lm (F : Nat → Bool) : Nat → Nat → Int32 → Int32 → Int32 × Int32
  | 0, _, a, b => (a, b)
  | m + 1, v, a, b => if F v = true then W_lm F m (v + 1) (if 0 ≤ a then a else nI v) (nI v) else W_lm F m (v + 1) a b
def W_fst (F : Nat → Bool) : Nat → Nat → Int32
  | 0, _ => -2
  | m + 1, v => if F v = true then nI v else W_fst F m (v + 1)
def W_lst (F : Nat → Bool) : Nat → Int32
  | 0 => -2
  | m + 1 => if F m = true then nI m else W_lst F m
theorem W_lm_keep {F : Nat → Bool} : ∀ (m v : Nat) (a b : Int32), 0 ≤ a → (W_lm F m v a b).1 = a
  | 0, v, a, b, h => rfl
  | m + 1, v, a, b, h => by
    unfold W_lm
    by_cases c : F v = true
    · rw [if_pos c, if_pos h]; exact W_lm_keep m (v + 1) a _ h
    · rw [if_neg c]; exact W_lm_keep m (v + 1) a b h
theorem W_lm_fst {F : Nat → Bool} : ∀ (m v : Nat) (b : Int32), v + m ≤ 1000 → (W_lm F m v (-2) b).1 = W_fst F m v
  | 0, v, b, h => rfl
  | m + 1, v, b, h => by
    unfold W_lm W_fst
    by_cases c : F v = true
    · rw [if_pos c, if_pos c, if_neg (by decide)]
      exact W_lm_keep m (v + 1) (nI v) _ (nI_pos' (by omega))
    · rw [if_neg c, if_neg c]
      exact W_lm_fst m (v + 1) b (by omega)
theorem W_lm_snd {F : Nat → Bool} : ∀ (m v : Nat) (a : Int32), (W_lm F m v a (W_lst F v)).2 = W_lst F (v + m)
  | 0, v, a => rfl
  | m + 1, v, a => by
    unfold W_lm
    by_cases c : F v = true
    · rw [if_pos c]
      have e : W_lst F (v + 1) = nI v := by
        conv => lhs; unfold W_lst
        rw [if_pos c]
      have := W_lm_snd (F := F) m (v + 1) (if 0 ≤ a then a else nI v)
      rw [e] at this
      rw [this]
      congr 1
      omega
    · rw [if_neg c]
      have e : W_lst F (v + 1) = W_lst F v := by
        conv => lhs; unfold W_lst
        rw [if_neg c]
      have := W_lm_snd (F := F) m (v + 1) a
      rw [e] at this
      rw [this]
      congr 1
      omega
def W_fits (hb : Nat → Nat) (L : Law) (n len : Nat) (g : Nat → Int64) (now : Nat → Row) (b : Nat) : Nat → Bool := fun v => decide (W_unl hb L n (hb 2) len g 31 0 (W_setW now b v) = -2)
theorem W_fitW_0 {hb : Nat → Nat} {L : Law} {n len : Nat} {g : Nat → Int64} {now : Nat → Row} {b : Nat} : ∀ (m v : Nat), W_fitW hb L n len g now b 0 m v = W_fst (W_fits hb L n len g now b) m v
  | 0, v => rfl
  | m + 1, v => by
    unfold W_fitW W_fst W_fits
    rw [if_pos rfl]
    by_cases c : W_unl hb L n (hb 2) len g 31 0 (W_setW now b v) = -2
    · rw [if_pos c, if_pos (decide_eq_true c)]
    · rw [if_neg c, if_neg (by rw [decide_eq_false c]; decide)]
      exact W_fitW_0 m (v + 1)
theorem W_fitW_1 {hb : Nat → Nat} {L : Law} {n len : Nat} {g : Nat → Int64} {now : Nat → Row} {b : Nat} : ∀ (m v : Nat), v + m = 1000 → W_fitW hb L n len g now b 1 m v = W_lst (W_fits hb L n len g now b) m
  | 0, v, h => rfl
  | m + 1, v, h => by
    have e : 999 - v = m := by omega
    unfold W_fitW W_lst W_fits
    rw [show (if (1 : Nat) = 0 then v else 999 - v) = m from (if_neg (by decide)).trans e]
    by_cases c : W_unl hb L n (hb 2) len g 31 0 (W_setW now b m) = -2
    · rw [if_pos c, if_pos (decide_eq_true c)]
    · rw [if_neg c, if_neg (by rw [decide_eq_false c]; decide)]
      exact W_fitW_1 m (v + 1) (by omega)
theorem lp_wrongM {D n len d b w : Nat} {hb : Nat → Nat} {L : Law} {now : Nat → Row} {g : Nat → Int64} {K : Int32 → pmT → Prop} {H0 : pmT} (hM : MS hb L n now H0) (hG : MSh d len g H0) (hbn : b < n) (hw : w ≤ 1) (R : Int32 × Int32) (kk : ∀ H', fr JQ H0 H' → K (if w = 0 then R.1 else R.2) H') : ∀ (m v : Nat) (x y : Int32) (H : pmT), v + m = 1000 → fr JQ H0 H → W_lm (W_fits hb L n len g now b) m v x y = R → pm_RW none (D + 200) M_Mo_wrongFor (pm_i K) 55 [(0, .ref 55), (1, .int (nI d)), (2, .int (nI b)), (3, .int (nI w)), (4, .int x), (5, .int y), (6, .int (nI v))] [] H
  | 0, v, x, y, H, hv, hf, e => by
    refine b_Mo_wrongFor_55 _ _ _ _ _ _ ?_
    first | refine bt (show (999 : Int32) < nI v by rw [show v = 1000 by omega]; decide) ?_ | refine bf (show (999 : Int32) < nI v by rw [show v = 1000 by omega]; decide) ?_ | refine nt (show (999 : Int32) < nI v by rw [show v = 1000 by omega]; decide) ?_ | refine nf (show (999 : Int32) < nI v by rw [show v = 1000 by omega]; decide) ?_
    have ew0 : (nI w = (0 : Int32)) = (w = 0) := i_eq w 0 (by omega) (by decide)
    have k1 := kk H hf
    rw [← e] at k1
    rw [ew0]
    by_cases c : w = 0
    · first | refine bt c ?_ | refine bf c ?_ | refine nt c ?_ | refine nf c ?_
      rw [if_pos c] at k1
      exact k1
    · first | refine bt c ?_ | refine bf c ?_ | refine nt c ?_ | refine nf c ?_
      rw [if_neg c] at k1
      exact k1
  | m + 1, v, x, y, H, hv, hf, e => by
    have ih := lp_wrongM (D := D) (K := K) hM hG hbn hw R kk m
    have hn12 := hM.2.2.1
    refine b_Mo_wrongFor_55 _ _ _ _ _ _ ?_
    first | refine bt (show ¬ (999 : Int32) < nI v from fun z => by have := (nI_ltI (a := 999) (b := v) (by decide) (by omega)).mp z; omega) ?_ | refine bf (show ¬ (999 : Int32) < nI v from fun z => by have := (nI_ltI (a := 999) (b := v) (by decide) (by omega)).mp z; omega) ?_ | refine nt (show ¬ (999 : Int32) < nI v from fun z => by have := (nI_ltI (a := 999) (b := v) (by decide) (by omega)).mp z; omega) ?_ | refine nf (show ¬ (999 : Int32) < nI v from fun z => by have := (nI_ltI (a := 999) (b := v) (by decide) (by omega)).mp z; omega) ?_
    have hM1 := hM.fr hf
    refine c_begins hM1 (fun H1 f1 hT1 ef => ?_)
    rw [nIc (show b < 2 ^ 31 by omega)]
    refine ⟨vp_in_nI (by omega) (by decide), ?_⟩
    have f2 : fr JQ H (pm_up H1.1 66 b (nI v), H1.2) := (f1.mono (S' := JQ) rfl).up rfl
    have f2' : fb [] [66] b H1 (pm_up H1.1 66 b (nI v), H1.2) := fb.rf.upR rfl
    have hM2 := hM1.fr f2
    have hT2 : ∀ b', b' < n → MR (pm_up H1.1 66 b (nI v), H1.2) b' (W_setW now b v b') := fun b' hb' => by
      unfold W_setW va_up
      split
      · rename_i eb
        subst eb
        obtain ⟨z1, z2, z3, z4, z5⟩ := hT1 b' hb'
        refine ⟨z1, ?_, z3, z4, z5⟩
        show pm_up H1.1 66 b' (nI v) 66 b' = _
        rw [pm_up_self, pk_us]
      · rename_i eb
        exact (hT1 b' hb').fb f2' rfl rfl eb
    have hV2 : ∀ b', b' < n → RV 1000 (W_setW now b v b') := RV_up hM1.2.2.2.2 ⟨(hM1.2.2.2.2 b hbn).1, by show v ≤ 999; omega, (hM1.2.2.2.2 b hbn).2.2⟩
    refine c_falseM (d := D + 125) hn12 hM2.1.2.1.2.2.1 hM2.1 (((fr.rf (S := [6600])).up (o := 66) (k := b) (v := nI v) rfl).1 55 23 rfl |>.trans ef) hM2.2.1 ((hG.fr hf rfl).fr f2 rfl) hT2 hV2 (by decide) (fun H3 f3 => ?_)
    have f3' := hf.tr (f2.tr (f3.mono (S' := JQ) rfl))
    rw [show nI v + (1 : Int32) = nI (v + 1) from nI_1 v]
    unfold W_lm at e
    by_cases c : W_unl hb L n (hb 2) len g 31 0 (W_setW now b v) = -2
    · first | refine bt c ?_ | refine bf c ?_ | refine nt c ?_ | refine nf c ?_
      rw [if_pos (show W_fits hb L n len g now b v = true from decide_eq_true c)] at e
      by_cases c0 : 0 ≤ x
      · first | refine bt c0 ?_ | refine bf c0 ?_ | refine nt c0 ?_ | refine nf c0 ?_
        rw [if_pos c0] at e
        exact ih (v + 1) _ _ H3 (by omega) f3' e
      · first | refine bt c0 ?_ | refine bf c0 ?_ | refine nt c0 ?_ | refine nf c0 ?_
        rw [if_neg c0] at e
        exact ih (v + 1) _ _ H3 (by omega) f3' e
    · first | refine bt c ?_ | refine bf c ?_ | refine nt c ?_ | refine nf c ?_
      rw [if_neg (show ¬ W_fits hb L n len g now b v = true by unfold W_fits; rw [decide_eq_false c]; decide)] at e
      exact ih (v + 1) _ _ H3 (by omega) f3' e
theorem p_wrongFor {D t : Nat} {H : pmT} {K : Int32 → Int32 → pmT → Prop} (a1 a2 a3 : Int32) (hR : Rel t H) (ht : t ≤ 1000) (kk : ∀ x H', Rel (t + 1) H' → K x x H') : pm_R (D + 200) M_PW_wrongFor [.ref 0, .int a1, .int a2, .int a3] H (pm_i fun x H1 => pm_R (D + 200) M_Mo_wrongFor [.ref 55, .int a1, .int a2, .int a3] H1 (pm_i fun y H2 => K x y H2)) := by
  obtain ⟨hb, L, n, now, m, hN, hT, hD⟩ := id hR
  have hC := hN.cs ht
  have hM := hN.ms ht
  have hn12 := hC.2.2.1
  have hB := hT.2.2.2.1
  have hSh := hT.2.2.2.2.2.1
  have en : (nI n - (1 : Int32)).toInt = (n : Int) - 1 := nm1_t (by omega)
  have hR1 : Rel (t + 1) H := hR.mono (Nat.le_succ _)
  by_cases hok : (0 ≤ a1.toInt ∧ a1.toInt ≤ 5) ∧ (0 ≤ a2.toInt ∧ a2.toInt < n) ∧ (0 ≤ a3.toInt ∧ a3.toInt ≤ 1)
  · obtain ⟨⟨p1, p2⟩, ⟨p3, p4⟩, p5, p6⟩ := hok
    obtain ⟨d, _, rfl, ed⟩ := nI_tI a1 p1
    obtain ⟨b, _, rfl, eb⟩ := nI_tI a2 p3
    obtain ⟨w, _, rfl, ew⟩ := nI_tI a3 p5
    have hd : d < 6 := by omega
    have hbb : b < n := by omega
    have d0 : ¬ nI d < (0 : Int32) := nI_pos (by omega)
    have d1 : nI d ≤ (5 : Int32) := nI_le (show d ≤ 5 by omega) (by decide)
    have d2 : ¬ lg_cmp (nI d).toInt64 (0 : Int64) < 0 := l_0 (by omega)
    have d3 : ¬ 0 < lg_cmp (nI d).toInt64 (5 : Int64) := l_c (by omega) (by show (d : Int) ≤ 5; omega)
    have d4 : (nI d).toNatClampNeg = d := nIc (by omega)
    have b0 : ¬ nI b < (0 : Int32) := nI_pos (by omega)
    have b1 : nI b ≤ nI n - (1 : Int32) := le_pred hbb (by omega)
    have b2 : ¬ lg_cmp (nI b).toInt64 (0 : Int64) < 0 := l_0 (by omega)
    have b3 : ¬ 0 < lg_cmp (nI b).toInt64 ((nI n - (1 : Int32)).toInt64) := l_n hbb (by omega)
    have b4 : (nI b).toNatClampNeg = b := nIc (by omega)
    have b5 : vp_in (nI b) 12 := vp_in_nI (by omega) (by decide)
    have w0 : ¬ nI w < (0 : Int32) := nI_pos (by omega)
    have w1 : nI w ≤ (1 : Int32) := nI_le (show w ≤ 1 by omega) (by decide)
    have w2 : ¬ lg_cmp (nI w).toInt64 (0 : Int64) < 0 := l_0 (by omega)
    have w3 : ¬ 0 < lg_cmp (nI w).toInt64 (1 : Int64) := l_c (by omega) (by show (w : Int) ≤ 1; omega)
    have w4 : (nI w).toNatClampNeg = w := nIc (by omega)
    have ew1 : (nI w = (1 : Int32)) = (w = 1) := i_eq w 1 (by omega) (by decide)
    have dv : vp_in (nI d) 6 := vp_in_nI hd (by decide)
    rcases bytes_cases hB.1 hd (hSh d hd) with ⟨x0, x1, y0⟩ | ⟨x0, x1, y0, y1⟩ | ⟨x0, x1, x2, y0, y1⟩ | ⟨x0, x1, x2, y0, y1, len, hG, hG'⟩
    · refine m_PW_wrongFor _ _ _ ?_
      rw [d4]
      try rw [hC.2.1]
      repeat (first | with_reducible refine bt b0 ?_ | with_reducible refine bf b0 ?_ | with_reducible refine nt b0 ?_ | with_reducible refine nf b0 ?_ | with_reducible refine And.intro b0 ?_ | with_reducible refine bt b1 ?_ | with_reducible refine bf b1 ?_ | with_reducible refine nt b1 ?_ | with_reducible refine nf b1 ?_ | with_reducible refine And.intro b1 ?_ | with_reducible refine bt w0 ?_ | with_reducible refine bf w0 ?_ | with_reducible refine nt w0 ?_ | with_reducible refine nf w0 ?_ | with_reducible refine And.intro w0 ?_ | with_reducible refine bt w1 ?_ | with_reducible refine bf w1 ?_ | with_reducible refine nt w1 ?_ | with_reducible refine nf w1 ?_ | with_reducible refine And.intro w1 ?_ | with_reducible refine bt b2 ?_ | with_reducible refine bf b2 ?_ | with_reducible refine nt b2 ?_ | with_reducible refine nf b2 ?_ | with_reducible refine And.intro b2 ?_ | with_reducible refine bt b3 ?_ | with_reducible refine bf b3 ?_ | with_reducible refine nt b3 ?_ | with_reducible refine nf b3 ?_ | with_reducible refine And.intro b3 ?_ | with_reducible refine bt w2 ?_ | with_reducible refine bf w2 ?_ | with_reducible refine nt w2 ?_ | with_reducible refine nf w2 ?_ | with_reducible refine And.intro w2 ?_ | with_reducible refine bt w3 ?_ | with_reducible refine bf w3 ?_ | with_reducible refine nt w3 ?_ | with_reducible refine nf w3 ?_ | with_reducible refine And.intro w3 ?_ | with_reducible refine bt d0 ?_ | with_reducible refine bf d0 ?_ | with_reducible refine nt d0 ?_ | with_reducible refine nf d0 ?_ | with_reducible refine And.intro d0 ?_ | with_reducible refine bt d1 ?_ | with_reducible refine bf d1 ?_ | with_reducible refine nt d1 ?_ | with_reducible refine nf d1 ?_ | with_reducible refine And.intro d1 ?_ | with_reducible refine bt dv ?_ | with_reducible refine bf dv ?_ | with_reducible refine nt dv ?_ | with_reducible refine nf dv ?_ | with_reducible refine And.intro dv ?_ | with_reducible refine bt x0 ?_ | with_reducible refine bf x0 ?_ | with_reducible refine nt x0 ?_ | with_reducible refine nf x0 ?_ | with_reducible refine And.intro x0 ?_ | with_reducible refine bt x1 ?_ | with_reducible refine bf x1 ?_ | with_reducible refine nt x1 ?_ | with_reducible refine nf x1 ?_ | with_reducible refine And.intro x1 ?_ | with_reducible refine bt x2 ?_ | with_reducible refine bf x2 ?_ | with_reducible refine nt x2 ?_ | with_reducible refine nf x2 ?_ | with_reducible refine And.intro x2 ?_)
      refine m_Mo_wrongFor _ _ _ ?_
      rw [d4]
      try rw [hM.2.1]
      repeat (first | with_reducible refine bt b0 ?_ | with_reducible refine bf b0 ?_ | with_reducible refine nt b0 ?_ | with_reducible refine nf b0 ?_ | with_reducible refine And.intro b0 ?_ | with_reducible refine bt b1 ?_ | with_reducible refine bf b1 ?_ | with_reducible refine nt b1 ?_ | with_reducible refine nf b1 ?_ | with_reducible refine And.intro b1 ?_ | with_reducible refine bt w0 ?_ | with_reducible refine bf w0 ?_ | with_reducible refine nt w0 ?_ | with_reducible refine nf w0 ?_ | with_reducible refine And.intro w0 ?_ | with_reducible refine bt w1 ?_ | with_reducible refine bf w1 ?_ | with_reducible refine nt w1 ?_ | with_reducible refine nf w1 ?_ | with_reducible refine And.intro w1 ?_ | with_reducible refine bt b2 ?_ | with_reducible refine bf b2 ?_ | with_reducible refine nt b2 ?_ | with_reducible refine nf b2 ?_ | with_reducible refine And.intro b2 ?_ | with_reducible refine bt b3 ?_ | with_reducible refine bf b3 ?_ | with_reducible refine nt b3 ?_ | with_reducible refine nf b3 ?_ | with_reducible refine And.intro b3 ?_ | with_reducible refine bt w2 ?_ | with_reducible refine bf w2 ?_ | with_reducible refine nt w2 ?_ | with_reducible refine nf w2 ?_ | with_reducible refine And.intro w2 ?_ | with_reducible refine bt w3 ?_ | with_reducible refine bf w3 ?_ | with_reducible refine nt w3 ?_ | with_reducible refine nf w3 ?_ | with_reducible refine And.intro w3 ?_ | with_reducible refine bt d2 ?_ | with_reducible refine bf d2 ?_ | with_reducible refine nt d2 ?_ | with_reducible refine nf d2 ?_ | with_reducible refine And.intro d2 ?_ | with_reducible refine bt d3 ?_ | with_reducible refine bf d3 ?_ | with_reducible refine nt d3 ?_ | with_reducible refine nf d3 ?_ | with_reducible refine And.intro d3 ?_ | with_reducible refine bt dv ?_ | with_reducible refine bf dv ?_ | with_reducible refine nt dv ?_ | with_reducible refine nf dv ?_ | with_reducible refine And.intro dv ?_ | with_reducible refine bt y0 ?_ | with_reducible refine bf y0 ?_ | with_reducible refine nt y0 ?_ | with_reducible refine nf y0 ?_ | with_reducible refine And.intro y0 ?_ | with_reducible refine bt y1 ?_ | with_reducible refine bf y1 ?_ | with_reducible refine nt y1 ?_ | with_reducible refine nf y1 ?_ | with_reducible refine And.intro y1 ?_)
      exact kk _ _ hR1
    · refine m_PW_wrongFor _ _ _ ?_
      rw [d4]
      try rw [hC.2.1]
      repeat (first | with_reducible refine bt b0 ?_ | with_reducible refine bf b0 ?_ | with_reducible refine nt b0 ?_ | with_reducible refine nf b0 ?_ | with_reducible refine And.intro b0 ?_ | with_reducible refine bt b1 ?_ | with_reducible refine bf b1 ?_ | with_reducible refine nt b1 ?_ | with_reducible refine nf b1 ?_ | with_reducible refine And.intro b1 ?_ | with_reducible refine bt w0 ?_ | with_reducible refine bf w0 ?_ | with_reducible refine nt w0 ?_ | with_reducible refine nf w0 ?_ | with_reducible refine And.intro w0 ?_ | with_reducible refine bt w1 ?_ | with_reducible refine bf w1 ?_ | with_reducible refine nt w1 ?_ | with_reducible refine nf w1 ?_ | with_reducible refine And.intro w1 ?_ | with_reducible refine bt b2 ?_ | with_reducible refine bf b2 ?_ | with_reducible refine nt b2 ?_ | with_reducible refine nf b2 ?_ | with_reducible refine And.intro b2 ?_ | with_reducible refine bt b3 ?_ | with_reducible refine bf b3 ?_ | with_reducible refine nt b3 ?_ | with_reducible refine nf b3 ?_ | with_reducible refine And.intro b3 ?_ | with_reducible refine bt w2 ?_ | with_reducible refine bf w2 ?_ | with_reducible refine nt w2 ?_ | with_reducible refine nf w2 ?_ | with_reducible refine And.intro w2 ?_ | with_reducible refine bt w3 ?_ | with_reducible refine bf w3 ?_ | with_reducible refine nt w3 ?_ | with_reducible refine nf w3 ?_ | with_reducible refine And.intro w3 ?_ | with_reducible refine bt d0 ?_ | with_reducible refine bf d0 ?_ | with_reducible refine nt d0 ?_ | with_reducible refine nf d0 ?_ | with_reducible refine And.intro d0 ?_ | with_reducible refine bt d1 ?_ | with_reducible refine bf d1 ?_ | with_reducible refine nt d1 ?_ | with_reducible refine nf d1 ?_ | with_reducible refine And.intro d1 ?_ | with_reducible refine bt dv ?_ | with_reducible refine bf dv ?_ | with_reducible refine nt dv ?_ | with_reducible refine nf dv ?_ | with_reducible refine And.intro dv ?_ | with_reducible refine bt x0 ?_ | with_reducible refine bf x0 ?_ | with_reducible refine nt x0 ?_ | with_reducible refine nf x0 ?_ | with_reducible refine And.intro x0 ?_ | with_reducible refine bt x1 ?_ | with_reducible refine bf x1 ?_ | with_reducible refine nt x1 ?_ | with_reducible refine nf x1 ?_ | with_reducible refine And.intro x1 ?_ | with_reducible refine bt x2 ?_ | with_reducible refine bf x2 ?_ | with_reducible refine nt x2 ?_ | with_reducible refine nf x2 ?_ | with_reducible refine And.intro x2 ?_)
      refine m_Mo_wrongFor _ _ _ ?_
      rw [d4]
      try rw [hM.2.1]
      repeat (first | with_reducible refine bt b0 ?_ | with_reducible refine bf b0 ?_ | with_reducible refine nt b0 ?_ | with_reducible refine nf b0 ?_ | with_reducible refine And.intro b0 ?_ | with_reducible refine bt b1 ?_ | with_reducible refine bf b1 ?_ | with_reducible refine nt b1 ?_ | with_reducible refine nf b1 ?_ | with_reducible refine And.intro b1 ?_ | with_reducible refine bt w0 ?_ | with_reducible refine bf w0 ?_ | with_reducible refine nt w0 ?_ | with_reducible refine nf w0 ?_ | with_reducible refine And.intro w0 ?_ | with_reducible refine bt w1 ?_ | with_reducible refine bf w1 ?_ | with_reducible refine nt w1 ?_ | with_reducible refine nf w1 ?_ | with_reducible refine And.intro w1 ?_ | with_reducible refine bt b2 ?_ | with_reducible refine bf b2 ?_ | with_reducible refine nt b2 ?_ | with_reducible refine nf b2 ?_ | with_reducible refine And.intro b2 ?_ | with_reducible refine bt b3 ?_ | with_reducible refine bf b3 ?_ | with_reducible refine nt b3 ?_ | with_reducible refine nf b3 ?_ | with_reducible refine And.intro b3 ?_ | with_reducible refine bt w2 ?_ | with_reducible refine bf w2 ?_ | with_reducible refine nt w2 ?_ | with_reducible refine nf w2 ?_ | with_reducible refine And.intro w2 ?_ | with_reducible refine bt w3 ?_ | with_reducible refine bf w3 ?_ | with_reducible refine nt w3 ?_ | with_reducible refine nf w3 ?_ | with_reducible refine And.intro w3 ?_ | with_reducible refine bt d2 ?_ | with_reducible refine bf d2 ?_ | with_reducible refine nt d2 ?_ | with_reducible refine nf d2 ?_ | with_reducible refine And.intro d2 ?_ | with_reducible refine bt d3 ?_ | with_reducible refine bf d3 ?_ | with_reducible refine nt d3 ?_ | with_reducible refine nf d3 ?_ | with_reducible refine And.intro d3 ?_ | with_reducible refine bt dv ?_ | with_reducible refine bf dv ?_ | with_reducible refine nt dv ?_ | with_reducible refine nf dv ?_ | with_reducible refine And.intro dv ?_ | with_reducible refine bt y0 ?_ | with_reducible refine bf y0 ?_ | with_reducible refine nt y0 ?_ | with_reducible refine nf y0 ?_ | with_reducible refine And.intro y0 ?_ | with_reducible refine bt y1 ?_ | with_reducible refine bf y1 ?_ | with_reducible refine nt y1 ?_ | with_reducible refine nf y1 ?_ | with_reducible refine And.intro y1 ?_)
      exact kk _ _ hR1
    · refine m_PW_wrongFor _ _ _ ?_
      rw [d4]
      try rw [hC.2.1]
      repeat (first | with_reducible refine bt b0 ?_ | with_reducible refine bf b0 ?_ | with_reducible refine nt b0 ?_ | with_reducible refine nf b0 ?_ | with_reducible refine And.intro b0 ?_ | with_reducible refine bt b1 ?_ | with_reducible refine bf b1 ?_ | with_reducible refine nt b1 ?_ | with_reducible refine nf b1 ?_ | with_reducible refine And.intro b1 ?_ | with_reducible refine bt w0 ?_ | with_reducible refine bf w0 ?_ | with_reducible refine nt w0 ?_ | with_reducible refine nf w0 ?_ | with_reducible refine And.intro w0 ?_ | with_reducible refine bt w1 ?_ | with_reducible refine bf w1 ?_ | with_reducible refine nt w1 ?_ | with_reducible refine nf w1 ?_ | with_reducible refine And.intro w1 ?_ | with_reducible refine bt b2 ?_ | with_reducible refine bf b2 ?_ | with_reducible refine nt b2 ?_ | with_reducible refine nf b2 ?_ | with_reducible refine And.intro b2 ?_ | with_reducible refine bt b3 ?_ | with_reducible refine bf b3 ?_ | with_reducible refine nt b3 ?_ | with_reducible refine nf b3 ?_ | with_reducible refine And.intro b3 ?_ | with_reducible refine bt w2 ?_ | with_reducible refine bf w2 ?_ | with_reducible refine nt w2 ?_ | with_reducible refine nf w2 ?_ | with_reducible refine And.intro w2 ?_ | with_reducible refine bt w3 ?_ | with_reducible refine bf w3 ?_ | with_reducible refine nt w3 ?_ | with_reducible refine nf w3 ?_ | with_reducible refine And.intro w3 ?_ | with_reducible refine bt d0 ?_ | with_reducible refine bf d0 ?_ | with_reducible refine nt d0 ?_ | with_reducible refine nf d0 ?_ | with_reducible refine And.intro d0 ?_ | with_reducible refine bt d1 ?_ | with_reducible refine bf d1 ?_ | with_reducible refine nt d1 ?_ | with_reducible refine nf d1 ?_ | with_reducible refine And.intro d1 ?_ | with_reducible refine bt dv ?_ | with_reducible refine bf dv ?_ | with_reducible refine nt dv ?_ | with_reducible refine nf dv ?_ | with_reducible refine And.intro dv ?_ | with_reducible refine bt x0 ?_ | with_reducible refine bf x0 ?_ | with_reducible refine nt x0 ?_ | with_reducible refine nf x0 ?_ | with_reducible refine And.intro x0 ?_ | with_reducible refine bt x1 ?_ | with_reducible refine bf x1 ?_ | with_reducible refine nt x1 ?_ | with_reducible refine nf x1 ?_ | with_reducible refine And.intro x1 ?_ | with_reducible refine bt x2 ?_ | with_reducible refine bf x2 ?_ | with_reducible refine nt x2 ?_ | with_reducible refine nf x2 ?_ | with_reducible refine And.intro x2 ?_)
      refine m_Mo_wrongFor _ _ _ ?_
      rw [d4]
      try rw [hM.2.1]
      repeat (first | with_reducible refine bt b0 ?_ | with_reducible refine bf b0 ?_ | with_reducible refine nt b0 ?_ | with_reducible refine nf b0 ?_ | with_reducible refine And.intro b0 ?_ | with_reducible refine bt b1 ?_ | with_reducible refine bf b1 ?_ | with_reducible refine nt b1 ?_ | with_reducible refine nf b1 ?_ | with_reducible refine And.intro b1 ?_ | with_reducible refine bt w0 ?_ | with_reducible refine bf w0 ?_ | with_reducible refine nt w0 ?_ | with_reducible refine nf w0 ?_ | with_reducible refine And.intro w0 ?_ | with_reducible refine bt w1 ?_ | with_reducible refine bf w1 ?_ | with_reducible refine nt w1 ?_ | with_reducible refine nf w1 ?_ | with_reducible refine And.intro w1 ?_ | with_reducible refine bt b2 ?_ | with_reducible refine bf b2 ?_ | with_reducible refine nt b2 ?_ | with_reducible refine nf b2 ?_ | with_reducible refine And.intro b2 ?_ | with_reducible refine bt b3 ?_ | with_reducible refine bf b3 ?_ | with_reducible refine nt b3 ?_ | with_reducible refine nf b3 ?_ | with_reducible refine And.intro b3 ?_ | with_reducible refine bt w2 ?_ | with_reducible refine bf w2 ?_ | with_reducible refine nt w2 ?_ | with_reducible refine nf w2 ?_ | with_reducible refine And.intro w2 ?_ | with_reducible refine bt w3 ?_ | with_reducible refine bf w3 ?_ | with_reducible refine nt w3 ?_ | with_reducible refine nf w3 ?_ | with_reducible refine And.intro w3 ?_ | with_reducible refine bt d2 ?_ | with_reducible refine bf d2 ?_ | with_reducible refine nt d2 ?_ | with_reducible refine nf d2 ?_ | with_reducible refine And.intro d2 ?_ | with_reducible refine bt d3 ?_ | with_reducible refine bf d3 ?_ | with_reducible refine nt d3 ?_ | with_reducible refine nf d3 ?_ | with_reducible refine And.intro d3 ?_ | with_reducible refine bt dv ?_ | with_reducible refine bf dv ?_ | with_reducible refine nt dv ?_ | with_reducible refine nf dv ?_ | with_reducible refine And.intro dv ?_ | with_reducible refine bt y0 ?_ | with_reducible refine bf y0 ?_ | with_reducible refine nt y0 ?_ | with_reducible refine nf y0 ?_ | with_reducible refine And.intro y0 ?_ | with_reducible refine bt y1 ?_ | with_reducible refine bf y1 ?_ | with_reducible refine nt y1 ?_ | with_reducible refine nf y1 ?_ | with_reducible refine And.intro y1 ?_)
      exact kk _ _ hR1
    · refine m_PW_wrongFor _ _ _ ?_
      rw [d4, hC.2.1]
      repeat (first | with_reducible refine bt d0 ?_ | with_reducible refine bf d0 ?_ | with_reducible refine nt d0 ?_ | with_reducible refine nf d0 ?_ | with_reducible refine And.intro d0 ?_ | with_reducible refine bt d1 ?_ | with_reducible refine bf d1 ?_ | with_reducible refine nt d1 ?_ | with_reducible refine nf d1 ?_ | with_reducible refine And.intro d1 ?_ | with_reducible refine bt dv ?_ | with_reducible refine bf dv ?_ | with_reducible refine nt dv ?_ | with_reducible refine nf dv ?_ | with_reducible refine And.intro dv ?_ | with_reducible refine bt b0 ?_ | with_reducible refine bf b0 ?_ | with_reducible refine nt b0 ?_ | with_reducible refine nf b0 ?_ | with_reducible refine And.intro b0 ?_ | with_reducible refine bt b1 ?_ | with_reducible refine bf b1 ?_ | with_reducible refine nt b1 ?_ | with_reducible refine nf b1 ?_ | with_reducible refine And.intro b1 ?_ | with_reducible refine bt w0 ?_ | with_reducible refine bf w0 ?_ | with_reducible refine nt w0 ?_ | with_reducible refine nf w0 ?_ | with_reducible refine And.intro w0 ?_ | with_reducible refine bt w1 ?_ | with_reducible refine bf w1 ?_ | with_reducible refine nt w1 ?_ | with_reducible refine nf w1 ?_ | with_reducible refine And.intro w1 ?_ | with_reducible refine bt x0 ?_ | with_reducible refine bf x0 ?_ | with_reducible refine nt x0 ?_ | with_reducible refine nf x0 ?_ | with_reducible refine And.intro x0 ?_ | with_reducible refine bt x1 ?_ | with_reducible refine bf x1 ?_ | with_reducible refine nt x1 ?_ | with_reducible refine nf x1 ?_ | with_reducible refine And.intro x1 ?_ | with_reducible refine bt x2 ?_ | with_reducible refine bf x2 ?_ | with_reducible refine nt x2 ?_ | with_reducible refine nf x2 ?_ | with_reducible refine And.intro x2 ?_)
      have ref0 : ∀ (x : Int32) (H1 : pmT), fr JC H H1 → x = W_fitW hb L n len (H.2.1 (43 + 2 * d + 1)) now b w 1000 0 → pm_R (D + 200) M_Mo_wrongFor [.ref 55, .int (nI d), .int (nI b), .int (nI w)] H1 (pm_i fun y H2 => K x y H2) := by
        intro x H1 f1 ex
        have hM1 := (hN.c f1).ms ht
        refine m_Mo_wrongFor _ _ _ ?_
        rw [d4, show H1.1 81 d = H.1 81 d from f1.1 81 d rfl, hM1.2.1]
        repeat (first | with_reducible refine bt d2 ?_ | with_reducible refine bf d2 ?_ | with_reducible refine nt d2 ?_ | with_reducible refine nf d2 ?_ | with_reducible refine And.intro d2 ?_ | with_reducible refine bt d3 ?_ | with_reducible refine bf d3 ?_ | with_reducible refine nt d3 ?_ | with_reducible refine nf d3 ?_ | with_reducible refine And.intro d3 ?_ | with_reducible refine bt dv ?_ | with_reducible refine bf dv ?_ | with_reducible refine nt dv ?_ | with_reducible refine nf dv ?_ | with_reducible refine And.intro dv ?_ | with_reducible refine bt b2 ?_ | with_reducible refine bf b2 ?_ | with_reducible refine nt b2 ?_ | with_reducible refine nf b2 ?_ | with_reducible refine And.intro b2 ?_ | with_reducible refine bt b3 ?_ | with_reducible refine bf b3 ?_ | with_reducible refine nt b3 ?_ | with_reducible refine nf b3 ?_ | with_reducible refine And.intro b3 ?_ | with_reducible refine bt w2 ?_ | with_reducible refine bf w2 ?_ | with_reducible refine nt w2 ?_ | with_reducible refine nf w2 ?_ | with_reducible refine And.intro w2 ?_ | with_reducible refine bt w3 ?_ | with_reducible refine bf w3 ?_ | with_reducible refine nt w3 ?_ | with_reducible refine nf w3 ?_ | with_reducible refine And.intro w3 ?_ | with_reducible refine bt y0 ?_ | with_reducible refine bf y0 ?_ | with_reducible refine nt y0 ?_ | with_reducible refine nf y0 ?_ | with_reducible refine And.intro y0 ?_ | with_reducible refine bt y1 ?_ | with_reducible refine bf y1 ?_ | with_reducible refine nt y1 ?_ | with_reducible refine nf y1 ?_ | with_reducible refine And.intro y1 ?_)
        refine lp_wrongM (D := D) hM1 (hG'.fr f1 rfl) hbb (show w ≤ 1 by omega) (W_lm (W_fits hb L n len (H.2.1 (43 + 2 * d + 1)) now b) 1000 0 (-2) (-2)) (fun H2 f2 => ?_) 1000 0 (-2) (-2) H1 rfl fr.rf rfl
        have ey : (if w = 0 then (W_lm (W_fits hb L n len (H.2.1 (43 + 2 * d + 1)) now b) 1000 0 (-2) (-2)).1 else (W_lm (W_fits hb L n len (H.2.1 (43 + 2 * d + 1)) now b) 1000 0 (-2) (-2)).2) = x := by
          rw [ex]
          by_cases c : w = 0
          · rw [if_pos c, c, W_fitW_0]
            exact W_lm_fst 1000 0 (-2) (by decide)
          · rw [if_neg c, show w = 1 by omega, W_fitW_1 1000 0 rfl]
            have := W_lm_snd (F := W_fits hb L n len (H.2.1 (43 + 2 * d + 1)) now b) 1000 0 (-2)
            rw [Nat.zero_add] at this
            exact this
        rw [ey]
        exact kk _ _ (hR.z f1 f2)
      rw [ew1]
      by_cases c : w = 1
      · first | refine bt c ?_ | refine bf c ?_ | refine nt c ?_ | refine nf c ?_
        refine c_fitW (d := D + 193) (isG := 1) hC hG hbb (by decide) (fun H1 f1 => ?_)
        exact ref0 _ H1 f1 (by rw [c])
      · first | refine bt c ?_ | refine bf c ?_ | refine nt c ?_ | refine nf c ?_
        refine c_fitW (d := D + 193) (isG := 0) hC hG hbb (by decide) (fun H1 f1 => ?_)
        exact ref0 _ H1 f1 (by rw [show w = 0 by omega])
  · have hm : pm_R (D + 200) M_Mo_wrongFor [.ref 55, .int a1, .int a2, .int a3] H (pm_i fun y H2 => K (-1) y H2) := by
      refine m_Mo_wrongFor _ _ _ ?_
      try rw [hM.2.1]
      ((try (simp only [lgl, lgg, i2l_t, u32_0, u64_0, u32_1, u64_1, u32_2, u64_2, u32_3, u64_3, u32_4, u64_4, u32_5, u64_5, u32_7, u64_7, u32_12, u64_12, u32_24, u64_24, u32_30, u64_30, u32_49, u64_49, u32_60, u64_60, u32_99, u64_99, u32_255, u64_255, u32_999, u64_999, en])); (try (simp only [t_lt, t_le, u32_0, u64_0, u32_1, u64_1, u32_2, u64_2, u32_3, u64_3, u32_4, u64_4, u32_5, u64_5, u32_7, u64_7, u32_12, u64_12, u32_24, u64_24, u32_30, u64_30, u32_49, u64_49, u32_60, u64_60, u32_99, u64_99, u32_255, u64_255, u32_999, u64_999, en])); repeat' (first | with_reducible intro hh | with_reducible apply And.intro | exact vp_in_iff.mpr (by omega) | (exfalso; omega) | exact kk _ _ hR1))
    refine m_PW_wrongFor _ _ _ ?_
    try rw [hC.2.1]
    ((try (simp only [lgl, lgg, i2l_t, u32_0, u64_0, u32_1, u64_1, u32_2, u64_2, u32_3, u64_3, u32_4, u64_4, u32_5, u64_5, u32_7, u64_7, u32_12, u64_12, u32_24, u64_24, u32_30, u64_30, u32_49, u64_49, u32_60, u64_60, u32_99, u64_99, u32_255, u64_255, u32_999, u64_999, en])); (try (simp only [t_lt, t_le, u32_0, u64_0, u32_1, u64_1, u32_2, u64_2, u32_3, u64_3, u32_4, u64_4, u32_5, u64_5, u32_7, u64_7, u32_12, u64_12, u32_24, u64_24, u32_30, u64_30, u32_49, u64_49, u32_60, u64_60, u32_99, u64_99, u32_255, u64_255, u32_999, u64_999, en])); repeat' (first | with_reducible intro hh | with_reducible apply And.intro | exact vp_in_iff.mpr (by omega) | (exfalso; omega) | exact hm))
/-! numbers told -/
theorem p_led {D t : Nat} {H : pmT} {K : Int32 → Int32 → pmT → Prop} (a1 : Int32) (hR : Rel t H) (ht : t ≤ 1000) (kk : ∀ x H', Rel (t + 1) H' → K x x H') : pm_R (D + 200) M_PW_led [.ref 0, .int a1] H (pm_i fun x H1 => pm_R (D + 200) M_Mo_led [.ref 55, .int a1] H1 (pm_i fun y H2 => K x y H2)) := by
  obtain ⟨hb, L, n, now, m, hN, hT, hD⟩ := id hR
  have hC := hN.cs ht
  have hM := hN.ms ht
  have hn12 := hC.2.2.1
  have hB := hT.2.2.2.1
  have hSh := hT.2.2.2.2.2.1
  have en : (nI n - (1 : Int32)).toInt = (n : Int) - 1 := nm1_t (by omega)
  have hR1 : Rel (t + 1) H := hR.mono (Nat.le_succ _)
  have hL := hT.2.2.2.2.2.2.1
  by_cases hok : 0 ≤ a1.toInt ∧ a1.toInt ≤ 4
  · obtain ⟨p1, p2⟩ := hok
    obtain ⟨k, _, rfl, eb⟩ := nI_tI a1 p1
    have k0 : ¬ nI k < (0 : Int32) := nI_pos (by omega)
    have k1 : nI k ≤ (4 : Int32) := nI_le (show k ≤ 4 by omega) (by decide)
    have k2 : ¬ lg_cmp (nI k).toInt64 (0 : Int64) < 0 := l_0 (by omega)
    have k3 : ¬ 0 < lg_cmp (nI k).toInt64 (4 : Int64) := l_c (by omega) (by show (k : Int) ≤ 4; omega)
    have k4 : (nI k).toNatClampNeg = k := nIc (by omega)
    have e : H.1 35 k = H.1 55 (34 + k) := hL k (by omega)
    refine m_PW_led _ ?_
    rw [k4, e]
    repeat (first | with_reducible refine bt k0 ?_ | with_reducible refine bf k0 ?_ | with_reducible refine nt k0 ?_ | with_reducible refine nf k0 ?_ | with_reducible refine And.intro k0 ?_ | with_reducible refine bt k1 ?_ | with_reducible refine bf k1 ?_ | with_reducible refine nt k1 ?_ | with_reducible refine nf k1 ?_ | with_reducible refine And.intro k1 ?_)
    refine ⟨vp_in_nI (by omega) (by decide), ?_⟩
    refine m_Mo_led _ ?_
    have e0 : (nI k = (0 : Int32)) = (k = 0) := i_eq k 0 (by omega) (by decide)
    have e1 : (nI k = (1 : Int32)) = (k = 1) := i_eq k 1 (by omega) (by decide)
    have e2 : (nI k = (2 : Int32)) = (k = 2) := i_eq k 2 (by omega) (by decide)
    have e3 : (nI k = (3 : Int32)) = (k = 3) := i_eq k 3 (by omega) (by decide)
    have e4 : (nI k = (4 : Int32)) = (k = 4) := i_eq k 4 (by omega) (by decide)
    rw [e0, e1, e2, e3, e4]
    rcases (show k = 0 ∨ k = 1 ∨ k = 2 ∨ k = 3 ∨ k = 4 by omega) with z | z | z | z | z <;> subst z
    · repeat (first | with_reducible refine bt (show 0 = 0 from rfl) ?_ | with_reducible refine bf (show 0 = 0 from rfl) ?_ | with_reducible refine nt (show 0 = 0 from rfl) ?_ | with_reducible refine nf (show 0 = 0 from rfl) ?_ | with_reducible refine And.intro (show 0 = 0 from rfl) ?_)
      exact kk _ _ hR1
    · repeat (first | with_reducible refine bt (show ¬ 1 = 0 by decide) ?_ | with_reducible refine bf (show ¬ 1 = 0 by decide) ?_ | with_reducible refine nt (show ¬ 1 = 0 by decide) ?_ | with_reducible refine nf (show ¬ 1 = 0 by decide) ?_ | with_reducible refine And.intro (show ¬ 1 = 0 by decide) ?_ | with_reducible refine bt (show 1 = 1 from rfl) ?_ | with_reducible refine bf (show 1 = 1 from rfl) ?_ | with_reducible refine nt (show 1 = 1 from rfl) ?_ | with_reducible refine nf (show 1 = 1 from rfl) ?_ | with_reducible refine And.intro (show 1 = 1 from rfl) ?_)
      exact kk _ _ hR1
    · repeat (first | with_reducible refine bt (show ¬ 2 = 0 by decide) ?_ | with_reducible refine bf (show ¬ 2 = 0 by decide) ?_ | with_reducible refine nt (show ¬ 2 = 0 by decide) ?_ | with_reducible refine nf (show ¬ 2 = 0 by decide) ?_ | with_reducible refine And.intro (show ¬ 2 = 0 by decide) ?_ | with_reducible refine bt (show ¬ 2 = 1 by decide) ?_ | with_reducible refine bf (show ¬ 2 = 1 by decide) ?_ | with_reducible refine nt (show ¬ 2 = 1 by decide) ?_ | with_reducible refine nf (show ¬ 2 = 1 by decide) ?_ | with_reducible refine And.intro (show ¬ 2 = 1 by decide) ?_ | with_reducible refine bt (show 2 = 2 from rfl) ?_ | with_reducible refine bf (show 2 = 2 from rfl) ?_ | with_reducible refine nt (show 2 = 2 from rfl) ?_ | with_reducible refine nf (show 2 = 2 from rfl) ?_ | with_reducible refine And.intro (show 2 = 2 from rfl) ?_)
      exact kk _ _ hR1
    · repeat (first | with_reducible refine bt (show ¬ 3 = 0 by decide) ?_ | with_reducible refine bf (show ¬ 3 = 0 by decide) ?_ | with_reducible refine nt (show ¬ 3 = 0 by decide) ?_ | with_reducible refine nf (show ¬ 3 = 0 by decide) ?_ | with_reducible refine And.intro (show ¬ 3 = 0 by decide) ?_ | with_reducible refine bt (show ¬ 3 = 1 by decide) ?_ | with_reducible refine bf (show ¬ 3 = 1 by decide) ?_ | with_reducible refine nt (show ¬ 3 = 1 by decide) ?_ | with_reducible refine nf (show ¬ 3 = 1 by decide) ?_ | with_reducible refine And.intro (show ¬ 3 = 1 by decide) ?_ | with_reducible refine bt (show ¬ 3 = 2 by decide) ?_ | with_reducible refine bf (show ¬ 3 = 2 by decide) ?_ | with_reducible refine nt (show ¬ 3 = 2 by decide) ?_ | with_reducible refine nf (show ¬ 3 = 2 by decide) ?_ | with_reducible refine And.intro (show ¬ 3 = 2 by decide) ?_ | with_reducible refine bt (show 3 = 3 from rfl) ?_ | with_reducible refine bf (show 3 = 3 from rfl) ?_ | with_reducible refine nt (show 3 = 3 from rfl) ?_ | with_reducible refine nf (show 3 = 3 from rfl) ?_ | with_reducible refine And.intro (show 3 = 3 from rfl) ?_)
      exact kk _ _ hR1
    · repeat (first | with_reducible refine bt (show ¬ 4 = 0 by decide) ?_ | with_reducible refine bf (show ¬ 4 = 0 by decide) ?_ | with_reducible refine nt (show ¬ 4 = 0 by decide) ?_ | with_reducible refine nf (show ¬ 4 = 0 by decide) ?_ | with_reducible refine And.intro (show ¬ 4 = 0 by decide) ?_ | with_reducible refine bt (show ¬ 4 = 1 by decide) ?_ | with_reducible refine bf (show ¬ 4 = 1 by decide) ?_ | with_reducible refine nt (show ¬ 4 = 1 by decide) ?_ | with_reducible refine nf (show ¬ 4 = 1 by decide) ?_ | with_reducible refine And.intro (show ¬ 4 = 1 by decide) ?_ | with_reducible refine bt (show ¬ 4 = 2 by decide) ?_ | with_reducible refine bf (show ¬ 4 = 2 by decide) ?_ | with_reducible refine nt (show ¬ 4 = 2 by decide) ?_ | with_reducible refine nf (show ¬ 4 = 2 by decide) ?_ | with_reducible refine And.intro (show ¬ 4 = 2 by decide) ?_ | with_reducible refine bt (show ¬ 4 = 3 by decide) ?_ | with_reducible refine bf (show ¬ 4 = 3 by decide) ?_ | with_reducible refine nt (show ¬ 4 = 3 by decide) ?_ | with_reducible refine nf (show ¬ 4 = 3 by decide) ?_ | with_reducible refine And.intro (show ¬ 4 = 3 by decide) ?_ | with_reducible refine bt (show 4 = 4 from rfl) ?_ | with_reducible refine bf (show 4 = 4 from rfl) ?_ | with_reducible refine nt (show 4 = 4 from rfl) ?_ | with_reducible refine nf (show 4 = 4 from rfl) ?_ | with_reducible refine And.intro (show 4 = 4 from rfl) ?_)
      exact kk _ _ hR1
  · have hm : pm_R (D + 200) M_Mo_led [.ref 55, .int a1] H (pm_i fun y H2 => K (-1) y H2) := by
      refine m_Mo_led _ ?_
      simp only [t_eq, u32_0, u32_1, u32_2, u32_3, u32_4]
      ((try (simp only [lgl, lgg, i2l_t, u32_0, u64_0, u32_1, u64_1, u32_2, u64_2, u32_3, u64_3, u32_4, u64_4, u32_5, u64_5, u32_7, u64_7, u32_12, u64_12, u32_24, u64_24, u32_30, u64_30, u32_49, u64_49, u32_60, u64_60, u32_99, u64_99, u32_255, u64_255, u32_999, u64_999, en])); (try (simp only [t_lt, t_le, u32_0, u64_0, u32_1, u64_1, u32_2, u64_2, u32_3, u64_3, u32_4, u64_4, u32_5, u64_5, u32_7, u64_7, u32_12, u64_12, u32_24, u64_24, u32_30, u64_30, u32_49, u64_49, u32_60, u64_60, u32_99, u64_99, u32_255, u64_255, u32_999, u64_999, en])); repeat' (first | with_reducible intro hh | with_reducible apply And.intro | exact vp_in_iff.mpr (by omega) | (exfalso; omega) | exact kk _ _ hR1))
    refine m_PW_led _ ?_
    ((try (simp only [lgl, lgg, i2l_t, u32_0, u64_0, u32_1, u64_1, u32_2, u64_2, u32_3, u64_3, u32_4, u64_4, u32_5, u64_5, u32_7, u64_7, u32_12, u64_12, u32_24, u64_24, u32_30, u64_30, u32_49, u64_49, u32_60, u64_60, u32_99, u64_99, u32_255, u64_255, u32_999, u64_999, en])); (try (simp only [t_lt, t_le, u32_0, u64_0, u32_1, u64_1, u32_2, u64_2, u32_3, u64_3, u32_4, u64_4, u32_5, u64_5, u32_7, u64_7, u32_12, u64_12, u32_24, u64_24, u32_30, u64_30, u32_49, u64_49, u32_60, u64_60, u32_99, u64_99, u32_255, u64_255, u32_999, u64_999, en])); repeat' (first | with_reducible intro hh | with_reducible apply And.intro | exact vp_in_iff.mpr (by omega) | (exfalso; omega) | exact hm))
theorem p_count {D t : Nat} {H : pmT} {K : Int32 → Int32 → pmT → Prop} (a1 : Int32) (hR : Rel t H) (ht : t ≤ 1000) (kk : ∀ x H', Rel (t + 1) H' → K x x H') : pm_R (D + 200) M_PW_count [.ref 0, .int a1] H (pm_i fun x H1 => pm_R (D + 200) M_Mo_count [.ref 55, .int a1] H1 (pm_i fun y H2 => K x y H2)) := by
  obtain ⟨hb, L, n, now, m, hN, hT, hD⟩ := id hR
  have hC := hN.cs ht
  have hM := hN.ms ht
  have hn12 := hC.2.2.1
  have hB := hT.2.2.2.1
  have hSh := hT.2.2.2.2.2.1
  have en : (nI n - (1 : Int32)).toInt = (n : Int) - 1 := nm1_t (by omega)
  have hR1 : Rel (t + 1) H := hR.mono (Nat.le_succ _)
  obtain ⟨tn, tt, q1, q2⟩ := hT.2.1
  obtain ⟨dn, td, c1, c2, c3, c4, c5, c6, c7⟩ := hT.2.2.1
  obtain ⟨r, r0, r1, r2, r3⟩ := hT.2.2.2.2.1
  have ea : H.1 55 6 = H.1 2 0 := hM.2.1.trans hC.2.1.symm
  have eb : H.1 55 10 = H.1 14 1 := q2.1.trans q1.1.symm
  have ec : H.1 55 5 = H.1 26 4 := c5.trans c3.symm
  have ed : H.1 55 42 = H.1 31 1 := hB.2.2.1.trans hB.2.1.symm
  have ee : H.1 55 45 = H.1 31 3 := r2.trans r1.symm
  have go : ∀ x : Int32, K x x H := fun x => kk x H hR1
  have ref : ∀ x : Int32, (a1 = 0 → x = H.1 2 0) → (¬ a1 = 0 → (a1 = 1 → x = H.1 14 1) ∧ (¬ a1 = 1 → (a1 = 2 → x = H.1 26 4) ∧ (¬ a1 = 2 → (a1 = 3 → x = H.1 31 1) ∧ (¬ a1 = 3 → (a1 = 4 → x = H.1 31 3) ∧ (¬ a1 = 4 → x = -1))))) → pm_R (D + 200) M_Mo_count [.ref 55, .int a1] H (pm_i fun y H2 => K x y H2) := by
    intro x h0 h1
    refine m_Mo_count _ ?_
    rw [ea, eb, ec, ed, ee]
    refine ⟨fun z => ?_, fun z => ⟨fun z1 => ?_, fun z1 => ⟨fun z2 => ?_, fun z2 => ⟨fun z3 => ?_, fun z3 => ⟨fun z4 => ?_, fun z4 => ?_⟩⟩⟩⟩⟩
    · rw [h0 z]; exact go _
    · rw [(h1 z).1 z1]; exact go _
    · rw [((h1 z).2 z1).1 z2]; exact go _
    · rw [(((h1 z).2 z1).2 z2).1 z3]; exact go _
    · rw [((((h1 z).2 z1).2 z2).2 z3).1 z4]; exact go _
    · rw [((((h1 z).2 z1).2 z2).2 z3).2 z4]; exact go _
  refine m_PW_count _ ?_
  refine ⟨fun z => ref _ (fun _ => rfl) (fun y => absurd z y), fun z => ⟨fun z1 => ref _ (fun y => absurd y z) (fun _ => ⟨fun _ => rfl, fun y => absurd z1 y⟩), fun z1 => ⟨fun z2 => ref _ (fun y => absurd y z) (fun _ => ⟨fun y => absurd y z1, fun _ => ⟨fun _ => rfl, fun y => absurd z2 y⟩⟩), fun z2 => ⟨fun z3 => ref _ (fun y => absurd y z) (fun _ => ⟨fun y => absurd y z1, fun _ => ⟨fun y => absurd y z2, fun _ => ⟨fun _ => rfl, fun y => absurd z3 y⟩⟩⟩), fun z3 => ⟨fun z4 => ref _ (fun y => absurd y z) (fun _ => ⟨fun y => absurd y z1, fun _ => ⟨fun y => absurd y z2, fun _ => ⟨fun y => absurd y z3, fun _ => ⟨fun _ => rfl, fun y => absurd z4 y⟩⟩⟩⟩), fun z4 => ref _ (fun y => absurd y z) (fun _ => ⟨fun y => absurd y z1, fun _ => ⟨fun y => absurd y z2, fun _ => ⟨fun y => absurd y z3, fun _ => ⟨fun y => absurd y z4, fun _ => rfl⟩⟩⟩⟩)⟩⟩⟩⟩⟩
theorem p_trace {D t : Nat} {H : pmT} {K : Int32 → Int32 → pmT → Prop} (a1 : Int32) (hR : Rel t H) (ht : t ≤ 1000) (kk : ∀ x H', Rel (t + 1) H' → K x x H') : pm_R (D + 200) M_PW_trace [.ref 0, .int a1] H (pm_i fun x H1 => pm_R (D + 200) M_Mo_trace [.ref 55, .int a1] H1 (pm_i fun y H2 => K x y H2)) := by
  obtain ⟨hb, L, n, now, m, hN, hT, hD⟩ := id hR
  have hC := hN.cs ht
  have hM := hN.ms ht
  have hn12 := hC.2.2.1
  have hB := hT.2.2.2.1
  have hSh := hT.2.2.2.2.2.1
  have en : (nI n - (1 : Int32)).toInt = (n : Int) - 1 := nm1_t (by omega)
  have hR1 : Rel (t + 1) H := hR.mono (Nat.le_succ _)
  obtain ⟨r, r0, r1, r2, r3⟩ := hT.2.2.2.2.1
  have emin : pm_min (H.1 31 3) (24 : Int32) - (1 : Int32) = nI (min r 24) - (1 : Int32) := by rw [r1]; congr 1; exact pm_min_nI (b := 24) (by omega) (by decide)
  have emt : (pm_min (H.1 31 3) (24 : Int32) - (1 : Int32)).toInt = (min r 24 : Nat) - 1 := by rw [emin]; exact nm1_t (by omega)
  have ert : (H.1 55 45).toInt = r := by rw [r2]; exact nI_toInt (by omega)
  by_cases hok : 0 ≤ a1.toInt ∧ a1.toInt < (min r 24 : Nat)
  · obtain ⟨p1, p2⟩ := hok
    obtain ⟨k, _, rfl, eb⟩ := nI_tI a1 p1
    have hk : k < 24 := by omega
    have hkr : k < r := by omega
    have e : H.1 33 k = H.1 80 k := r3 k hk hkr
    have k4 : (nI k).toNatClampNeg = k := nIc (by omega)
    refine m_PW_trace _ ?_
    rw [emin, k4, e]
    repeat (first | with_reducible refine bt (nI_pos (show k < 2 ^ 31 by omega)) ?_ | with_reducible refine bf (nI_pos (show k < 2 ^ 31 by omega)) ?_ | with_reducible refine nt (nI_pos (show k < 2 ^ 31 by omega)) ?_ | with_reducible refine nf (nI_pos (show k < 2 ^ 31 by omega)) ?_ | with_reducible refine And.intro (nI_pos (show k < 2 ^ 31 by omega)) ?_ | with_reducible refine bt (le_pred (show k < min r 24 by omega) (by omega)) ?_ | with_reducible refine bf (le_pred (show k < min r 24 by omega) (by omega)) ?_ | with_reducible refine nt (le_pred (show k < min r 24 by omega) (by omega)) ?_ | with_reducible refine nf (le_pred (show k < min r 24 by omega) (by omega)) ?_ | with_reducible refine And.intro (le_pred (show k < min r 24 by omega) (by omega)) ?_)
    refine ⟨vp_in_nI hk (by decide), ?_⟩
    refine m_Mo_trace _ ?_
    rw [r2, k4]
    have c24 : ¬ (24 : Int32) ≤ nI k := nI_ge hk (by decide)
    repeat (first | with_reducible refine bt (nI_pos (show k < 2 ^ 31 by omega)) ?_ | with_reducible refine bf (nI_pos (show k < 2 ^ 31 by omega)) ?_ | with_reducible refine nt (nI_pos (show k < 2 ^ 31 by omega)) ?_ | with_reducible refine nf (nI_pos (show k < 2 ^ 31 by omega)) ?_ | with_reducible refine And.intro (nI_pos (show k < 2 ^ 31 by omega)) ?_ | with_reducible refine bt (nI_ge hkr (by omega)) ?_ | with_reducible refine bf (nI_ge hkr (by omega)) ?_ | with_reducible refine nt (nI_ge hkr (by omega)) ?_ | with_reducible refine nf (nI_ge hkr (by omega)) ?_ | with_reducible refine And.intro (nI_ge hkr (by omega)) ?_ | with_reducible refine bt c24 ?_ | with_reducible refine bf c24 ?_ | with_reducible refine nt c24 ?_ | with_reducible refine nf c24 ?_ | with_reducible refine And.intro c24 ?_)
    exact ⟨vp_in_nI hk (by decide), kk _ _ hR1⟩
  · have hm : pm_R (D + 200) M_Mo_trace [.ref 55, .int a1] H (pm_i fun y H2 => K (-1) y H2) := by
      refine m_Mo_trace _ ?_
      ((try (simp only [lgl, lgg, i2l_t, u32_0, u64_0, u32_1, u64_1, u32_2, u64_2, u32_3, u64_3, u32_4, u64_4, u32_5, u64_5, u32_7, u64_7, u32_12, u64_12, u32_24, u64_24, u32_30, u64_30, u32_49, u64_49, u32_60, u64_60, u32_99, u64_99, u32_255, u64_255, u32_999, u64_999, ert])); (try (simp only [t_lt, t_le, u32_0, u64_0, u32_1, u64_1, u32_2, u64_2, u32_3, u64_3, u32_4, u64_4, u32_5, u64_5, u32_7, u64_7, u32_12, u64_12, u32_24, u64_24, u32_30, u64_30, u32_49, u64_49, u32_60, u64_60, u32_99, u64_99, u32_255, u64_255, u32_999, u64_999, ert])); repeat' (first | with_reducible intro hh | with_reducible apply And.intro | exact vp_in_iff.mpr (by omega) | (exfalso; omega) | exact kk _ _ hR1))
    refine m_PW_trace _ ?_
    ((try (simp only [lgl, lgg, i2l_t, u32_0, u64_0, u32_1, u64_1, u32_2, u64_2, u32_3, u64_3, u32_4, u64_4, u32_5, u64_5, u32_7, u64_7, u32_12, u64_12, u32_24, u64_24, u32_30, u64_30, u32_49, u64_49, u32_60, u64_60, u32_99, u64_99, u32_255, u64_255, u32_999, u64_999, emt])); (try (simp only [t_lt, t_le, u32_0, u64_0, u32_1, u64_1, u32_2, u64_2, u32_3, u64_3, u32_4, u64_4, u32_5, u64_5, u32_7, u64_7, u32_12, u64_12, u32_24, u64_24, u32_30, u64_30, u32_49, u64_49, u32_60, u64_60, u32_99, u64_99, u32_255, u64_255, u32_999, u64_999, emt])); repeat' (first | with_reducible intro hh | with_reducible apply And.intro | exact vp_in_iff.mpr (by omega) | (exfalso; omega) | exact hm))
/-! how likely -/
def euO : Nat → Nat → Nat → Option Nat
  | 0, a, b => if b = 0 then some a else none
  | m + 1, a, b => if b = 0 then some a else euO m b (a % b)
theorem eu_some : ∀ (k a b : Nat), b < 2 ^ k → ∃ g, euO (2 * k) a b = some g
  | 0, a, b, h => ⟨a, by unfold euO; rw [if_pos (by simpa using h)]⟩
  | k + 1, a, b, h => by
    have h' : b < 2 ^ k * 2 := by rw [← Nat.pow_succ]; exact h
    show ∃ g, euO (2 * k + 1 + 1) a b = some g
    by_cases c : b = 0
    · exact ⟨a, by unfold euO; rw [if_pos c]⟩
    · have hr := Nat.mod_lt a (show 0 < b by omega)
      generalize er : a % b = r at hr
      by_cases c2 : r = 0
      · exact ⟨b, by unfold euO; rw [if_neg c, er, c2]; unfold euO; rw [if_pos rfl]⟩
      · have hr2 := Nat.mod_lt b (show 0 < r by omega)
        have hlt : b % r < 2 ^ k := by
          by_cases c3 : r ≤ 2 ^ k
          · omega
          · have : b % r = b - r := by rw [Nat.mod_eq_sub_mod (by omega)]; exact Nat.mod_eq_of_lt (by omega)
            omega
        obtain ⟨g, hg⟩ := eu_some k r (b % r) hlt
        exact ⟨g, by unfold euO; rw [if_neg c, er]; unfold euO; rw [if_neg c2]; exact hg⟩
theorem eu_pos : ∀ (m a b g : Nat), euO m a b = some g → 0 < a ∨ 0 < b → 0 < g
  | 0, a, b, g, h, hp => by
    unfold euO at h
    by_cases c : b = 0
    · rw [if_pos c] at h; cases h; omega
    · rw [if_neg c] at h; cases h
  | m + 1, a, b, g, h, hp => by
    unfold euO at h
    by_cases c : b = 0
    · rw [if_pos c] at h; cases h; omega
    · rw [if_neg c] at h
      exact eu_pos m b _ g h (Or.inl (by omega))
theorem eu_le : ∀ (m a b g : Nat), euO m a b = some g → 0 < a ∨ 0 < b → g ≤ max a b
  | 0, a, b, g, h, hp => by
    unfold euO at h
    by_cases c : b = 0
    · rw [if_pos c] at h; cases h; omega
    · rw [if_neg c] at h; cases h
  | m + 1, a, b, g, h, hp => by
    unfold euO at h
    by_cases c : b = 0
    · rw [if_pos c] at h; cases h; omega
    · rw [if_neg c] at h
      have := eu_le m b _ g h (Or.inl (by omega))
      have hr := Nat.mod_lt a (show 0 < b by omega)
      omega
theorem lp_gcdC {d g : Nat} {H : pmT} {K : Int32 → pmT → Prop} (kk : K (nI g) H) : ∀ (m a b k : Nat), k + m ≤ 64 → a < 2 ^ 31 → b < 2 ^ 31 → euO m a b = some g → pm_RW none d M_PW_greatestDivisor (pm_i K) 7 [(2, .int (nI a)), (3, .int (nI b)), (4, .int (nI k))] [] H
  | 0, a, b, k, hk, ha, hb, e => by
    unfold euO at e
    by_cases c : b = 0
    · rw [if_pos c] at e
      cases e
      subst c
      refine b_PW_greatestDivisor_7 _ _ _ ?_
      exact ⟨fun _ => kk, fun _ => ⟨fun _ => kk, fun z => absurd rfl z⟩⟩
    · rw [if_neg c] at e; cases e
  | m + 1, a, b, k, hk, ha, hb, e => by
    unfold euO at e
    refine b_PW_greatestDivisor_7 _ _ _ ?_
    first | refine bt (show ¬ (64 : Int32) ≤ nI k from nI_ge (b := 64) (show k < 64 by omega) (by decide)) ?_ | refine bf (show ¬ (64 : Int32) ≤ nI k from nI_ge (b := 64) (show k < 64 by omega) (by decide)) ?_ | refine nt (show ¬ (64 : Int32) ≤ nI k from nI_ge (b := 64) (show k < 64 by omega) (by decide)) ?_ | refine nf (show ¬ (64 : Int32) ≤ nI k from nI_ge (b := 64) (show k < 64 by omega) (by decide)) ?_
    by_cases c : b = 0
    · rw [if_pos c] at e
      cases e
      subst c
      exact ⟨fun _ => kk, fun z => absurd rfl z⟩
    · rw [if_neg c] at e
      first | refine bt (nI_ne0 (show 0 < b by omega) hb) ?_ | refine bf (nI_ne0 (show 0 < b by omega) hb) ?_ | refine nt (nI_ne0 (show 0 < b by omega) hb) ?_ | refine nf (nI_ne0 (show 0 < b by omega) hb) ?_
      rw [pk_rem ha (by omega) hb, show nI k + (1 : Int32) = nI (k + 1) from nI_1 k]
      have hr := Nat.mod_lt a (show 0 < b by omega)
      exact lp_gcdC kk m b (a % b) (k + 1) (by omega) hb (by omega) e
theorem lp_gcdM {d g : Nat} {H : pmT} {K : Int64 → pmT → Prop} (kk : K (lN g) H) : ∀ (m a b : Nat), a < 2 ^ 31 → b < 2 ^ 31 → euO m a b = some g → pm_RW none d M_Mo_commonOf (pm_l K) 6 [(4, .long (lN a)), (6, .long (lN b))] [] H
  | m, a, b, ha, hb, e => by
    have e0 : ∀ b, b < 2 ^ 31 → (lg_cmp (lN b) 0 = 0) = (b = 0) := fun b hb => by
      rw [lg_cmp0]
      exact propext (pk_lEQ (a := b) (b := 0) (by omega) (by decide))
    refine b_Mo_commonOf_6 _ _ ?_
    rw [e0 b hb]
    by_cases c : b = 0
    · have e1 : a = g := by
        cases m with
        | zero => unfold euO at e; rw [if_pos c] at e; cases e; rfl
        | succ m => unfold euO at e; rw [if_pos c] at e; cases e; rfl
      first | refine bt c ?_ | refine bf c ?_ | refine nt c ?_ | refine nf c ?_
      rw [e1]
      exact kk
    · first | refine bt c ?_ | refine bf c ?_ | refine nt c ?_ | refine nf c ?_
      cases m with
      | zero => unfold euO at e; rw [if_neg c] at e; cases e
      | succ m =>
        unfold euO at e
        rw [if_neg c] at e
        rw [pk_lRem (by omega) (by omega) (by omega)]
        have hr := Nat.mod_lt a (show 0 < b by omega)
        refine ⟨fun z => c ((pk_lEQ (a := b) (b := 0) (by omega) (by decide)).mp z), lp_gcdM kk m b (a % b) hb (by omega) e⟩
theorem p_odds {D t : Nat} {H : pmT} {K : Int64 → Int64 → pmT → Prop} (a1 a2 : Int32) (hR : Rel t H) (ht : t ≤ 1000) (kk : ∀ x H', Rel (t + 1) H' → K x x H') : pm_R (D + 200) M_PW_odds [.ref 0, .int a1, .int a2] H (pm_l fun x H1 => pm_R (D + 200) M_Mo_odds [.ref 55, .int a1, .int a2] H1 (pm_l fun y H2 => K x y H2)) := by
  obtain ⟨hb, L, n, now, m, hN, hT, hD⟩ := id hR
  have hC := hN.cs ht
  have hM := hN.ms ht
  have hn12 := hC.2.2.1
  have hB := hT.2.2.2.1
  have hSh := hT.2.2.2.2.2.1
  have en : (nI n - (1 : Int32)).toInt = (n : Int) - 1 := nm1_t (by omega)
  have hR1 : Rel (t + 1) H := hR.mono (Nat.le_succ _)
  by_cases hok : (0 ≤ a1.toInt ∧ a1.toInt < n) ∧ (0 ≤ a2.toInt ∧ a2.toInt ≤ 1)
  · obtain ⟨⟨p1, p2⟩, p3, p4⟩ := hok
    obtain ⟨b, _, rfl, eb⟩ := nI_tI a1 p1
    obtain ⟨w, _, rfl, es⟩ := nI_tI a2 p3
    have hbb : b < n := by omega
    have b0 : ¬ nI b < (0 : Int32) := nI_pos (by omega)
    have b1 : nI b ≤ nI n - (1 : Int32) := le_pred hbb (by omega)
    have b2 : ¬ lg_cmp (nI b).toInt64 (0 : Int64) < 0 := l_0 (by omega)
    have b3 : ¬ 0 < lg_cmp (nI b).toInt64 ((nI n - (1 : Int32)).toInt64) := l_n hbb (by omega)
    have b4 : (nI b).toNatClampNeg = b := nIc (by omega)
    have b5 : vp_in (nI b) 12 := vp_in_nI (by omega) (by decide)
    have w0 : ¬ nI w < (0 : Int32) := nI_pos (by omega)
    have w1 : nI w ≤ (1 : Int32) := nI_le (show w ≤ 1 by omega) (by decide)
    have w2 : ¬ lg_cmp (nI w).toInt64 (0 : Int64) < 0 := l_0 (by omega)
    have w3 : ¬ 0 < lg_cmp (nI w).toInt64 (1 : Int64) := l_c (by omega) (by show (w : Int) ≤ 1; omega)
    have w4 : (nI w).toNatClampNeg = w := nIc (by omega)
    have ew0 : (nI w = (0 : Int32)) = (w = 0) := i_eq w 0 (by omega) (by decide)
    obtain ⟨n1, n2, n3⟩ := hC.2.2.2.1 b hbb
    obtain ⟨m1, m2, m3⟩ := hM.2.2.2.1 b hbb
    obtain ⟨v1, v2, v3⟩ := hC.2.2.2.2 b hbb
    generalize (now b).1 = r at n1 m1 v1
    generalize (now b).2.1 = q at n2 m2 v2
    have e12 : ((12 : Int32) + nI b).toNatClampNeg = 12 + b := by rw [show (12 : Int32) + nI b = nI (12 + b) from nI_add 12 b]; exact nIc (by omega)
    have i12 : vp_in ((12 : Int32) + nI b) 41 := by rw [show (12 : Int32) + nI b = nI (12 + b) from nI_add 12 b]; exact vp_in_nI (by omega) (by decide)
    have i41 : vp_in (nI b) 41 := vp_in_nI (by omega) (by decide)
    have l0 : ∀ x : Nat, x < 2 ^ 31 → (lg_cmp (lN x) 0 = 0) = (x = 0) := fun x hx => by
      rw [lg_cmp0]
      exact propext (pk_lEQ (a := x) (b := 0) (by omega) (by decide))
    refine m_PW_odds _ _ ?_
    rw [b4, n1, n2, nI_add, hC.2.1, ew0]
    repeat (first | with_reducible refine bt b0 ?_ | with_reducible refine bf b0 ?_ | with_reducible refine nt b0 ?_ | with_reducible refine nf b0 ?_ | with_reducible refine And.intro b0 ?_ | with_reducible refine bt b1 ?_ | with_reducible refine bf b1 ?_ | with_reducible refine nt b1 ?_ | with_reducible refine nf b1 ?_ | with_reducible refine And.intro b1 ?_ | with_reducible refine bt w0 ?_ | with_reducible refine bf w0 ?_ | with_reducible refine nt w0 ?_ | with_reducible refine nf w0 ?_ | with_reducible refine And.intro w0 ?_ | with_reducible refine bt w1 ?_ | with_reducible refine bf w1 ?_ | with_reducible refine nt w1 ?_ | with_reducible refine nf w1 ?_ | with_reducible refine And.intro w1 ?_ | with_reducible refine bt b5 ?_ | with_reducible refine bf b5 ?_ | with_reducible refine nt b5 ?_ | with_reducible refine nf b5 ?_ | with_reducible refine And.intro b5 ?_)
    have eq0 : (nI (r + q) = (0 : Int32)) = (r + q = 0) := i_eq (r + q) 0 (by omega) (by decide)
    rw [eq0]
    have ref : ∀ x : Int64, (r + q = 0 → (w = 0 → x = lN 1) ∧ (¬ w = 0 → x = lN 2)) → (¬ r + q = 0 → (r = 0 → x = lN w) ∧ (¬ r = 0 → ∀ g, euO 20 (r + q) r = some g → (w = 0 → x = lN (r / g)) ∧ (¬ w = 0 → x = lN ((r + q) / g)))) → pm_R (D + 200) M_Mo_odds [.ref 55, .int (nI b), .int (nI w)] H (pm_l fun y H2 => K x y H2) := by
      intro x h1 h2
      refine m_Mo_odds _ _ ?_
      rw [b4, e12, m1, m2, hM.2.1, nI_l (show r < 2 ^ 31 by omega), nI_l (show q < 2 ^ 31 by omega), lN_add, l0 r (by omega), l0 (r + q) (by omega), ew0]
      repeat (first | with_reducible refine bt b2 ?_ | with_reducible refine bf b2 ?_ | with_reducible refine nt b2 ?_ | with_reducible refine nf b2 ?_ | with_reducible refine And.intro b2 ?_ | with_reducible refine bt b3 ?_ | with_reducible refine bf b3 ?_ | with_reducible refine nt b3 ?_ | with_reducible refine nf b3 ?_ | with_reducible refine And.intro b3 ?_ | with_reducible refine bt w2 ?_ | with_reducible refine bf w2 ?_ | with_reducible refine nt w2 ?_ | with_reducible refine nf w2 ?_ | with_reducible refine And.intro w2 ?_ | with_reducible refine bt w3 ?_ | with_reducible refine bf w3 ?_ | with_reducible refine nt w3 ?_ | with_reducible refine nf w3 ?_ | with_reducible refine And.intro w3 ?_ | with_reducible refine bt i41 ?_ | with_reducible refine bf i41 ?_ | with_reducible refine nt i41 ?_ | with_reducible refine nf i41 ?_ | with_reducible refine And.intro i41 ?_ | with_reducible refine bt i12 ?_ | with_reducible refine bf i12 ?_ | with_reducible refine nt i12 ?_ | with_reducible refine nf i12 ?_ | with_reducible refine And.intro i12 ?_)
      by_cases c : r + q = 0
      · first | refine bt c ?_ | refine bf c ?_ | refine nt c ?_ | refine nf c ?_
        obtain ⟨h11, h12⟩ := h1 c
        have k1 := kk x H hR1
        have ex : x = (nI w).toInt64 + (1 : Int64) := by
          rw [nI_l (by omega)]
          by_cases cw : w = 0
          · rw [h11 cw, cw]; rfl
          · rw [h12 cw, show w = 1 by omega]; rfl
        rw [← ex]
        exact k1
      · first | refine bt c ?_ | refine bf c ?_ | refine nt c ?_ | refine nf c ?_
        obtain ⟨h21, h22⟩ := h2 c
        by_cases c2 : r = 0
        · first | refine bt c2 ?_ | refine bf c2 ?_ | refine nt c2 ?_ | refine nf c2 ?_
          rw [nI_l (show w < 2 ^ 31 by omega), ← h21 c2]
          exact kk x H hR1
        · first | refine bt c2 ?_ | refine bf c2 ?_ | refine nt c2 ?_ | refine nf c2 ?_
          obtain ⟨g, hg⟩ := eu_some 10 (r + q) r (show r < 2 ^ 10 by omega)
          have hgp := eu_pos _ _ _ _ hg (Or.inl (by omega))
          have hgl := eu_le _ _ _ _ hg (Or.inl (by omega))
          obtain ⟨h31, h32⟩ := h22 c2 g hg
          refine m_Mo_commonOf _ _ ?_
          refine lp_gcdM ?_ 20 (r + q) r (by omega) (by omega) hg
          have hne : ¬ lN g = 0 := fun z => by have := (pk_lEQ (a := g) (b := 0) (by omega) (by decide)).mp z; omega
          rw [pk_lDiv (by omega) hgp (by omega), pk_lDiv (by omega) hgp (by omega)]
          have k1 := kk x H hR1
          refine ⟨fun cw => ⟨hne, ?_⟩, fun cw => ⟨hne, ?_⟩⟩
          · rw [← h32 cw]; exact k1
          · rw [← h31 cw]; exact k1
    by_cases c : r + q = 0
    · first | refine bt c ?_ | refine bf c ?_ | refine nt c ?_ | refine nf c ?_
      exact ⟨fun cw => ref _ (fun _ => ⟨fun z => absurd z cw, fun _ => rfl⟩) (fun z => absurd c z), fun cw => ref _ (fun _ => ⟨fun _ => rfl, fun z => absurd cw z⟩) (fun z => absurd c z)⟩
    · first | refine bt c ?_ | refine bf c ?_ | refine nt c ?_ | refine nf c ?_
      obtain ⟨g, hg⟩ := eu_some 10 (r + q) r (show r < 2 ^ 10 by omega)
      have hgp := eu_pos _ _ _ _ hg (Or.inl (by omega))
      have hgl := eu_le _ _ _ _ hg (Or.inl (by omega))
      refine m_PW_greatestDivisor _ _ ?_
      refine lp_gcdC ?_ 20 (r + q) r 0 (by decide) (by omega) (by omega) hg
      first | refine bt (nI_ne0 hgp (show g < 2 ^ 31 by omega)) ?_ | refine bf (nI_ne0 hgp (show g < 2 ^ 31 by omega)) ?_ | refine nt (nI_ne0 hgp (show g < 2 ^ 31 by omega)) ?_ | refine nf (nI_ne0 hgp (show g < 2 ^ 31 by omega)) ?_
      rw [pk_div (by omega) hgp (by omega), pk_div (by omega) hgp (by omega)]
      have hd1 : (r + q) / g ≤ r + q := Nat.div_le_self _ _
      have hd2 : r / g ≤ r := Nat.div_le_self _ _
      rw [nI_l (show (r + q) / g < 2 ^ 31 by omega), nI_l (show r / g < 2 ^ 31 by omega)]
      have g0 : r = 0 → g = r + q := fun z => by
        rw [z] at hg
        have : euO 20 (0 + q) 0 = some (0 + q) := rfl
        rw [this] at hg
        cases hg
        omega
      refine ⟨fun cw => ref _ (fun z => absurd z c) (fun _ => ⟨fun z => ?_, fun _ g' hg' => ?_⟩), fun cw => ref _ (fun z => absurd z c) (fun _ => ⟨fun z => ?_, fun _ g' hg' => ?_⟩)⟩
      · rw [g0 z, show w = 1 by omega, Nat.div_self (by omega)]
      · rw [hg] at hg'
        cases hg'
        exact ⟨fun z => absurd z cw, fun _ => rfl⟩
      · rw [z, cw, Nat.zero_div]
      · rw [hg] at hg'
        cases hg'
        exact ⟨fun _ => rfl, fun z => absurd cw z⟩
  · have hm : pm_R (D + 200) M_Mo_odds [.ref 55, .int a1, .int a2] H (pm_l fun y H2 => K (-9223372036854775808) y H2) := by
      refine m_Mo_odds _ _ ?_
      rw [hM.2.1]
      ((try (simp only [lgl, lgg, i2l_t, u32_0, u64_0, u32_1, u64_1, u32_2, u64_2, u32_3, u64_3, u32_4, u64_4, u32_5, u64_5, u32_7, u64_7, u32_12, u64_12, u32_24, u64_24, u32_30, u64_30, u32_49, u64_49, u32_60, u64_60, u32_99, u64_99, u32_255, u64_255, u32_999, u64_999, en])); (try (simp only [t_lt, t_le, u32_0, u64_0, u32_1, u64_1, u32_2, u64_2, u32_3, u64_3, u32_4, u64_4, u32_5, u64_5, u32_7, u64_7, u32_12, u64_12, u32_24, u64_24, u32_30, u64_30, u32_49, u64_49, u32_60, u64_60, u32_99, u64_99, u32_255, u64_255, u32_999, u64_999, en])); repeat' (first | with_reducible intro hh | with_reducible apply And.intro | exact vp_in_iff.mpr (by omega) | (exfalso; omega) | exact kk _ _ hR1))
    refine m_PW_odds _ _ ?_
    rw [hC.2.1]
    ((try (simp only [lgl, lgg, i2l_t, u32_0, u64_0, u32_1, u64_1, u32_2, u64_2, u32_3, u64_3, u32_4, u64_4, u32_5, u64_5, u32_7, u64_7, u32_12, u64_12, u32_24, u64_24, u32_30, u64_30, u32_49, u64_49, u32_60, u64_60, u32_99, u64_99, u32_255, u64_255, u32_999, u64_999, en])); (try (simp only [t_lt, t_le, u32_0, u64_0, u32_1, u64_1, u32_2, u64_2, u32_3, u64_3, u32_4, u64_4, u32_5, u64_5, u32_7, u64_7, u32_12, u64_12, u32_24, u64_24, u32_30, u64_30, u32_49, u64_49, u32_60, u64_60, u32_99, u64_99, u32_255, u64_255, u32_999, u64_999, en])); repeat' (first | with_reducible intro hh | with_reducible apply And.intro | exact vp_in_iff.mpr (by omega) | (exfalso; omega) | exact hm))
