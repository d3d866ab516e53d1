/-! how to spread playings over days -/
/-- so many on each day; the best lead so far; so many on each day there -/
abbrev Spr : Type := (Nat → Nat) × Int × (Nat → Nat)
def W_later (D B : Nat → Nat) : Nat → Bool
  | 0 => false
  | j + 1 => if D j = B j then W_later D B j else decide (B j < D j)
def W_lead (r : Row) : Int := (r.1 : Int) - r.2.1
def W_weigh (days : Nat) (r : Row) (st : Spr) : Spr :=
  if st.2.1 < W_lead r ∨ (W_lead r = st.2.1 ∧ W_later st.1 st.2.2 days = true) then (st.1, W_lead r, st.1) else st
def W_put (st : Spr) (day k : Nat) : Spr := (va_up st.1 day k, st.2)
/-- the loop of a day: k playings from r on; left may still be spread -/
def W_dlp (hb : Nat → Nat) (L : Law) (last day left : Nat) (sub : Nat → Row → Spr → Spr) : Nat → Nat → Row → Spr → Spr
  | 0, _, _, st => st
  | m + 1, k, r, st =>
    let r1 := if k = 0 then r else W_play hb L r 1
    if day = last ∧ k < left then W_dlp hb L last day left sub m (k + 1) r1 st
    else W_dlp hb L last day left sub m (k + 1) r1 (sub (left - k) (W_sleep hb r1 (hb 2)) (W_put st day k))
def W_day (hb : Nat → Nat) (L : Law) (last : Nat) : Nat → Nat → Nat → Row → Spr → Spr
  | 0, _, _, _, st => st
  | q + 1, day, left, r, st => W_dlp hb L last day left (fun l r' st' => if day = last then W_weigh (last + 1) r' st' else W_day hb L last q (day + 1) l r' st') (left + 1) 0 r st
/-- the spreading as it stands in the heap -/
def CSp (st : Spr) (H : pmT) : Prop := (∀ j, j < 5 → H.1 23 j = nI (st.1 j) ∧ st.1 j ≤ 12) ∧ (H.1 21 9).toInt = st.2.1 ∧ (st.2.1 = -2000000000 ∨ (∀ j, j < 5 → H.1 24 j = nI (st.2.2 j) ∧ st.2.2 j ≤ 12))
theorem lp_later {d : Nat} {K : Int32 → pmT → Prop} {H : pmT} {D B : Nat → Nat} (h1 : ∀ j, j < 5 → H.1 23 j = nI (D j) ∧ D j ≤ 12) (h2 : ∀ j, j < 5 → H.1 24 j = nI (B j) ∧ B j ≤ 12) : ∀ m, m ≤ 5 → K (if W_later D B m = true then 1 else 0) H → pm_RW none d M_Pl_isLater (pm_i K) 5 [(0, .ref 21), (1, .int (nI m - 1))] [] H
  | 0, hm, kk => by
    refine b_Pl_isLater_5 _ ?_
    have c0 : nI 0 - 1 < (0 : Int32) := by decide
    first | refine bt c0 ?_ | refine bf c0 ?_ | refine nt c0 ?_ | refine nf c0 ?_
    exact kk
  | m + 1, hm, kk => by
    have ih := lp_later (d := d) (K := K) h1 h2 m (by omega)
    refine b_Pl_isLater_5 _ ?_
    have e : nI (m + 1) - 1 = nI m := nI_pred m
    rw [e]
    have c0 : ¬ nI m < (0 : Int32) := nI_pos (by omega)
    first | refine bt c0 ?_ | refine bf c0 ?_ | refine nt c0 ?_ | refine nf c0 ?_
    obtain ⟨a1, a2⟩ := h1 m (by omega)
    obtain ⟨b1, b2⟩ := h2 m (by omega)
    have em : nI m + (-1 : Int32) = nI m - 1 := by rw [Int32.sub_eq_add_neg]
    rw [nIc (by omega), a1, b1, i_eq _ _ (by omega) (by omega), i_le _ _ (by omega) (by omega), em]
    refine ⟨vp_in_nI (by omega) (by decide), ?_⟩
    unfold W_later at kk
    by_cases c : D m = B m
    · rw [if_pos c] at kk
      first | refine bt c ?_ | refine bf c ?_ | refine nt c ?_ | refine nf c ?_
      exact ih kk
    · rw [if_neg c] at kk
      first | refine bt c ?_ | refine bf c ?_ | refine nt c ?_ | refine nf c ?_
      by_cases c2 : D m ≤ B m
      · first | refine bt c2 ?_ | refine bf c2 ?_ | refine nt c2 ?_ | refine nf c2 ?_
        rw [if_neg (by simpa using c2)] at kk
        exact kk
      · first | refine bt c2 ?_ | refine bf c2 ?_ | refine nt c2 ?_ | refine nf c2 ?_
        rw [if_pos (by simpa using c2)] at kk
        exact kk
theorem c_weigh {d last k0 : Nat} {K : pmT → Prop} {H : pmT} {st : Spr} {r : Row} (hl : last < 5) (el : H.1 21 7 = nI last) (hS : CSp st H) (hr : RV k0 r) (kk : ∀ H', fr [2110, 2400] H H' → CSp (W_weigh (last + 1) r st) H' → K H') : pm_R (d + 2) M_Pl_weigh [.ref 21, .int (nI r.1 - nI r.2.1)] H (pm_v K) := by
  obtain ⟨h1, h2, h3⟩ := hS
  have et : (nI r.1 - nI r.2.1).toInt = W_lead r := pk_sub_toInt (by have := hr.1; omega) (by have := hr.2.1; omega)
  have hrange : -999 ≤ W_lead r ∧ W_lead r ≤ 999 := by
    unfold W_lead
    have := hr.1
    have := hr.2.1
    omega
  refine m_Pl_weigh _ ?_
  have elt : (H.1 21 9 < nI r.1 - nI r.2.1) = (st.2.1 < W_lead r) := by
    apply propext
    rw [Int32.lt_iff_toInt_lt, h2, et]
  have eeq : (nI r.1 - nI r.2.1 = H.1 21 9) = (W_lead r = st.2.1) := by
    apply propext
    rw [← Int32.toInt_inj, h2, et]
  rw [elt, eeq]
  have new : ∀ H1 : pmT, fr [2110, 2400] H H1 → CSp (st.1, W_lead r, st.1) (va_up (pm_up H1.1 21 9 (nI r.1 - nI r.2.1)) 24 (va_cpy (H1.1 23) (H1.1 24) 0 0 5), H1.2) := by
    intro H1 f1
    have e23 : ∀ j, H1.1 23 j = H.1 23 j := fun j => f1.1 23 j rfl
    refine ⟨fun j hj => ⟨(e23 j).trans (h1 j hj).1, (h1 j hj).2⟩, et, Or.inr (fun j hj => ⟨?_, (h1 j hj).2⟩)⟩
    show va_up (pm_up H1.1 21 9 (nI r.1 - nI r.2.1)) 24 (va_cpy (H1.1 23) (H1.1 24) 0 0 5) 24 j = _
    rw [va_up_self, sb_cpy0 hj]
    exact (e23 j).trans (h1 j hj).1
  have fnew : ∀ H1 : pmT, fr [2110, 2400] H H1 → fr [2110, 2400] H (va_up (pm_up H1.1 21 9 (nI r.1 - nI r.2.1)) 24 (va_cpy (H1.1 23) (H1.1 24) 0 0 5), H1.2) := fun H1 f1 => (f1.up (o := 21) (k := 9) rfl).row (o := 24) (fun k => rfl)
  unfold W_weigh at kk
  by_cases c1 : st.2.1 < W_lead r
  · rw [if_pos (Or.inl c1)] at kk
    first | refine bt c1 ?_ | refine bf c1 ?_ | refine nt c1 ?_ | refine nf c1 ?_
    exact kk _ (fnew H fr.rf) (new H fr.rf)
  · first | refine bt c1 ?_ | refine bf c1 ?_ | refine nt c1 ?_ | refine nf c1 ?_
    by_cases c2 : W_lead r = st.2.1
    · first | refine bt c2 ?_ | refine bf c2 ?_ | refine nt c2 ?_ | refine nf c2 ?_
      have h4 : ∀ j, j < 5 → H.1 24 j = nI (st.2.2 j) ∧ st.2.2 j ≤ 12 := by
        rcases h3 with z | z
        · omega
        · exact z
      refine m_Pl_isLater ?_
      have e0 : nI last = nI (last + 1) - 1 := (nI_pred last).symm
      rw [el, e0]
      refine lp_later h1 h4 (last + 1) (by omega) ?_
      by_cases c3 : W_later st.1 st.2.2 (last + 1) = true
      · rw [if_pos c3]
        rw [if_pos (Or.inr ⟨c2, c3⟩)] at kk
        first | refine bt (show ¬ (1 : Int32) = 0 by decide) ?_ | refine bf (show ¬ (1 : Int32) = 0 by decide) ?_ | refine nt (show ¬ (1 : Int32) = 0 by decide) ?_ | refine nf (show ¬ (1 : Int32) = 0 by decide) ?_
        exact kk _ (fnew H fr.rf) (new H fr.rf)
      · rw [if_neg c3]
        rw [if_neg (fun z => z.elim c1 (fun q => c3 q.2))] at kk
        first | refine bt (show (0 : Int32) = 0 from rfl) ?_ | refine bf (show (0 : Int32) = 0 from rfl) ?_ | refine nt (show (0 : Int32) = 0 from rfl) ?_ | refine nf (show (0 : Int32) = 0 from rfl) ?_
        exact kk H fr.rf ⟨h1, h2, h3⟩
    · first | refine bt c2 ?_ | refine bf c2 ?_ | refine nt c2 ?_ | refine nf c2 ?_
      rw [if_neg (fun z => z.elim c1 (fun q => c2 q.1))] at kk
      exact kk H fr.rf ⟨h1, h2, h3⟩
abbrev JD : List Nat := [105, 900, 1000, 1100, 1200, 1300, 1800, 1900, 2110, 2300, 2400]
/-- the bars of the days ahead of this one are as they were -/
def low (day : Nat) (H H' : pmT) : Prop := ∀ o k, 9 ≤ o → o ≤ 13 → k < day → H'.1 o k = H.1 o k
theorem low.rf {day : Nat} {H : pmT} : low day H H := fun _ _ _ _ _ => rfl
theorem low.tr {day : Nat} {H H1 H2 : pmT} (a : low day H H1) (b : low day H1 H2) : low day H H2 := fun o k h1 h2 h3 => (b o k h1 h2 h3).trans (a o k h1 h2 h3)
theorem low.mono {day day' : Nat} {H H' : pmT} (a : low day H H') (h : day' ≤ day) : low day' H H' := fun o k h1 h2 h3 => a o k h1 h2 (Nat.lt_of_lt_of_le h3 h)
theorem low.fb {day b : Nat} {S R : List Nat} {H H' : pmT} (a : fb S R b H H') (g : (pm_has S 900 || (pm_has S 1000 || (pm_has S 1100 || (pm_has S 1200 || pm_has S 1300)))) = false) (h : day ≤ b) : low day H H' := by
  simp only [Bool.or_eq_false_iff] at g
  intro o k h1 h2 h3
  have hne : k ≠ b := by omega
  rcases (show o = 9 ∨ o = 10 ∨ o = 11 ∨ o = 12 ∨ o = 13 by omega) with e | e | e | e | e <;> subst e
  · exact a.1 9 k g.1 (Or.inr hne)
  · exact a.1 10 k g.2.1 (Or.inr hne)
  · exact a.1 11 k g.2.2.1 (Or.inr hne)
  · exact a.1 12 k g.2.2.2.1 (Or.inr hne)
  · exact a.1 13 k g.2.2.2.2 (Or.inr hne)
theorem TR.low {day b : Nat} {H H' : pmT} {r : Row} (h : TR H b r) (a : low day H H') (hb : b < day) : TR H' b r :=
  ⟨(a 9 b (by decide) (by decide) hb).trans h.1, (a 10 b (by decide) (by decide) hb).trans h.2.1, (a 11 b (by decide) (by decide) hb).trans h.2.2.1, (a 12 b (by decide) (by decide) hb).trans h.2.2.2.1, (a 13 b (by decide) (by decide) hb).trans h.2.2.2.2⟩
theorem CSp.fr {S : List Nat} {st : Spr} {H H' : pmT} (h : CSp st H) (a : fr S H H') (g : (pm_has S 2110 || (pm_has S 2300 || pm_has S 2400)) = false) : CSp st H' := by
  simp only [Bool.or_eq_false_iff] at g
  refine ⟨fun j hj => ⟨(a.1 23 j g.2.1).trans (h.1 j hj).1, (h.1 j hj).2⟩, ?_, ?_⟩
  · rw [a.1 21 9 g.1]; exact h.2.1
  · rcases h.2.2 with z | z
    · exact Or.inl z
    · exact Or.inr (fun j hj => ⟨(a.1 24 j g.2.2).trans (z j hj).1, (z j hj).2⟩)
theorem CSp.put {st : Spr} {H : pmT} {day k : Nat} (h : CSp st H) (hk : k ≤ 12) : CSp (W_put st day k) (pm_up H.1 23 day (nI k), H.2) := by
  refine ⟨fun j hj => ?_, h.2.1, h.2.2⟩
  show pm_up H.1 23 day (nI k) 23 j = nI (va_up st.1 day k j) ∧ va_up st.1 day k j ≤ 12
  rw [pm_up_self]
  unfold upd va_up
  split
  · exact ⟨rfl, hk⟩
  · exact h.1 j hj
theorem lp_try {d q day last left : Nat} {hb : Nat → Nat} {L : Law} {K : pmT → Prop} {H0 : pmT} (hl5 : last < 5) (hdl : day ≤ last) (hl12 : left ≤ 12) (hX : CX hb L H0) (el : H0.1 21 7 = nI last) (sub : Nat → Row → Spr → Spr) (esub' : day ≠ last → sub = W_day hb L last q (day + 1))
    (hsub : day < last → ∀ (left' : Nat) (r' : Row) (st' : Spr) (H' : pmT), left' ≤ 12 → fr JD H0 H' → TR H' (day + 1) r' → RV 1000 r' → CSp st' H' → ∀ {K' : pmT → Prop}, (∀ H'', fr JD H0 H'' → low (day + 1) H' H'' → CSp (W_day hb L last q (day + 1) left' r' st') H'' → K' H'') → pm_R (d + 3) M_Pl_tryDay [.ref 21, .ref 1, .int (nI (day + 1)), .int (nI left')] H' (pm_v K')) (R : Spr) (kk : ∀ H', fr JD H0 H' → low day H0 H' → CSp R H' → K H') :
    ∀ (m k k0 : Nat) (r : Row) (st : Spr) (H : pmT), k + m = left + 1 → k0 + m < 2 ^ 19 → fr JD H0 H → low day H0 H → TR H day r → RV k0 r → CSp st H → W_dlp hb L last day left (fun l r' st' => if day = last then W_weigh (last + 1) r' st' else W_day hb L last q (day + 1) l r' st') m k r st = R → pm_RW none (d + 4) M_Pl_tryDay (pm_v K) 17 [(0, .ref 21), (1, .ref 1), (2, .int (nI day)), (3, .int (nI left)), (4, .int (nI k))] [] H
  | 0, k, k0, r, st, H, hk, hk0, hf, hlow, hR, hr, hS, e => by
    refine b_Pl_tryDay_17 _ _ _ ?_
    rw [i_lt _ _ (by omega) (by omega)]
    first | refine bt (show left < k by omega) ?_ | refine bf (show left < k by omega) ?_ | refine nt (show left < k by omega) ?_ | refine nf (show left < k by omega) ?_
    exact kk H hf hlow (by rw [← e]; exact hS)
  | m + 1, k, k0, r, st, H, hk, hk0, hf, hlow, hR, hr, hS, ew => by
    have ih := lp_try (d := d) (q := q) hl5 hdl hl12 hX el sub esub' hsub R kk m
    refine b_Pl_tryDay_17 _ _ _ ?_
    have ea : nI k + (1 : Int32) = nI (k + 1) := nI_1 k
    have edd : nI day + (1 : Int32) = nI (day + 1) := nI_1 day
    have esub : nI left - nI k = nI (left - k) := pk_sub (by omega)
    have ek0 : (nI k ≤ 0) = (k ≤ 0) := i_le k 0 (by omega) (by decide)
    rw [i_lt _ _ (by omega) (by omega), ea, ek0]
    first | refine bt (show ¬ left < k by omega) ?_ | refine bf (show ¬ left < k by omega) ?_ | refine nt (show ¬ left < k by omega) ?_ | refine nf (show ¬ left < k by omega) ?_
    unfold W_dlp at ew
    dsimp only at ew
    by_cases c0 : k ≤ 0
    · first | refine bt c0 ?_ | refine bf c0 ?_ | refine nt c0 ?_ | refine nf c0 ?_
      rw [if_pos (show k = 0 by omega)] at ew
      obtain ⟨r1, er1⟩ : ∃ r1, r1 = r := ⟨_, rfl⟩
      rw [← er1] at ew hR hr
      have hr1 : RV (k0 + 1) r1 := hr.mono (Nat.le_succ _)
      have elX : H.1 21 7 = nI last := (hf.1 21 7 rfl).trans el
      rw [elX, i_eq _ _ (by omega) (by omega)]
      by_cases cl0 : day = last
      · first | refine bt cl0 ?_ | refine bf cl0 ?_ | refine nt cl0 ?_ | refine nf cl0 ?_
        rw [i_le _ _ (by omega) (by omega)]
        by_cases ck : left ≤ k
        · first | refine bt ck ?_ | refine bf ck ?_ | refine nt ck ?_ | refine nf ck ?_
          rw [if_neg (fun z => absurd z.2 (by omega))] at ew
          · rw [nIc (show day < 2 ^ 31 by omega), edd, esub]
            refine ⟨vp_in_nI (by omega) (by decide), ?_⟩
            have q0 : fr JD H (pm_up H.1 23 day (nI k), H.2) := fr.rf.up (o := 23) (k := day) rfl
            refine c_takeBar_8_8 (r := r1) (by omega) (by omega) hR (fun H1 f1 hR1 => ?_)
            have q1 : fr JD (pm_up H.1 23 day (nI k), H.2) H1 := f1.fr rfl rfl
            have hC1 := hX.fr (hf.tr (q0.tr q1)) rfl rfl
            rw [hC1.1.2.2.1]
            refine c_sleepOver_th hC1.1 hC1.2.1 hR1 hr1 (by omega) (by omega) hC1.2.1.2.2.1 (fun H2 f2 hR2 => ?_)
            have q2 : fr JD H1 H2 := f2.fr rfl rfl
            have hf2 := hf.tr (q0.tr (q1.tr q2))
            have el2 : H2.1 21 7 = nI last := (hf2.1 21 7 rfl).trans el
            have hl2 : low (day + 1) H H2 := (low.tr (fun o k' h1 h2 h3 => by show pm_up H.1 23 day (nI k) o k' = _; rw [pm_up_ne _ _ _ (by omega)]) ((low.fb f1 rfl (Nat.le_refl _)).tr (low.fb f2 rfl (Nat.le_refl _))))
            have hR2' : TR H2 day r1 := TR.low hR hl2 (by omega)
            have hS2 : CSp (W_put st day k) H2 := ((CSp.put hS (by omega)).fr (S := [900, 1000, 1100, 1200, 1300]) (f1.fr rfl rfl) rfl).fr (S := [900, 1000, 1200, 1300]) (f2.fr rfl rfl) rfl
            have hll : low day H0 H2 := hlow.tr (hl2.mono (Nat.le_succ _))
            rw [el2, i_eq _ _ (by omega) (by omega)]
            by_cases cl : day = last
            · first | refine bt cl ?_ | refine bf cl ?_ | refine nt cl ?_ | refine nf cl ?_
              rw [nIc (show day + 1 < 2 ^ 31 by omega), hR2.1, hR2.2.1]
              refine ⟨vp_in_nI (by omega) (by decide), ?_⟩
              refine c_weigh (by omega) el2 hS2 (RV_sleep hb hr1 (hb 2)) (fun H3 f3 hS3 => ?_)
              have q3 : fr JD H2 H3 := f3.mono rfl
              exact ih (k + 1) (k0 + 1) r1 _ H3 (by omega) (by omega) (hf2.tr q3) (hll.tr (fun o k' h1 h2 h3 => by
                rcases (show o = 9 ∨ o = 10 ∨ o = 11 ∨ o = 12 ∨ o = 13 by omega) with e | e | e | e | e <;> subst e <;> exact f3.1 _ k' rfl)) (hR2'.fr f3 rfl) hr1 hS3 (by
                rw [← ew]
                simp only [if_pos cl])
            · first | refine bt cl ?_ | refine bf cl ?_ | refine nt cl ?_ | refine nf cl ?_
              refine hsub (by omega) (left - k) _ (W_put st day k) H2 (by omega) hf2 hR2 ((RV_sleep hb hr1 (hb 2)).mono (Nat.zero_le 1000)) hS2 (fun H3 f3 l3 hS3 => ?_)
              exact ih (k + 1) (k0 + 1) r1 _ H3 (by omega) (by omega) f3 (hll.tr (l3.mono (Nat.le_succ _))) (hR2'.low l3 (Nat.lt_succ_self _)) hr1 hS3 (by
                rw [← ew]
                simp only [if_neg cl])
        · first | refine bt ck ?_ | refine bf ck ?_ | refine nt ck ?_ | refine nf ck ?_
          rw [if_pos ⟨cl0, by omega⟩] at ew
          exact ih (k + 1) (k0 + 1) r1 st H (by omega) (by omega) hf hlow hR hr1 hS ew
      · first | refine bt cl0 ?_ | refine bf cl0 ?_ | refine nt cl0 ?_ | refine nf cl0 ?_
        rw [if_neg (fun z => cl0 z.1)] at ew
        · rw [nIc (show day < 2 ^ 31 by omega), edd, esub]
          refine ⟨vp_in_nI (by omega) (by decide), ?_⟩
          have q0 : fr JD H (pm_up H.1 23 day (nI k), H.2) := fr.rf.up (o := 23) (k := day) rfl
          refine c_takeBar_8_8 (r := r1) (by omega) (by omega) hR (fun H1 f1 hR1 => ?_)
          have q1 : fr JD (pm_up H.1 23 day (nI k), H.2) H1 := f1.fr rfl rfl
          have hC1 := hX.fr (hf.tr (q0.tr q1)) rfl rfl
          rw [hC1.1.2.2.1]
          refine c_sleepOver_th hC1.1 hC1.2.1 hR1 hr1 (by omega) (by omega) hC1.2.1.2.2.1 (fun H2 f2 hR2 => ?_)
          have q2 : fr JD H1 H2 := f2.fr rfl rfl
          have hf2 := hf.tr (q0.tr (q1.tr q2))
          have el2 : H2.1 21 7 = nI last := (hf2.1 21 7 rfl).trans el
          have hl2 : low (day + 1) H H2 := (low.tr (fun o k' h1 h2 h3 => by show pm_up H.1 23 day (nI k) o k' = _; rw [pm_up_ne _ _ _ (by omega)]) ((low.fb f1 rfl (Nat.le_refl _)).tr (low.fb f2 rfl (Nat.le_refl _))))
          have hR2' : TR H2 day r1 := TR.low hR hl2 (by omega)
          have hS2 : CSp (W_put st day k) H2 := ((CSp.put hS (by omega)).fr (S := [900, 1000, 1100, 1200, 1300]) (f1.fr rfl rfl) rfl).fr (S := [900, 1000, 1200, 1300]) (f2.fr rfl rfl) rfl
          have hll : low day H0 H2 := hlow.tr (hl2.mono (Nat.le_succ _))
          rw [el2, i_eq _ _ (by omega) (by omega)]
          by_cases cl : day = last
          · first | refine bt cl ?_ | refine bf cl ?_ | refine nt cl ?_ | refine nf cl ?_
            rw [nIc (show day + 1 < 2 ^ 31 by omega), hR2.1, hR2.2.1]
            refine ⟨vp_in_nI (by omega) (by decide), ?_⟩
            refine c_weigh (by omega) el2 hS2 (RV_sleep hb hr1 (hb 2)) (fun H3 f3 hS3 => ?_)
            have q3 : fr JD H2 H3 := f3.mono rfl
            exact ih (k + 1) (k0 + 1) r1 _ H3 (by omega) (by omega) (hf2.tr q3) (hll.tr (fun o k' h1 h2 h3 => by
              rcases (show o = 9 ∨ o = 10 ∨ o = 11 ∨ o = 12 ∨ o = 13 by omega) with e | e | e | e | e <;> subst e <;> exact f3.1 _ k' rfl)) (hR2'.fr f3 rfl) hr1 hS3 (by
              rw [← ew]
              simp only [if_pos cl])
          · first | refine bt cl ?_ | refine bf cl ?_ | refine nt cl ?_ | refine nf cl ?_
            refine hsub (by omega) (left - k) _ (W_put st day k) H2 (by omega) hf2 hR2 ((RV_sleep hb hr1 (hb 2)).mono (Nat.zero_le 1000)) hS2 (fun H3 f3 l3 hS3 => ?_)
            exact ih (k + 1) (k0 + 1) r1 _ H3 (by omega) (by omega) f3 (hll.tr (l3.mono (Nat.le_succ _))) (hR2'.low l3 (Nat.lt_succ_self _)) hr1 hS3 (by
              rw [← ew]
              simp only [if_neg cl])
    · first | refine bt c0 ?_ | refine bf c0 ?_ | refine nt c0 ?_ | refine nf c0 ?_
      rw [if_neg (show ¬ k = 0 by omega)] at ew
      refine c_playOnce_th (s := 1) (hX.fr hf rfl rfl) hR hr (by omega) (by omega) (by decide) (fun H9 f9 hR9 _ => ?_)
      have hr1 := RV_play hb L hr 1
      have hf9 : fr JD H0 H9 := hf.tr (f9.fr rfl rfl)
      have hl9 : low day H0 H9 := hlow.tr (low.fb f9 rfl (Nat.le_refl _))
      have hS9 : CSp st H9 := hS.fr (S := [105, 900, 1000, 1200, 1300, 1800, 1900]) (f9.fr rfl rfl) rfl
      generalize W_play hb L r 1 = r1 at ew hR9 hr1
      have elX : H9.1 21 7 = nI last := (hf9.1 21 7 rfl).trans el
      rw [elX, i_eq _ _ (by omega) (by omega)]
      by_cases cl0 : day = last
      · first | refine bt cl0 ?_ | refine bf cl0 ?_ | refine nt cl0 ?_ | refine nf cl0 ?_
        rw [i_le _ _ (by omega) (by omega)]
        by_cases ck : left ≤ k
        · first | refine bt ck ?_ | refine bf ck ?_ | refine nt ck ?_ | refine nf ck ?_
          rw [if_neg (fun z => absurd z.2 (by omega))] at ew
          · rw [nIc (show day < 2 ^ 31 by omega), edd, esub]
            refine ⟨vp_in_nI (by omega) (by decide), ?_⟩
            have q0 : fr JD H9 (pm_up H9.1 23 day (nI k), H9.2) := fr.rf.up (o := 23) (k := day) rfl
            refine c_takeBar_8_8 (r := r1) (by omega) (by omega) hR9 (fun H1 f1 hR1 => ?_)
            have q1 : fr JD (pm_up H9.1 23 day (nI k), H9.2) H1 := f1.fr rfl rfl
            have hC1 := hX.fr (hf9.tr (q0.tr q1)) rfl rfl
            rw [hC1.1.2.2.1]
            refine c_sleepOver_th hC1.1 hC1.2.1 hR1 hr1 (by omega) (by omega) hC1.2.1.2.2.1 (fun H2 f2 hR2 => ?_)
            have q2 : fr JD H1 H2 := f2.fr rfl rfl
            have hf2 := hf9.tr (q0.tr (q1.tr q2))
            have el2 : H2.1 21 7 = nI last := (hf2.1 21 7 rfl).trans el
            have hl2 : low (day + 1) H9 H2 := (low.tr (fun o k' h1 h2 h3 => by show pm_up H9.1 23 day (nI k) o k' = _; rw [pm_up_ne _ _ _ (by omega)]) ((low.fb f1 rfl (Nat.le_refl _)).tr (low.fb f2 rfl (Nat.le_refl _))))
            have hR2' : TR H2 day r1 := TR.low hR9 hl2 (by omega)
            have hS2 : CSp (W_put st day k) H2 := ((CSp.put hS9 (by omega)).fr (S := [900, 1000, 1100, 1200, 1300]) (f1.fr rfl rfl) rfl).fr (S := [900, 1000, 1200, 1300]) (f2.fr rfl rfl) rfl
            have hll : low day H0 H2 := hl9.tr (hl2.mono (Nat.le_succ _))
            rw [el2, i_eq _ _ (by omega) (by omega)]
            by_cases cl : day = last
            · first | refine bt cl ?_ | refine bf cl ?_ | refine nt cl ?_ | refine nf cl ?_
              rw [nIc (show day + 1 < 2 ^ 31 by omega), hR2.1, hR2.2.1]
              refine ⟨vp_in_nI (by omega) (by decide), ?_⟩
              refine c_weigh (by omega) el2 hS2 (RV_sleep hb hr1 (hb 2)) (fun H3 f3 hS3 => ?_)
              have q3 : fr JD H2 H3 := f3.mono rfl
              exact ih (k + 1) (k0 + 1) r1 _ H3 (by omega) (by omega) (hf2.tr q3) (hll.tr (fun o k' h1 h2 h3 => by
                rcases (show o = 9 ∨ o = 10 ∨ o = 11 ∨ o = 12 ∨ o = 13 by omega) with e | e | e | e | e <;> subst e <;> exact f3.1 _ k' rfl)) (hR2'.fr f3 rfl) hr1 hS3 (by
                rw [← ew]
                simp only [if_pos cl])
            · first | refine bt cl ?_ | refine bf cl ?_ | refine nt cl ?_ | refine nf cl ?_
              refine hsub (by omega) (left - k) _ (W_put st day k) H2 (by omega) hf2 hR2 ((RV_sleep hb hr1 (hb 2)).mono (Nat.zero_le 1000)) hS2 (fun H3 f3 l3 hS3 => ?_)
              exact ih (k + 1) (k0 + 1) r1 _ H3 (by omega) (by omega) f3 (hll.tr (l3.mono (Nat.le_succ _))) (hR2'.low l3 (Nat.lt_succ_self _)) hr1 hS3 (by
                rw [← ew]
                simp only [if_neg cl])
        · first | refine bt ck ?_ | refine bf ck ?_ | refine nt ck ?_ | refine nf ck ?_
          rw [if_pos ⟨cl0, by omega⟩] at ew
          exact ih (k + 1) (k0 + 1) r1 st H9 (by omega) (by omega) hf9 hl9 hR9 hr1 hS9 ew
      · first | refine bt cl0 ?_ | refine bf cl0 ?_ | refine nt cl0 ?_ | refine nf cl0 ?_
        rw [if_neg (fun z => cl0 z.1)] at ew
        · rw [nIc (show day < 2 ^ 31 by omega), edd, esub]
          refine ⟨vp_in_nI (by omega) (by decide), ?_⟩
          have q0 : fr JD H9 (pm_up H9.1 23 day (nI k), H9.2) := fr.rf.up (o := 23) (k := day) rfl
          refine c_takeBar_8_8 (r := r1) (by omega) (by omega) hR9 (fun H1 f1 hR1 => ?_)
          have q1 : fr JD (pm_up H9.1 23 day (nI k), H9.2) H1 := f1.fr rfl rfl
          have hC1 := hX.fr (hf9.tr (q0.tr q1)) rfl rfl
          rw [hC1.1.2.2.1]
          refine c_sleepOver_th hC1.1 hC1.2.1 hR1 hr1 (by omega) (by omega) hC1.2.1.2.2.1 (fun H2 f2 hR2 => ?_)
          have q2 : fr JD H1 H2 := f2.fr rfl rfl
          have hf2 := hf9.tr (q0.tr (q1.tr q2))
          have el2 : H2.1 21 7 = nI last := (hf2.1 21 7 rfl).trans el
          have hl2 : low (day + 1) H9 H2 := (low.tr (fun o k' h1 h2 h3 => by show pm_up H9.1 23 day (nI k) o k' = _; rw [pm_up_ne _ _ _ (by omega)]) ((low.fb f1 rfl (Nat.le_refl _)).tr (low.fb f2 rfl (Nat.le_refl _))))
          have hR2' : TR H2 day r1 := TR.low hR9 hl2 (by omega)
          have hS2 : CSp (W_put st day k) H2 := ((CSp.put hS9 (by omega)).fr (S := [900, 1000, 1100, 1200, 1300]) (f1.fr rfl rfl) rfl).fr (S := [900, 1000, 1200, 1300]) (f2.fr rfl rfl) rfl
          have hll : low day H0 H2 := hl9.tr (hl2.mono (Nat.le_succ _))
          rw [el2, i_eq _ _ (by omega) (by omega)]
          by_cases cl : day = last
          · first | refine bt cl ?_ | refine bf cl ?_ | refine nt cl ?_ | refine nf cl ?_
            rw [nIc (show day + 1 < 2 ^ 31 by omega), hR2.1, hR2.2.1]
            refine ⟨vp_in_nI (by omega) (by decide), ?_⟩
            refine c_weigh (by omega) el2 hS2 (RV_sleep hb hr1 (hb 2)) (fun H3 f3 hS3 => ?_)
            have q3 : fr JD H2 H3 := f3.mono rfl
            exact ih (k + 1) (k0 + 1) r1 _ H3 (by omega) (by omega) (hf2.tr q3) (hll.tr (fun o k' h1 h2 h3 => by
              rcases (show o = 9 ∨ o = 10 ∨ o = 11 ∨ o = 12 ∨ o = 13 by omega) with e | e | e | e | e <;> subst e <;> exact f3.1 _ k' rfl)) (hR2'.fr f3 rfl) hr1 hS3 (by
              rw [← ew]
              simp only [if_pos cl])
          · first | refine bt cl ?_ | refine bf cl ?_ | refine nt cl ?_ | refine nf cl ?_
            refine hsub (by omega) (left - k) _ (W_put st day k) H2 (by omega) hf2 hR2 ((RV_sleep hb hr1 (hb 2)).mono (Nat.zero_le 1000)) hS2 (fun H3 f3 l3 hS3 => ?_)
            exact ih (k + 1) (k0 + 1) r1 _ H3 (by omega) (by omega) f3 (hll.tr (l3.mono (Nat.le_succ _))) (hR2'.low l3 (Nat.lt_succ_self _)) hr1 hS3 (by
              rw [← ew]
              simp only [if_neg cl])
theorem c_tryDay {last : Nat} {hb : Nat → Nat} {L : Law} (hl5 : last < 5) : ∀ (q d day left k0 : Nat) (r : Row) (st : Spr) (H : pmT) {K : pmT → Prop}, day + q = last → left ≤ 12 → CX hb L H → H.1 21 7 = nI last → TR H day r → RV k0 r → k0 < 2 ^ 18 → CSp st H → (∀ H', fr JD H H' → low day H H' → CSp (W_day hb L last (q + 1) day left r st) H' → K H') → pm_R (d + q + 4) M_Pl_tryDay [.ref 21, .ref 1, .int (nI day), .int (nI left)] H (pm_v K)
  | q, d, day, left, k0, r, st, H, K, hq, hl12, hX, el, hR, hr, hk, hS, kk => by
    refine m_Pl_tryDay _ _ ?_
    rw [el, i_lt _ _ (by omega) (by omega)]
    have c5 : nI day < (5 : Int32) := nI_lt (a := day) (b := 5) (by omega) (by decide)
    first | refine bt (show ¬ last < day by omega) ?_ | refine bf (show ¬ last < day by omega) ?_ | refine nt (show ¬ last < day by omega) ?_ | refine nf (show ¬ last < day by omega) ?_
    first | refine bt c5 ?_ | refine bf c5 ?_ | refine nt c5 ?_ | refine nf c5 ?_
    refine lp_try (d := d + q) (q := q) hl5 (by omega) hl12 hX el (W_day hb L last q (day + 1)) (fun _ => rfl) (fun hlt left' r' st' H' h1 h2 h3 h4 h5 {K'} k' => ?_) _ kk (left + 1) 0 k0 r st H (by omega) (by omega) fr.rf low.rf hR hr hS rfl
    cases q with
    | zero => omega
    | succ q' =>
      have h := c_tryDay hl5 q' d (day + 1) left' 1000 r' st' H' (K := K') (by omega) h1 (hX.fr h2 rfl rfl) ((h2.1 21 7 rfl).trans el) h3 h4 (by decide) h5 (fun H'' f l s => k' H'' (h2.tr f) l s)
      exact h
def W_spread (hb : Nat → Nat) (L : Law) (days n : Nat) (r : Row) (D : Nat → Nat) : Spr := W_day hb L (days - 1) days 0 n r (D, -2000000000, fun _ => 0)
theorem c_spread {d n b N days : Nat} {hb : Nat → Nat} {L : Law} {now : Nat → Row} {K : pmT → Prop} {H : pmT} (hC : CS hb L n now H) (hbn : b < n) (hN : N ≤ 12) (hd1 : 1 ≤ days) (hd5 : days ≤ 5) (hD : ∀ j, j < 5 → ∃ q, q ≤ 12 ∧ H.1 23 j = nI q) (kk : ∀ D H', (∀ j, j < 5 → D j ≤ 12) → fr JS H H' → CSp (W_spread hb L days N (now b) D) H' → K H') : pm_R (d + 10) M_Pl_spreadOver [.ref 21, .ref 1, .int (nI b), .int (nI N), .int (nI days)] H (pm_v K) := by
  have h12 : b < 12 := Nat.lt_of_lt_of_le hbn hC.2.2.1
  refine m_Pl_spreadOver _ _ _ ?_
  have es : nI days - (1 : Int32) = nI (days - 1) := i_s1 hd1
  rw [es]
  obtain ⟨D, hD'⟩ : ∃ D : Nat → Nat, ∀ j, j < 5 → H.1 23 j = nI (D j) ∧ D j ≤ 12 := by
    refine ⟨fun j => (H.1 23 j).toNatClampNeg, fun j hj => ?_⟩
    obtain ⟨q, hq, e⟩ := hD j hj
    show H.1 23 j = nI (H.1 23 j).toNatClampNeg ∧ (H.1 23 j).toNatClampNeg ≤ 12
    rw [e, nIc (by omega)]
    exact ⟨rfl, hq⟩
  have q0 : fr JS H (pm_up (pm_up H.1 21 7 (nI (days - 1))) 21 9 (-2000000000), H.2) := (fr.rf.up (o := 21) (k := 7) rfl).up (o := 21) (k := 9) rfl
  have hC0 := CS_frS hC q0
  refine c_takeBar_8_2 (a := 0) (by decide) h12 (hC0.2.2.2.1 b hbn) (fun H1 f1 hR => ?_)
  have q1 : fr JS (pm_up (pm_up H.1 21 7 (nI (days - 1))) 21 9 (-2000000000), H.2) H1 := f1.fr rfl rfl
  have hC1 := CS_frS hC0 q1
  have eL : H1.1 21 7 = nI (days - 1) := (f1.1 21 7 rfl (Or.inl rfl)).trans rfl
  have hS : CSp (D, -2000000000, fun _ => 0) H1 := by
    refine ⟨fun j hj => ⟨(f1.1 23 j rfl (Or.inl rfl)).trans (hD' j hj).1, (hD' j hj).2⟩, ?_, Or.inl rfl⟩
    rw [f1.1 21 9 rfl (Or.inl rfl)]
    rfl
  have fin := c_tryDay (last := days - 1) (hb := hb) (L := L) (by omega) (days - 1) (d + 5 - (days - 1)) 0 N 1000 (now b) (D, -2000000000, fun _ => 0) H1 (K := fun H2 => pm_v K none H2) (by omega) hN hC1.1 eL hR (hC.2.2.2.2 b hbn) (by decide) hS (fun H' f _ s => kk D H' (fun j hj => (hD' j hj).2) ((q0.tr q1).tr (f.mono rfl)) (by
    unfold W_spread
    rw [show days - 1 + 1 = days by omega] at s
    exact s))
  rw [show d + 5 - (days - 1) + (days - 1) + 4 = d + 9 by omega] at fin
  exact fin
