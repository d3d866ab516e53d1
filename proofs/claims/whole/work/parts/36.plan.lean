/-! plans of the class -/
/-- the class with n bars: habits, law, bars; what thought may change -/
abbrev JC : List Nat := [105, 801, 900, 1000, 1100, 1200, 1300, 1800, 1900, 2101, 2102, 2103, 2104, 2105, 2106, 2107, 2108, 2109, 2110, 2200, 2400, 2501]
abbrev JS : List Nat := 2300 :: JC
def CS (hb : Nat → Nat) (L : Law) (n : Nat) (now : Nat → Row) (H : pmT) : Prop := CX hb L H ∧ H.1 2 0 = nI n ∧ n ≤ 12 ∧ (∀ b, b < n → NR H b (now b)) ∧ (∀ b, b < n → RV 1000 (now b))
theorem CS.fr {hb : Nat → Nat} {L : Law} {n : Nat} {now : Nat → Row} {H H' : pmT} (h : CS hb L n now H) (a : fr JC H H') : CS hb L n now H' :=
  ⟨h.1.fr a rfl rfl, (a.1 2 0 rfl).trans h.2.1, h.2.2.1, fun b hb0 => (h.2.2.2.1 b hb0).fr a rfl, h.2.2.2.2⟩
theorem CS_frS {hb : Nat → Nat} {L : Law} {n : Nat} {now : Nat → Row} {H H' : pmT} (h : CS hb L n now H) (a : fr JS H H') : CS hb L n now H' :=
  ⟨h.1.fr a rfl rfl, (a.1 2 0 rfl).trans h.2.1, h.2.2.1, fun b hb0 => (h.2.2.2.1 b hb0).fr a rfl, h.2.2.2.2⟩
theorem CS.fades {hb : Nat → Nat} {L : Law} {n : Nat} {now : Nat → Row} {H : pmT} (h : CS hb L n now H) : H.1 20 2 = nI (hb 2) ∧ hb 2 ≤ 12 := ⟨h.1.1.2.2.1, h.1.2.1.2.2.1⟩
/-- from how it is: how many playings till it is right -/
def W_till (hb : Nat → Nat) (L : Law) (s : Nat) : Nat → Nat → Row → Int32
  | 0, _, _ => -2
  | m + 1, k, r => if r.2.1 < r.1 then nI k else W_till hb L s m (k + 1) (W_play hb L r s)
theorem lp_till {d b s : Nat} {hb : Nat → Nat} {L : Law} {K : Int32 → pmT → Prop} {H0 : pmT} (hb12 : b < 12) (hs : s ≤ 1) (hX : CX hb L H0) : ∀ (m k k0 : Nat) (r : Row) (H : pmT), k + m = 100 → k0 + m < 2 ^ 20 → fr JC H0 H → TR H b r → RV k0 r → (∀ H', fr JC H0 H' → K (W_till hb L s m k r) H') → pm_RW none (d + 4) M_Pl_tillRight (pm_i K) 3 [(1, .ref 1), (2, .int (nI b)), (3, .int (nI s)), (4, .int (nI k))] [] H
  | 0, k, k0, r, H, hk, hk0, hf, hR, hr, kk => by
    refine b_Pl_tillRight_3 _ _ _ ?_
    have e : (99 : Int32) < nI k := by rw [show k = 100 by omega]; decide
    first | refine bt e ?_ | refine bf e ?_ | refine nt e ?_ | refine nf e ?_
    exact kk H hf
  | m + 1, k, k0, r, H, hk, hk0, hf, hR, hr, kk => by
    have ih := lp_till (d := d) (K := K) hb12 hs hX m
    refine b_Pl_tillRight_3 _ _ _ ?_
    have e : ¬ (99 : Int32) < nI k := by
      intro q
      have := (nI_ltI (a := 99) (b := k) (by decide) (by omega)).mp q
      omega
    have ea : nI k + (1 : Int32) = nI (k + 1) := nI_1 k
    first | refine bt e ?_ | refine bf e ?_ | refine nt e ?_ | refine nf e ?_
    refine ⟨vp_in_nI hb12 (by decide), ?_⟩
    rw [nIc (by omega), hR.1, hR.2.1, lead_le hr.1 hr.2.1, ea]
    unfold W_till at kk
    by_cases c : r.2.1 < r.1
    · rw [if_pos c] at kk
      exact ⟨fun z => absurd c z, fun _ => kk H hf⟩
    · rw [if_neg c] at kk
      refine ⟨fun _ => ?_, fun z => absurd c z⟩
      refine c_playOnce_th (hX.fr hf rfl rfl) hR hr (by omega) hb12 hs (fun H1 f1 hR1 _ => ?_)
      exact ih (k + 1) (k0 + 1) _ H1 (by omega) (by omega) (hf.tr (f1.fr rfl rfl)) hR1 (RV_play hb L hr s) kk
theorem c_tillRight {d b s k0 : Nat} {hb : Nat → Nat} {L : Law} {K : Int32 → pmT → Prop} {H : pmT} {r : Row} (hb12 : b < 12) (hs : s ≤ 1) (hX : CX hb L H) (hR : TR H b r) (hr : RV k0 r) (hk : k0 < 2 ^ 19) (kk : ∀ H', fr JC H H' → K (W_till hb L s 100 0 r) H') : pm_R (d + 4) M_Pl_tillRight [.ref 21, .ref 1, .int (nI b), .int (nI s)] H (pm_i K) := by
  refine m_Pl_tillRight _ _ ?_
  exact lp_till hb12 hs hX 100 0 k0 r H rfl (by omega) fr.rf hR hr kk
theorem c_times {d n b s : Nat} {hb : Nat → Nat} {L : Law} {now : Nat → Row} {K : Int32 → pmT → Prop} {H : pmT} (hC : CS hb L n now H) (hbn : b < n) (hs : s ≤ 1) (kk : ∀ H', fr JC H H' → K (W_till hb L s 100 0 (now b)) H') : pm_R (d + 5) M_Pl_playingsTillRight [.ref 21, .ref 1, .int (nI b), .int (nI s)] H (pm_i K) := by
  have h12 : b < 12 := Nat.lt_of_lt_of_le hbn hC.2.2.1
  refine m_Pl_playingsTillRight _ _ ?_
  refine c_takeBar_8_2 h12 h12 (hC.2.2.2.1 b hbn) (fun H1 f1 hR => ?_)
  have f1' : fr JC H H1 := f1.fr rfl rfl
  refine c_tillRight h12 hs (hC.1.fr f1' rfl rfl) hR (hC.2.2.2.2 b hbn) (by decide) (fun H2 f2 => ?_)
  exact kk H2 (f1'.tr f2)
/-- how many nights it stays right -/
def W_stay (hb : Nat → Nat) (f : Nat) : Nat → Nat → Row → Int32
  | 0, _, _ => 99
  | m + 1, k, r => if (W_sleep hb r f).2.1 < (W_sleep hb r f).1 then W_stay hb f m (k + 1) (W_sleep hb r f) else nI k
def W_stays (hb : Nat → Nat) (r : Row) : Int32 := if r.2.1 < r.1 then W_stay hb (hb 2) 99 0 r else -2
theorem lp_stays {d b : Nat} {hb : Nat → Nat} {L : Law} {K : Int32 → pmT → Prop} {H0 : pmT} (hb12 : b < 12) (hX : CX hb L H0) : ∀ (m k k0 : Nat) (r : Row) (H : pmT), k + m = 99 → k0 < 2 ^ 20 → fr JC H0 H → TR H b r → RV k0 r → (∀ H', fr JC H0 H' → K (W_stay hb (hb 2) m k r) H') → pm_RW none (d + 3) M_Pl_nightsRight (pm_i K) 29 [(1, .ref 1), (2, .int (nI b)), (3, .int (nI k))] [] H
  | 0, k, k0, r, H, hk, hk0, hf, hR, hr, kk => by
    refine b_Pl_nightsRight_29 _ _ ?_
    have e : (99 : Int32) ≤ nI k := by rw [show k = 99 by omega]; decide
    first | refine bt e ?_ | refine bf e ?_ | refine nt e ?_ | refine nf e ?_
    exact kk H hf
  | m + 1, k, k0, r, H, hk, hk0, hf, hR, hr, kk => by
    have ih := lp_stays (d := d) (K := K) hb12 hX m
    refine b_Pl_nightsRight_29 _ _ ?_
    have e : ¬ (99 : Int32) ≤ nI k := by
      intro q
      have := (nI_leI (a := 99) (b := k) (by decide) (by omega)).mp q
      omega
    have ea : nI k + (1 : Int32) = nI (k + 1) := nI_1 k
    have hX1 := hX.fr hf rfl rfl
    have ef : H.1 20 2 = nI (hb 2) := hX1.1.2.2.1
    first | refine bt e ?_ | refine bf e ?_ | refine nt e ?_ | refine nf e ?_
    rw [ef, ea]
    refine c_sleepOver_th hX1.1 hX1.2.1 hR hr hk0 hb12 hX1.2.1.2.2.1 (fun H1 f1 hR1 => ?_)
    refine ⟨vp_in_nI hb12 (by decide), ?_⟩
    have hr1 := RV_sleep hb hr (hb 2)
    have hf1 : fr JC H0 H1 := hf.tr (f1.fr rfl rfl)
    rw [nIc (by omega), hR1.1, hR1.2.1, lead_gt hr1.1 hr1.2.1]
    unfold W_stay at kk
    by_cases c : (W_sleep hb r (hb 2)).2.1 < (W_sleep hb r (hb 2)).1
    · rw [if_pos c] at kk
      first | refine bt c ?_ | refine bf c ?_ | refine nt c ?_ | refine nf c ?_
      exact ih (k + 1) 0 _ H1 (by omega) (by omega) hf1 hR1 hr1 kk
    · rw [if_neg c] at kk
      first | refine bt c ?_ | refine bf c ?_ | refine nt c ?_ | refine nf c ?_
      exact kk H1 hf1
theorem c_stays {d n b : Nat} {hb : Nat → Nat} {L : Law} {now : Nat → Row} {K : Int32 → pmT → Prop} {H : pmT} (hC : CS hb L n now H) (hbn : b < n) (kk : ∀ H', fr JC H H' → K (W_stays hb (now b)) H') : pm_R (d + 3) M_Pl_nightsRight [.ref 21, .ref 1, .int (nI b)] H (pm_i K) := by
  have h12 : b < 12 := Nat.lt_of_lt_of_le hbn hC.2.2.1
  refine m_Pl_nightsRight _ ?_
  refine c_takeBar_8_2 h12 h12 (hC.2.2.2.1 b hbn) (fun H1 f1 hR => ?_)
  have f1' : fr JC H H1 := f1.fr rfl rfl
  have hr := hC.2.2.2.2 b hbn
  refine ⟨vp_in_nI h12 (by decide), ?_⟩
  rw [nIc (by omega), hR.1, hR.2.1, lead_gt hr.1 hr.2.1]
  unfold W_stays at kk
  by_cases c : (now b).2.1 < (now b).1
  · rw [if_pos c] at kk
    first | refine bt c ?_ | refine bf c ?_ | refine nt c ?_ | refine nf c ?_
    exact lp_stays h12 (hC.1.fr f1' rfl rfl) 99 0 1000 _ H1 rfl (by decide) fr.rf hR hr (fun H' f => kk H' (f1'.tr f))
  · rw [if_neg c] at kk
    first | refine bt c ?_ | refine bf c ?_ | refine nt c ?_ | refine nf c ?_
    exact kk H1 f1'
/-- how many playings it takes to be right in the morning; 1000: not by 60 -/
def W_cost (hb : Nat → Nat) (L : Law) : Nat → Nat → Row → Nat
  | 0, _, _ => 1000
  | m + 1, k, r => if W_wrong hb r (hb 2) < W_right r (hb 2) then k else W_cost hb L m (k + 1) (W_play hb L r 1)
theorem W_cost_le {hb : Nat → Nat} {L : Law} : ∀ (m k : Nat) (r : Row), k + m = 61 → W_cost hb L m k r ≤ 60 ∨ W_cost hb L m k r = 1000
  | 0, _, _, _ => Or.inr rfl
  | m + 1, k, r, h => by
    unfold W_cost
    split
    · exact Or.inl (by omega)
    · exact W_cost_le m (k + 1) _ (by omega)
theorem W_right_le {k0 : Nat} {r : Row} (hr : RV k0 r) (f : Nat) : W_right r f ≤ 999 := Nat.le_trans (Nat.sub_le _ _) hr.1
theorem lp_cost {d b : Nat} {hb : Nat → Nat} {L : Law} {K : Int32 → pmT → Prop} {H0 : pmT} (hb12 : b < 12) (hX : CX hb L H0) : ∀ (m k k0 : Nat) (r : Row) (H : pmT), k + m = 61 → k0 + m < 2 ^ 20 → fr JT H0 H → TR H b r → RV k0 r → (∀ H', fr JT H0 H' → K (nI (W_cost hb L m k r)) H') → pm_RW none (d + 4) M_Pl_playingsForMorning (pm_i K) 15 [(1, .ref 1), (2, .int (nI b)), (3, .int (nI k))] [] H
  | 0, k, k0, r, H, hk, hk0, hf, hR, hr, kk => by
    refine b_Pl_playingsForMorning_15 _ _ ?_
    have e : (60 : Int32) < nI k := by rw [show k = 61 by omega]; decide
    first | refine bt e ?_ | refine bf e ?_ | refine nt e ?_ | refine nf e ?_
    exact kk H hf
  | m + 1, k, k0, r, H, hk, hk0, hf, hR, hr, kk => by
    have ih := lp_cost (d := d) (K := K) hb12 hX m
    refine b_Pl_playingsForMorning_15 _ _ ?_
    have e : ¬ (60 : Int32) < nI k := by
      intro q
      have := (nI_ltI (a := 60) (b := k) (by decide) (by omega)).mp q
      omega
    have ea : nI k + (1 : Int32) = nI (k + 1) := nI_1 k
    have hX1 := hX.fr hf rfl rfl
    have ef : H.1 20 2 = nI (hb 2) := hX1.1.2.2.1
    have hf12 := hX1.2.1.2.2.1
    first | refine bt e ?_ | refine bf e ?_ | refine nt e ?_ | refine nf e ?_
    rw [ef]
    refine c_right_th hR hr hb12 hf12 ?_
    rw [ef]
    refine c_wrong_th hX1.1 hX1.2.1 hR hr (by omega) hb12 hf12 ?_
    have hw : W_wrong hb r (hb 2) ≤ 999 := Nat.min_le_left _ _
    have hrr := W_right_le hr (hb 2)
    rw [i_le _ _ (by omega) (by omega), ea]
    unfold W_cost at kk
    by_cases c : W_wrong hb r (hb 2) < W_right r (hb 2)
    · rw [if_pos c] at kk
      first | refine bt (show ¬ W_right r (hb 2) ≤ W_wrong hb r (hb 2) by omega) ?_ | refine bf (show ¬ W_right r (hb 2) ≤ W_wrong hb r (hb 2) by omega) ?_ | refine nt (show ¬ W_right r (hb 2) ≤ W_wrong hb r (hb 2) by omega) ?_ | refine nf (show ¬ W_right r (hb 2) ≤ W_wrong hb r (hb 2) by omega) ?_
      exact kk H hf
    · rw [if_neg c] at kk
      first | refine bt (show W_right r (hb 2) ≤ W_wrong hb r (hb 2) by omega) ?_ | refine bf (show W_right r (hb 2) ≤ W_wrong hb r (hb 2) by omega) ?_ | refine nt (show W_right r (hb 2) ≤ W_wrong hb r (hb 2) by omega) ?_ | refine nf (show W_right r (hb 2) ≤ W_wrong hb r (hb 2) by omega) ?_
      refine c_playOnce_th (s := 1) hX1 hR hr (by omega) hb12 (by decide) (fun H1 f1 hR1 _ => ?_)
      exact ih (k + 1) (k0 + 1) _ H1 (by omega) (by omega) (hf.tr (f1.fr rfl rfl)) hR1 (RV_play hb L hr 1) kk
theorem c_cost {d n b : Nat} {hb : Nat → Nat} {L : Law} {now : Nat → Row} {K : Int32 → pmT → Prop} {H : pmT} (hC : CS hb L n now H) (hbn : b < n) (kk : ∀ H', fr JT H H' → K (nI (W_cost hb L 61 0 (now b))) H') : pm_R (d + 5) M_Pl_playingsForMorning [.ref 21, .ref 1, .int (nI b)] H (pm_i K) := by
  have h12 : b < 12 := Nat.lt_of_lt_of_le hbn hC.2.2.1
  refine m_Pl_playingsForMorning _ ?_
  refine c_takeBar_8_2 h12 h12 (hC.2.2.2.1 b hbn) (fun H1 f1 hR => ?_)
  have f1' : fr JT H H1 := f1.fr rfl rfl
  exact lp_cost h12 (hC.1.fr f1' rfl rfl) 61 0 1000 _ H1 rfl (by decide) fr.rf hR (hC.2.2.2.2 b hbn) (fun H' f => kk H' (f1'.tr f))
theorem RV_up {n k b : Nat} {T : Nat → Row} {r : Row} (h : ∀ b, b < n → RV k (T b)) (hr : RV k r) : ∀ b', b' < n → RV k (va_up T b r b') := fun b' hb' => by
  unfold va_up
  split
  · exact hr
  · exact h b' hb'
theorem TR_up {n b : Nat} {T : Nat → Row} {r : Row} {S R : List Nat} {H H' : pmT} (h : ∀ b, b < n → TR H b (T b)) (a : fb S R b H H') (g : (pm_has S 900 || (pm_has S 1000 || (pm_has S 1100 || (pm_has S 1200 || pm_has S 1300)))) = false) (hR : TR H' b r) : ∀ b', b' < n → TR H' b' (va_up T b r b') := fun b' hb' => by
  unfold va_up
  split
  · rename_i e; rw [e]; exact hR
  · rename_i e; exact (h b' hb').fb a g e
/-- the piece played through, stopping at the first slip -/
def W_thru (hb : Nat → Nat) (L : Law) : Nat → Nat → (Nat → Row) → (Nat → Row)
  | 0, _, T => T
  | m + 1, b, T => if W_came hb (T b) 0 = 0 then va_up T b (W_play hb L (T b) 0) else W_thru hb L m (b + 1) (va_up T b (W_play hb L (T b) 0))
theorem RV_thru {hb : Nat → Nat} {L : Law} {n : Nat} : ∀ (m b k : Nat) (T : Nat → Row), b + m = n → (∀ b, b < n → RV k (T b)) → ∀ b', b' < n → RV (k + m) (W_thru hb L m b T b')
  | 0, _, _, _, _, h => h
  | m + 1, b, k, T, e, h => by
    have h1 : ∀ b', b' < n → RV (k + 1) (va_up T b (W_play hb L (T b) 0) b') := RV_up (fun b hb0 => (h b hb0).mono (Nat.le_succ _)) (RV_play hb L (h b (by omega)) 0)
    unfold W_thru
    intro b' hb'
    split
    · exact (h1 b' hb').mono (by omega)
    · exact (RV_thru m (b + 1) (k + 1) _ (by omega) h1 b' hb').mono (by omega)
theorem lp_thru {d n : Nat} {hb : Nat → Nat} {L : Law} {K : pmT → Prop} {H0 : pmT} (hn12 : n ≤ 12) (hX : CX hb L H0) (kT : Nat → Row) (kk : ∀ H', fr JT H0 H' → (∀ b, b < n → TR H' b (kT b)) → K H') : ∀ (m b k0 : Nat) (T : Nat → Row) (H : pmT), b + m = n → k0 + m < 2 ^ 20 → fr JT H0 H → H0.1 8 0 = nI n → (∀ b, b < n → TR H b (T b)) → (∀ b, b < n → RV k0 (T b)) → W_thru hb L m b T = kT → pm_RW none (d + 4) M_Pl_runThrough (pm_v K) 2 [(1, .ref 1), (2, .int (nI b))] [] H
  | 0, b, k0, T, H, hb0, hk0, hf, hs, hT, hV, e => by
    refine b_Pl_runThrough_2 _ ?_
    have hs' : H.1 8 0 = nI n := (hf.1 8 0 rfl).trans hs
    rw [hs', i_le _ _ (by omega) (by omega)]
    first | refine bt (show n ≤ b by omega) ?_ | refine bf (show n ≤ b by omega) ?_ | refine nt (show n ≤ b by omega) ?_ | refine nf (show n ≤ b by omega) ?_
    exact kk H hf (by rw [← e]; exact hT)
  | m + 1, b, k0, T, H, hb0, hk0, hf, hs, hT, hV, e => by
    have ih := lp_thru (d := d) (K := K) hn12 hX kT kk m
    refine b_Pl_runThrough_2 _ ?_
    have hs' : H.1 8 0 = nI n := (hf.1 8 0 rfl).trans hs
    rw [hs', i_le _ _ (by omega) (by omega)]
    have ea : nI b + (1 : Int32) = nI (b + 1) := nI_1 b
    first | refine bt (show ¬ n ≤ b by omega) ?_ | refine bf (show ¬ n ≤ b by omega) ?_ | refine nt (show ¬ n ≤ b by omega) ?_ | refine nf (show ¬ n ≤ b by omega) ?_
    rw [ea]
    refine c_playOnce_th (s := 0) (hX.fr hf rfl rfl) (hT b (by omega)) (hV b (by omega)) (by omega) (by omega) (by decide) (fun H1 f1 hR1 _ => ?_)
    have hT1 := TR_up hT f1 rfl hR1
    have hf1 : fr JT H0 H1 := hf.tr (f1.fr rfl rfl)
    have hcl := W_came_le hb (T b) 0
    have ez : (nI (W_came hb (T b) 0) = 0) = (W_came hb (T b) 0 = 0) := i_eq _ 0 (by omega) (by decide)
    rw [ez]
    unfold W_thru at e
    by_cases c : W_came hb (T b) 0 = 0
    · rw [if_pos c] at e
      first | refine bt c ?_ | refine bf c ?_ | refine nt c ?_ | refine nf c ?_
      exact kk H1 hf1 (by rw [← e]; exact hT1)
    · rw [if_neg c] at e
      first | refine bt c ?_ | refine bf c ?_ | refine nt c ?_ | refine nf c ?_
      exact ih (b + 1) (k0 + 1) _ H1 (by omega) (by omega) hf1 hs hT1 (RV_up (fun b hb0 => (hV b hb0).mono (Nat.le_succ _)) (RV_play hb L (hV b (by omega)) 0)) e
theorem c_thru {d n k0 : Nat} {hb : Nat → Nat} {L : Law} {T : Nat → Row} {K : pmT → Prop} {H : pmT} (hn12 : n ≤ 12) (hX : CX hb L H) (hs : H.1 8 0 = nI n) (hT : ∀ b, b < n → TR H b (T b)) (hV : ∀ b, b < n → RV k0 (T b)) (hk : k0 < 2 ^ 19) (kk : ∀ H', fr JT H H' → (∀ b, b < n → TR H' b (W_thru hb L n 0 T b)) → K H') : pm_R (d + 4) M_Pl_runThrough [.ref 21, .ref 1] H (pm_v K) := by
  refine m_Pl_runThrough ?_
  exact lp_thru hn12 hX _ kk n 0 k0 T H (by omega) (by omega) fr.rf hs hT hV rfl
/-- how many times through, till there is no slip -/
def W_runs (hb : Nat → Nat) (L : Law) (n : Nat) : Nat → Nat → (Nat → Row) → Int32
  | 0, _, _ => -2
  | m + 1, k, T => if W_slip T n 0 = -2 then nI k else W_runs hb L n m (k + 1) (W_thru hb L n 0 T)
theorem lp_runs {d n : Nat} {hb : Nat → Nat} {L : Law} {K : Int32 → pmT → Prop} {H0 : pmT} (hn12 : n ≤ 12) (hX : CX hb L H0) (hs : H0.1 8 0 = nI n) : ∀ (m k k0 : Nat) (T : Nat → Row) (H : pmT), k + m = 61 → k0 + 12 * m < 2 ^ 19 → fr JT H0 H → (∀ b, b < n → TR H b (T b)) → (∀ b, b < n → RV k0 (T b)) → (∀ H', fr JT H0 H' → K (W_runs hb L n m k T) H') → pm_RW none (d + 5) M_Pl_runsTillClean (pm_i K) 13 [(0, .ref 21), (1, .ref 1), (2, .int (nI k))] [] H
  | 0, k, k0, T, H, hk, hk0, hf, hT, hV, kk => by
    refine b_Pl_runsTillClean_13 _ ?_
    have e : (60 : Int32) < nI k := by rw [show k = 61 by omega]; decide
    first | refine bt e ?_ | refine bf e ?_ | refine nt e ?_ | refine nf e ?_
    exact kk H hf
  | m + 1, k, k0, T, H, hk, hk0, hf, hT, hV, kk => by
    have ih := lp_runs (d := d) (K := K) hn12 hX hs m
    refine b_Pl_runsTillClean_13 _ ?_
    have e : ¬ (60 : Int32) < nI k := by
      intro q
      have := (nI_ltI (a := 60) (b := k) (by decide) (by omega)).mp q
      omega
    have ea : nI k + (1 : Int32) = nI (k + 1) := nI_1 k
    have hs' : H.1 8 0 = nI n := (hf.1 8 0 rfl).trans hs
    first | refine bt e ?_ | refine bf e ?_ | refine nt e ?_ | refine nf e ?_
    refine c_slip hs' hn12 hT hV ?_
    rw [ea]
    unfold W_runs at kk
    by_cases c : W_slip T n 0 = -2
    · rw [if_pos c] at kk
      first | refine bt c ?_ | refine bf c ?_ | refine nt c ?_ | refine nf c ?_
      exact kk H hf
    · rw [if_neg c] at kk
      first | refine bt c ?_ | refine bf c ?_ | refine nt c ?_ | refine nf c ?_
      refine c_thru hn12 (hX.fr hf rfl rfl) hs' hT hV (by omega) (fun H1 f1 hT1 => ?_)
      exact ih (k + 1) (k0 + n) _ H1 (by omega) (by omega) (hf.tr f1) hT1 (RV_thru n 0 k0 T (by omega) hV) kk
theorem c_runs {d n : Nat} {hb : Nat → Nat} {L : Law} {now : Nat → Row} {K : Int32 → pmT → Prop} {H : pmT} (hC : CS hb L n now H) (kk : ∀ H', fr JC H H' → K (W_runs hb L n 61 0 now) H') : pm_R (d + 5) M_Pl_runsTillClean [.ref 21, .ref 1] H (pm_i K) := by
  refine m_Pl_runsTillClean ?_
  refine c_takeAll_8 hC.2.1 hC.2.2.1 hC.2.2.2.1 (fun H1 f1 hs hT => ?_)
  have f1' : fr JC H H1 := f1.mono rfl
  exact lp_runs hC.2.2.1 (hC.1.fr f1' rfl rfl) hs 61 0 1000 now H1 rfl (by decide) fr.rf hT hC.2.2.2.2 (fun H' f => kk H' (f1'.tr (f.mono rfl)))
theorem W_till_cases {hb : Nat → Nat} {L : Law} {s : Nat} : ∀ (m k : Nat) (r : Row), k + m = 100 → W_till hb L s m k r = -2 ∨ ∃ q, q < 100 ∧ W_till hb L s m k r = nI q
  | 0, _, _, _ => Or.inl rfl
  | m + 1, k, r, h => by
    unfold W_till
    split
    · exact Or.inr ⟨k, by omega, rfl⟩
    · exact W_till_cases m (k + 1) _ (by omega)
theorem nI_ne_m2 {q : Nat} (h : q < 2 ^ 31) : ¬ nI q = (-2 : Int32) := by
  intro e
  have := congrArg Int32.toInt e
  rw [nI_toInt h] at this
  have e2 : (-2 : Int32).toInt = -2 := rfl
  omega
/-- all bars by themselves -/
def W_bars (hb : Nat → Nat) (L : Law) (now : Nat → Row) : Nat → Nat → Int32 → Int32
  | 0, _, v => v
  | m + 1, b, v => if W_till hb L 0 100 0 (now b) = -2 then -2 else W_bars hb L now m (b + 1) (v + W_till hb L 0 100 0 (now b))
theorem lp_byBars {d n : Nat} {hb : Nat → Nat} {L : Law} {now : Nat → Row} {K : Int32 → pmT → Prop} {H0 : pmT} (hC : CS hb L n now H0) : ∀ (m b : Nat) (v : Int32) (H : pmT), b + m = n → fr JC H0 H → (∀ H', fr JC H0 H' → K (W_bars hb L now m b v) H') → pm_RW none (d + 6) M_Pl_playingsByBars (pm_i K) 4 [(0, .ref 21), (1, .ref 1), (2, .int v), (3, .int (nI b))] [] H
  | 0, b, v, H, hb0, hf, kk => by
    have hC1 := hC.fr hf
    have hn12 := hC.2.2.1
    refine b_Pl_playingsByBars_4 _ _ ?_
    rw [hC1.2.1, i_le _ _ (by omega) (by omega)]
    first | refine bt (show n ≤ b by omega) ?_ | refine bf (show n ≤ b by omega) ?_ | refine nt (show n ≤ b by omega) ?_ | refine nf (show n ≤ b by omega) ?_
    exact kk H hf
  | m + 1, b, v, H, hb0, hf, kk => by
    have ih := lp_byBars (d := d) (K := K) hC m
    have hC1 := hC.fr hf
    have hn12 := hC.2.2.1
    refine b_Pl_playingsByBars_4 _ _ ?_
    rw [hC1.2.1, i_le _ _ (by omega) (by omega)]
    have ea : nI b + (1 : Int32) = nI (b + 1) := nI_1 b
    first | refine bt (show ¬ n ≤ b by omega) ?_ | refine bf (show ¬ n ≤ b by omega) ?_ | refine nt (show ¬ n ≤ b by omega) ?_ | refine nf (show ¬ n ≤ b by omega) ?_
    rw [ea]
    refine c_times (s := 0) hC1 (by omega) (by decide) (fun H1 f1 => ?_)
    unfold W_bars at kk
    by_cases c : W_till hb L 0 100 0 (now b) = -2
    · rw [if_pos c] at kk
      first | refine bt c ?_ | refine bf c ?_ | refine nt c ?_ | refine nf c ?_
      exact kk H1 (hf.tr f1)
    · rw [if_neg c] at kk
      first | refine bt c ?_ | refine bf c ?_ | refine nt c ?_ | refine nf c ?_
      exact ih (b + 1) _ H1 (by omega) (hf.tr f1) kk
theorem c_byBars {d n : Nat} {hb : Nat → Nat} {L : Law} {now : Nat → Row} {K : Int32 → pmT → Prop} {H : pmT} (hC : CS hb L n now H) (kk : ∀ H', fr JC H H' → K (W_bars hb L now n 0 0) H') : pm_R (d + 6) M_Pl_playingsByBars [.ref 21, .ref 1] H (pm_i K) := by
  refine m_Pl_playingsByBars ?_
  exact lp_byBars hC n 0 0 H (by omega) fr.rf kk
/-- a new finger -/
def W_orN (v : Int32) : Int32 := if v = -2 then 1000 else v
def W_fing (hb : Nat → Nat) (L : Law) (r : Row) : Int32 := W_orN (W_till hb L 0 100 0 r) - nI (hb 4) - W_orN (W_till hb L 0 100 0 (0, 0, r.2.2))
theorem c_fing {d n b : Nat} {hb : Nat → Nat} {L : Law} {now : Nat → Row} {K : Int32 → pmT → Prop} {H : pmT} (hC : CS hb L n now H) (hbn : b < n) (kk : ∀ H', fr JC H H' → K (W_fing hb L (now b)) H') : pm_R (d + 6) M_Pl_fewerByNewFinger [.ref 21, .ref 1, .int (nI b)] H (pm_i K) := by
  have h12 : b < 12 := Nat.lt_of_lt_of_le hbn hC.2.2.1
  have u0 : ∀ (h : Nat → Nat → Int32) (o : Nat) (x : Int32), pm_up h o b x o b = x := fun h o x => by rw [pm_up_self]; exact pk_us
  refine m_Pl_fewerByNewFinger _ ?_
  refine c_times (s := 0) hC hbn (by decide) (fun H1 f1 => ?_)
  have hC1 := hC.fr f1
  unfold W_fing W_orN at kk
  have hr := hC.2.2.2.2 b hbn
  have hr0 : RV 1000 ((0, 0, (now b).2.2) : Row) := ⟨Nat.zero_le _, Nat.zero_le _, hr.2.2.1, hr.2.2.2.1, hr.2.2.2.2⟩
  by_cases c : W_till hb L 0 100 0 (now b) = -2
  · rw [if_pos c] at kk
    first | refine bt c ?_ | refine bf c ?_ | refine nt c ?_ | refine nf c ?_
    refine c_takeBar_8_2 h12 h12 (hC1.2.2.2.1 b hbn) (fun H2 f2 hR => ?_)
    refine ⟨vp_in_nI h12 (by decide), ?_⟩
    rw [nIc (by omega)]
    have hC2 := hC1.fr (f2.fr rfl rfl)
    have f3 : fr JC H (pm_up (pm_up H2.1 9 b 0) 10 b 0, H2.2) := ((f1.tr (f2.fr rfl rfl)).up (o := 9) (k := b) rfl).up (o := 10) (k := b) rfl
    refine c_tillRight (s := 0) h12 (by decide) (hC.1.fr f3 rfl rfl) (r := (0, 0, (now b).2.2)) ⟨u0 H2.1 9 0, u0 _ 10 0, hR.2.2⟩ hr0 (by decide) (fun H4 f4 => ?_)
    have e4 : H2.1 20 4 = nI (hb 4) := hC2.1.1.2.2.2.2
    rw [e4]
    by_cases c2 : W_till hb L 0 100 0 (0, 0, (now b).2.2) = -2
    · rw [if_pos c2] at kk
      first | refine bt c2 ?_ | refine bf c2 ?_ | refine nt c2 ?_ | refine nf c2 ?_
      exact kk H4 (f3.tr f4)
    · rw [if_neg c2] at kk
      first | refine bt c2 ?_ | refine bf c2 ?_ | refine nt c2 ?_ | refine nf c2 ?_
      exact kk H4 (f3.tr f4)
  · rw [if_neg c] at kk
    first | refine bt c ?_ | refine bf c ?_ | refine nt c ?_ | refine nf c ?_
    refine c_takeBar_8_2 h12 h12 (hC1.2.2.2.1 b hbn) (fun H2 f2 hR => ?_)
    refine ⟨vp_in_nI h12 (by decide), ?_⟩
    rw [nIc (by omega)]
    have hC2 := hC1.fr (f2.fr rfl rfl)
    have f3 : fr JC H (pm_up (pm_up H2.1 9 b 0) 10 b 0, H2.2) := ((f1.tr (f2.fr rfl rfl)).up (o := 9) (k := b) rfl).up (o := 10) (k := b) rfl
    refine c_tillRight (s := 0) h12 (by decide) (hC.1.fr f3 rfl rfl) (r := (0, 0, (now b).2.2)) ⟨u0 H2.1 9 0, u0 _ 10 0, hR.2.2⟩ hr0 (by decide) (fun H4 f4 => ?_)
    have e4 : H2.1 20 4 = nI (hb 4) := hC2.1.1.2.2.2.2
    rw [e4]
    by_cases c2 : W_till hb L 0 100 0 (0, 0, (now b).2.2) = -2
    · rw [if_pos c2] at kk
      first | refine bt c2 ?_ | refine bf c2 ?_ | refine nt c2 ?_ | refine nf c2 ?_
      exact kk H4 (f3.tr f4)
    · rw [if_neg c2] at kk
      first | refine bt c2 ?_ | refine bf c2 ?_ | refine nt c2 ?_ | refine nf c2 ?_
      exact kk H4 (f3.tr f4)
