/-! what the reference thinks through -/
abbrev R4 : List Nat := [65, 66, 67, 68]
theorem MX.fb {hb : Nat → Nat} {L : Law} {b : Nat} {H H' : pmT} (h : MX hb L H) (a : fb JA R4 b H H') : MX hb L H' := h.fr (a.fr (S' := JP) rfl rfl) rfl rfl
theorem c_tillM {b s : Nat} {hb : Nat → Nat} {L : Law} {K : Int32 → pmT → Prop} {H0 : pmT} {d : Nat} (hb12 : b < 12) (hs : s ≤ 1) (hX : MX hb L H0) : ∀ (m k k0 : Nat) (r : Row) (H : pmT), k + m = 100 → k0 + m < 2 ^ 20 → fb JA R4 b H0 H → MR H b r → RV k0 r → (∀ H', fb JA R4 b H0 H' → K (W_till hb L s m k r) H') → pm_RW none (d + 73) M_Mo_timesOf (pm_i K) 2 [(0, .ref 55), (1, .int (nI b)), (2, .int (nI s)), (3, .int (nI k))] [] H
  | 0, k, k0, r, H, hk, hk0, hf, hR, hr, kk => by
    refine b_Mo_timesOf_2 _ _ _ ?_
    first | refine bt (show (99 : Int32) < nI k by rw [show k = 100 by omega]; decide) ?_ | refine bf (show (99 : Int32) < nI k by rw [show k = 100 by omega]; decide) ?_ | refine nt (show (99 : Int32) < nI k by rw [show k = 100 by omega]; decide) ?_ | refine nf (show (99 : Int32) < nI k by rw [show k = 100 by omega]; decide) ?_
    exact kk H hf
  | m + 1, k, k0, r, H, hk, hk0, hf, hR, hr, kk => by
    have ih := c_tillM (K := K) (d := d) hb12 hs hX m
    refine b_Mo_timesOf_2 _ _ _ ?_
    first | refine bt (show ¬ (99 : Int32) < nI k from fun z => by have := (nI_ltI (a := 99) (b := k) (by decide) (by omega)).mp z; omega) ?_ | refine bf (show ¬ (99 : Int32) < nI k from fun z => by have := (nI_ltI (a := 99) (b := k) (by decide) (by omega)).mp z; omega) ?_ | refine nt (show ¬ (99 : Int32) < nI k from fun z => by have := (nI_ltI (a := 99) (b := k) (by decide) (by omega)).mp z; omega) ?_ | refine nf (show ¬ (99 : Int32) < nI k from fun z => by have := (nI_ltI (a := 99) (b := k) (by decide) (by omega)).mp z; omega) ?_
    refine ⟨vp_in_nI hb12 (by decide), ?_⟩
    have hv1 := hr.1
    have hv2 := hr.2.1
    rw [nIc (by omega), hR.1, hR.2.1, i_le _ _ (by omega) (by omega), show nI k + (1 : Int32) = nI (k + 1) from nI_1 k]
    unfold W_till at kk
    by_cases c : r.2.1 < r.1
    · rw [if_pos c] at kk
      first | refine bt (show ¬ r.1 ≤ r.2.1 by omega) ?_ | refine bf (show ¬ r.1 ≤ r.2.1 by omega) ?_ | refine nt (show ¬ r.1 ≤ r.2.1 by omega) ?_ | refine nf (show ¬ r.1 ≤ r.2.1 by omega) ?_
      exact kk H hf
    · rw [if_neg c] at kk
      first | refine bt (show r.1 ≤ r.2.1 by omega) ?_ | refine bf (show r.1 ≤ r.2.1 by omega) ?_ | refine nt (show r.1 ≤ r.2.1 by omega) ?_ | refine nf (show r.1 ≤ r.2.1 by omega) ?_
      refine c_playsM (hX.fb hf) hR hr (by omega) hb12 hs (fun H1 f1 hR1 => ?_)
      exact ih (k + 1) (k0 + 1) _ H1 (by omega) (by omega) (hf.tr f1) hR1 (RV_play hb L hr s) kk
theorem c_timesOfM {d b s k0 : Nat} {hb : Nat → Nat} {L : Law} {r : Row} {K : Int32 → pmT → Prop} {H : pmT} (hb12 : b < 12) (hs : s ≤ 1) (hX : MX hb L H) (hR : MR H b r) (hr : RV k0 r) (hk : k0 < 2 ^ 19) (kk : ∀ H', fb JA R4 b H H' → K (W_till hb L s 100 0 r) H') : pm_R (d + 73) M_Mo_timesOf [.ref 55, .int (nI b), .int (nI s)] H (pm_i K) := by
  refine m_Mo_timesOf _ _ ?_
  exact c_tillM hb12 hs hX 100 0 k0 r H rfl (by omega) fb.rf hR hr kk
/-- for how many nights it stays right -/
theorem lp_stayM {d b : Nat} {hb : Nat → Nat} {L : Law} {K : Int32 → pmT → Prop} {H0 : pmT} (hb12 : b < 12) (hX : MX hb L H0) (ef : H0.1 55 23 = nI (hb 2)) : ∀ (m k k0 : Nat) (v : Int32) (r : Row) (H : pmT), k + m = 99 → k0 < 2 ^ 20 → fb [] R4 b H0 H → MR H b r → RV k0 r → r.2.1 < r.1 → (∀ H', fb [] R4 b H0 H' → K (W_stay hb (hb 2) m k r) H') → pm_RW none (d + 2) M_Mo_stays (pm_i K) 20 [(0, .ref 55), (1, .int (nI b)), (2, .int v), (3, .int (nI k))] [] H
  | m, k, k0, v, r, H, hk, hk0, hf, hR, hr, hc, kk => by
    refine b_Mo_stays_20 _ _ _ ?_
    first | refine bt (show ¬ (99 : Int32) < nI k from fun z => by have := (nI_ltI (a := 99) (b := k) (by decide) (by omega)).mp z; omega) ?_ | refine bf (show ¬ (99 : Int32) < nI k from fun z => by have := (nI_ltI (a := 99) (b := k) (by decide) (by omega)).mp z; omega) ?_ | refine nt (show ¬ (99 : Int32) < nI k from fun z => by have := (nI_ltI (a := 99) (b := k) (by decide) (by omega)).mp z; omega) ?_ | refine nf (show ¬ (99 : Int32) < nI k from fun z => by have := (nI_ltI (a := 99) (b := k) (by decide) (by omega)).mp z; omega) ?_
    refine ⟨vp_in_nI hb12 (by decide), ?_⟩
    have hv1 := hr.1
    have hv2 := hr.2.1
    have hX1 := hX.fb (hf.mono rfl rfl)
    rw [nIc (by omega), hR.1, hR.2.1, i_le _ _ (by omega) (by omega), show nI k + (1 : Int32) = nI (k + 1) from nI_1 k]
    first | refine bt (show ¬ r.1 ≤ r.2.1 by omega) ?_ | refine bf (show ¬ r.1 ≤ r.2.1 by omega) ?_ | refine nt (show ¬ r.1 ≤ r.2.1 by omega) ?_ | refine nf (show ¬ r.1 ≤ r.2.1 by omega) ?_
    refine c_nightM hX1.1 hX1.2.1 ((hf.1 55 23 rfl (Or.inl rfl)).trans ef) hR hr hk0 hb12 hX1.2.1.2.2.1 (fun H1 f1 hR1 => ?_)
    have hf1 := hf.tr f1
    have hr1 := RV_sleep hb hr (hb 2)
    match m, kk, hk with
    | 0, kk, hk =>
      refine b_Mo_stays_20 _ _ _ ?_
      first | refine bt (show (99 : Int32) < nI (k + 1) by rw [show k = 99 by omega]; decide) ?_ | refine bf (show (99 : Int32) < nI (k + 1) by rw [show k = 99 by omega]; decide) ?_ | refine nt (show (99 : Int32) < nI (k + 1) by rw [show k = 99 by omega]; decide) ?_ | refine nf (show (99 : Int32) < nI (k + 1) by rw [show k = 99 by omega]; decide) ?_
      have := kk H1 hf1
      rw [show k = 99 by omega]
      exact this
    | m + 1, kk, hk =>
      unfold W_stay at kk
      by_cases c1 : (W_sleep hb r (hb 2)).2.1 < (W_sleep hb r (hb 2)).1
      · rw [if_pos c1] at kk
        exact lp_stayM hb12 hX ef m (k + 1) 0 (nI k) _ H1 (by omega) (by decide) hf1 hR1 hr1 c1 kk
      · rw [if_neg c1] at kk
        refine b_Mo_stays_20 _ _ _ ?_
        first | refine bt (show ¬ (99 : Int32) < nI (k + 1) from fun z => by have := (nI_ltI (a := 99) (b := k + 1) (by decide) (by omega)).mp z; omega) ?_ | refine bf (show ¬ (99 : Int32) < nI (k + 1) from fun z => by have := (nI_ltI (a := 99) (b := k + 1) (by decide) (by omega)).mp z; omega) ?_ | refine nt (show ¬ (99 : Int32) < nI (k + 1) from fun z => by have := (nI_ltI (a := 99) (b := k + 1) (by decide) (by omega)).mp z; omega) ?_ | refine nf (show ¬ (99 : Int32) < nI (k + 1) from fun z => by have := (nI_ltI (a := 99) (b := k + 1) (by decide) (by omega)).mp z; omega) ?_
        refine ⟨vp_in_nI hb12 (by decide), ?_⟩
        have hw1 := hr1.1
        have hw2 := hr1.2.1
        rw [nIc (by omega), hR1.1, hR1.2.1, i_le _ _ (by omega) (by omega)]
        first | refine bt (show (W_sleep hb r (hb 2)).1 ≤ (W_sleep hb r (hb 2)).2.1 by omega) ?_ | refine bf (show (W_sleep hb r (hb 2)).1 ≤ (W_sleep hb r (hb 2)).2.1 by omega) ?_ | refine nt (show (W_sleep hb r (hb 2)).1 ≤ (W_sleep hb r (hb 2)).2.1 by omega) ?_ | refine nf (show (W_sleep hb r (hb 2)).1 ≤ (W_sleep hb r (hb 2)).2.1 by omega) ?_
        exact kk H1 hf1
/-- a piece played through till a slip -/
theorem lp_thruM {d n : Nat} {hb : Nat → Nat} {L : Law} {K : Int32 → pmT → Prop} {H0 : pmT} {v : Nat} (hn12 : n ≤ 12) (hX : MX hb L H0) (hn : H0.1 55 6 = nI n) (kT : Nat → Row) (kk : ∀ H', fr JP H0 H' → (∀ b, b < n → MR H' b (kT b)) → pm_RW none (d + 73) M_Mo_whole (pm_i K) 64 [(0, .ref 55), (2, .int (nI (v + 1)))] [] H') : ∀ (m b k0 : Nat) (T : Nat → Row) (H : pmT), b + m = n → k0 + m < 2 ^ 20 → fr JP H0 H → (∀ b, b < n → MR H b (T b)) → (∀ b, b < n → RV k0 (T b)) → W_thru hb L m b T = kT → pm_RW none (d + 73) M_Mo_whole (pm_i K) 86 [(0, .ref 55), (2, .int (nI v)), (3, .int 1), (4, .int (nI b))] [] H
  | 0, b, k0, T, H, hb0, hk0, hf, hT, hV, e => by
    refine b_Mo_whole_86 _ _ _ ?_
    rw [show H.1 55 6 = nI n from (hf.1 55 6 rfl).trans hn, i_le _ _ (by omega) (by omega), show nI v + (1 : Int32) = nI (v + 1) from nI_1 v]
    first | refine bt (show n ≤ b by omega) ?_ | refine bf (show n ≤ b by omega) ?_ | refine nt (show n ≤ b by omega) ?_ | refine nf (show n ≤ b by omega) ?_
    rw [← e] at kk
    exact kk H hf hT
  | m + 1, b, k0, T, H, hb0, hk0, hf, hT, hV, e => by
    have ih := lp_thruM (d := d) (K := K) (v := v) hn12 hX hn kT kk m
    refine b_Mo_whole_86 _ _ _ ?_
    rw [show H.1 55 6 = nI n from (hf.1 55 6 rfl).trans hn, i_le _ _ (by omega) (by omega)]
    first | refine bt (show ¬ n ≤ b by omega) ?_ | refine bf (show ¬ n ≤ b by omega) ?_ | refine nt (show ¬ n ≤ b by omega) ?_ | refine nf (show ¬ n ≤ b by omega) ?_
    first | refine bt (show ¬ (1 : Int32) = 0 by decide) ?_ | refine bf (show ¬ (1 : Int32) = 0 by decide) ?_ | refine nt (show ¬ (1 : Int32) = 0 by decide) ?_ | refine nf (show ¬ (1 : Int32) = 0 by decide) ?_
    refine c_playsM (b := b) (s := 0) (hX.fr hf rfl rfl) (hT b (by omega)) (hV b (by omega)) (by omega) (by omega) (by decide) (fun H1 f1 hR1 => ?_)
    have hf1 : fr JP H0 H1 := hf.tr (f1.fr rfl rfl)
    have hT1 : ∀ b', b' < n → MR H1 b' (va_up T b (W_play hb L (T b) 0) b') := fun b' hb' => by
      unfold va_up
      split
      · rename_i e; rw [e]; exact hR1
      · rename_i e; exact (hT b' hb').fb f1 rfl rfl e
    have hV1 : ∀ b', b' < n → RV (k0 + 1) (va_up T b (W_play hb L (T b) 0) b') := RV_up (fun b' h => (hV b' h).mono (Nat.le_succ _)) (RV_play hb L (hV b (by omega)) 0)
    unfold W_thru at e
    have hcl := W_came_le hb (T b) 0
    by_cases c0 : W_came hb (T b) 0 = 0
    · rw [if_pos c0] at e
      rw [c0]
      refine b_Mo_whole_86 _ _ _ ?_
      rw [show H1.1 55 6 = nI n from (hf1.1 55 6 rfl).trans hn, show nI v + (1 : Int32) = nI (v + 1) from nI_1 v]
      rw [← e] at kk
      have k1 := kk H1 hf1 hT1
      exact ⟨fun _ => k1, fun _ => ⟨fun _ => k1, fun z => absurd rfl z⟩⟩
    · rw [if_neg c0] at e
      rw [show nI (W_came hb (T b) 0) = (1 : Int32) by rw [show W_came hb (T b) 0 = 1 by omega]; rfl, show nI b + (1 : Int32) = nI (b + 1) from nI_1 b]
      exact ih (b + 1) (k0 + 1) _ H1 (by omega) (by omega) hf1 hT1 hV1 e
theorem lp_runsM {d n : Nat} {hb : Nat → Nat} {L : Law} {K : Int32 → pmT → Prop} {H0 : pmT} (hn12 : n ≤ 12) (hX : MX hb L H0) (hn : H0.1 55 6 = nI n) : ∀ (m k k0 : Nat) (T : Nat → Row) (H : pmT), k + m = 61 → k0 + 12 * m < 2 ^ 19 → fr JP H0 H → (∀ b, b < n → MR H b (T b)) → (∀ b, b < n → RV k0 (T b)) → (∀ H', fr JP H0 H' → K (W_runs hb L n m k T) H') → pm_RW none (d + 73) M_Mo_whole (pm_i K) 64 [(0, .ref 55), (2, .int (nI k))] [] H
  | 0, k, k0, T, H, hk, hk0, hf, hT, hV, kk => by
    refine b_Mo_whole_64 _ ?_
    first | refine bt (show (60 : Int32) < nI k by rw [show k = 61 by omega]; decide) ?_ | refine bf (show (60 : Int32) < nI k by rw [show k = 61 by omega]; decide) ?_ | refine nt (show (60 : Int32) < nI k by rw [show k = 61 by omega]; decide) ?_ | refine nf (show (60 : Int32) < nI k by rw [show k = 61 by omega]; decide) ?_
    exact kk H hf
  | m + 1, k, k0, T, H, hk, hk0, hf, hT, hV, kk => by
    have ih := lp_runsM (d := d) (K := K) hn12 hX hn m
    refine b_Mo_whole_64 _ ?_
    first | refine bt (show ¬ (60 : Int32) < nI k from fun z => by have := (nI_ltI (a := 60) (b := k) (by decide) (by omega)).mp z; omega) ?_ | refine bf (show ¬ (60 : Int32) < nI k from fun z => by have := (nI_ltI (a := 60) (b := k) (by decide) (by omega)).mp z; omega) ?_ | refine nt (show ¬ (60 : Int32) < nI k from fun z => by have := (nI_ltI (a := 60) (b := k) (by decide) (by omega)).mp z; omega) ?_ | refine nf (show ¬ (60 : Int32) < nI k from fun z => by have := (nI_ltI (a := 60) (b := k) (by decide) (by omega)).mp z; omega) ?_
    refine c_slipM (d := d + 71) ((hf.1 55 6 rfl).trans hn) hn12 hT hV ?_
    unfold W_runs at kk
    by_cases c : W_slip T n 0 = -2
    · rw [if_pos c] at kk
      first | refine bt c ?_ | refine bf c ?_ | refine nt c ?_ | refine nf c ?_
      exact kk H hf
    · rw [if_neg c] at kk
      first | refine bt c ?_ | refine bf c ?_ | refine nt c ?_ | refine nf c ?_
      refine lp_thruM (v := k) hn12 (hX.fr hf rfl rfl) ((hf.1 55 6 rfl).trans hn) (W_thru hb L n 0 T) (fun H1 f1 hT1 => ?_) n 0 k0 T H (by omega) (by omega) fr.rf hT hV rfl
      exact ih (k + 1) (k0 + n) _ H1 (by omega) (by omega) (hf.tr f1) hT1 (RV_thru n 0 k0 T (by omega) hV) kk
/-- bar by bar -/
theorem lp_barsM {d n : Nat} {hb : Nat → Nat} {L : Law} {now : Nat → Row} {K : Int32 → pmT → Prop} {H0 : pmT} (hn12 : n ≤ 12) (hX : MX hb L H0) (hn : H0.1 55 6 = nI n) (hV : ∀ b, b < n → RV 1000 (now b)) : ∀ (m b : Nat) (v : Int32) (H : pmT), b + m = n → fr JP H0 H → (∀ b', b ≤ b' → b' < n → MR H b' (now b')) → (∀ H', fr JP H0 H' → K (W_bars hb L now m b v) H') → pm_RW none (d + 74) M_Mo_whole (pm_i K) 25 [(0, .ref 55), (2, .int v), (3, .int (nI b))] [] H
  | 0, b, v, H, hb0, hf, hT, kk => by
    refine b_Mo_whole_25 _ _ ?_
    rw [show H.1 55 6 = nI n from (hf.1 55 6 rfl).trans hn, i_le _ _ (by omega) (by omega)]
    first | refine bt (show n ≤ b by omega) ?_ | refine bf (show n ≤ b by omega) ?_ | refine nt (show n ≤ b by omega) ?_ | refine nf (show n ≤ b by omega) ?_
    exact kk H hf
  | m + 1, b, v, H, hb0, hf, hT, kk => by
    have ih := lp_barsM (d := d) (K := K) hn12 hX hn hV m
    refine b_Mo_whole_25 _ _ ?_
    rw [show H.1 55 6 = nI n from (hf.1 55 6 rfl).trans hn, i_le _ _ (by omega) (by omega), show nI b + (1 : Int32) = nI (b + 1) from nI_1 b]
    first | refine bt (show ¬ n ≤ b by omega) ?_ | refine bf (show ¬ n ≤ b by omega) ?_ | refine nt (show ¬ n ≤ b by omega) ?_ | refine nf (show ¬ n ≤ b by omega) ?_
    refine c_timesOfM (s := 0) (by omega) (by decide) (hX.fr hf rfl rfl) (hT b (Nat.le_refl _) (by omega)) (hV b (by omega)) (by decide) (fun H1 f1 => ?_)
    unfold W_bars at kk
    have hf1 : fr JP H0 H1 := hf.tr (f1.fr rfl rfl)
    rcases W_till_cases (hb := hb) (L := L) (s := 0) 100 0 (now b) rfl with e | ⟨q, hq, e⟩
    · rw [if_pos e] at kk
      rw [e]
      first | refine bt (show ¬ (0 : Int32) ≤ -2 by decide) ?_ | refine bf (show ¬ (0 : Int32) ≤ -2 by decide) ?_ | refine nt (show ¬ (0 : Int32) ≤ -2 by decide) ?_ | refine nf (show ¬ (0 : Int32) ≤ -2 by decide) ?_
      exact kk H1 hf1
    · rw [e] at kk ⊢
      rw [if_neg (nI_ne_m2 (by omega))] at kk
      first | refine bt (nI_pos' (show q < 2 ^ 31 by omega)) ?_ | refine bf (nI_pos' (show q < 2 ^ 31 by omega)) ?_ | refine nt (nI_pos' (show q < 2 ^ 31 by omega)) ?_ | refine nf (nI_pos' (show q < 2 ^ 31 by omega)) ?_
      exact ih (b + 1) _ H1 (by omega) hf1 (fun b' h1 h2 => (hT b' (by omega) h2).fb f1 rfl rfl (by omega)) kk
/-- what was heard, held against what would come -/
theorem nI_2 (k : Nat) : (2 : Int32) * nI k = nI (2 * k) := pk_mul 2 k
theorem W_dif_iff {x : Int64} {c : Int32} (hc : c = -2 ∨ c = 0 ∨ c = 1) : (W_dif x c = true) = (0 ≤ c.toInt ∧ 0 ≤ x.toInt ∧ x.toInt ≤ 1 ∧ ¬ x.toInt = c.toInt) := by
  apply propext
  unfold W_dif
  rw [decide_eq_true_eq]
  have e0 : (x = 0) = (x.toInt = 0) := propext Int64.toInt_inj.symm
  have e1 : (x = 1) = (x.toInt = 1) := propext Int64.toInt_inj.symm
  have e2 : (x = c.toInt64) = (x.toInt = c.toInt) := by rw [← i2l_t c]; exact propext Int64.toInt_inj.symm
  rw [e0, e1, e2]
  have e3 : (c = -2) = (c.toInt = -2) := propext Int32.toInt_inj.symm
  rw [e3]
  have hc' : c.toInt = -2 ∨ c.toInt = 0 ∨ c.toInt = 1 := by
    rcases hc with e | e | e <;> rw [e] <;> decide
  omega
theorem lp_falseM {d n s len f : Nat} {hb : Nat → Nat} {L : Law} {g : Nat → Int64} {K : Int32 → pmT → Prop} {H0 : pmT} (hn12 : n ≤ 12) (hf12 : f ≤ 12) (hX : MX hb L H0) (ef : H0.1 55 23 = nI f) (hn : H0.1 55 6 = nI n) (hG : MSh s len g H0) : ∀ (m k k0 : Nat) (T : Nat → Row) (H : pmT), k + m = 31 → k0 + m < 2 ^ 20 → fr JP H0 H → (∀ b, b < n → MR H b (T b)) → (∀ b, b < n → RV k0 (T b)) → (∀ H', fr JP H0 H' → K (W_unl hb L n f len g m k T) H') → pm_RW none (d + 74) M_Mo_firstFalse (pm_i K) 2 [(0, .ref 55), (1, .int (nI s)), (2, .int (nI k))] [] H
  | 0, k, k0, T, H, hk, hk0, hf, hT, hV, kk => by
    have hl := hG.2.2.1
    have hs6 := hG.1
    have hG1 := hG.fr hf rfl
    refine b_Mo_firstFalse_2 _ _ ?_
    refine ⟨vp_in_nI hs6 (by decide), ?_⟩
    rw [nIc (show s < 2 ^ 31 by omega), hG1.2.1, nI_2, i_le _ _ (by omega) (by omega)]
    first | refine bt (show len ≤ 2 * k by omega) ?_ | refine bf (show len ≤ 2 * k by omega) ?_ | refine nt (show len ≤ 2 * k by omega) ?_ | refine nf (show len ≤ 2 * k by omega) ?_
    exact kk H hf
  | m + 1, k, k0, T, H, hk, hk0, hf, hT, hV, kk => by
    have ih := lp_falseM (d := d) (K := K) hn12 hf12 hX ef hn hG m
    have hl := hG.2.2.1
    have hs6 := hG.1
    have hG1 := hG.fr hf rfl
    refine b_Mo_firstFalse_2 _ _ ?_
    refine ⟨vp_in_nI hs6 (by decide), ?_⟩
    rw [nIc (show s < 2 ^ 31 by omega), hG1.2.1, nI_2, i_le _ _ (by omega) (by omega), show nI (2 * k) + (1 : Int32) = nI (2 * k + 1) from nI_1 _, show nI k + (1 : Int32) = nI (k + 1) from nI_1 k]
    unfold W_unl at kk
    by_cases c0 : 2 * k < len
    · rw [if_pos c0] at kk
      first | refine bt (show ¬ len ≤ 2 * k by omega) ?_ | refine bf (show ¬ len ≤ 2 * k by omega) ?_ | refine nt (show ¬ len ≤ 2 * k by omega) ?_ | refine nf (show ¬ len ≤ 2 * k by omega) ?_
      obtain ⟨q1, q2, q3, q4⟩ := hG1.at c0
      refine ⟨q1, ?_⟩
      rw [q2]
      have e32 : W_int g (2 * k) = (g (2 * k)).toInt := (hG.2.2.2.2 (2 * k) c0).symm
      refine c_isPlan (d := d + 71) ((hf.1 55 6 rfl).trans hn) hn12 (hG1.in32 c0) ?_
      rw [← e32]
      by_cases cok : W_ok n (W_int g (2 * k)) = true
      · rw [if_pos cok]
        first | refine bt (show ¬ (1 : Int32) = 0 by decide) ?_ | refine bf (show ¬ (1 : Int32) = 0 by decide) ?_ | refine nt (show ¬ (1 : Int32) = 0 by decide) ?_ | refine nf (show ¬ (1 : Int32) = 0 by decide) ?_
        rw [q2]
        refine c_does _ hn12 hf12 (by omega) (hX.fr hf rfl rfl) ((hf.1 55 23 rfl).trans ef) ((hf.1 55 6 rfl).trans hn) hT hV cok (fun c T' ed H1 f1 hT1 => ?_)
        have hV1 := RV_do hV ed
        have hcc := W_do_ne ed
        have ed' : W_do hb L n f T (W_int g (2 * k)) = some (c, T') := ed
        rw [ed'] at kk
        simp only at kk
        have hf1 := hf.tr f1
        have hG2 := hG.fr hf1 rfl
        have c00 : (c < 0) = (c.toInt < 0) := propext Int32.lt_iff_toInt_lt
        rw [hG2.2.1, i_le _ _ (by omega) (by omega)]
        by_cases c1 : len ≤ 2 * k + 1
        · first | refine bt c1 ?_ | refine bf c1 ?_ | refine nt c1 ?_ | refine nf c1 ?_
          rw [if_neg (fun z => absurd z.1 (by omega))] at kk
          have go := ih (k + 1) (k0 + 1) T' H1 (by omega) (by omega) hf1 hT1 hV1 kk
          exact ⟨fun _ => go, fun _ => ⟨fun _ => go, fun z => absurd (show lg_cmp (-1) 0 < 0 by decide) z⟩⟩
        · first | refine bt c1 ?_ | refine bf c1 ?_ | refine nt c1 ?_ | refine nf c1 ?_
          obtain ⟨w1, w2, w3, w4⟩ := hG2.at (show 2 * k + 1 < len by omega)
          refine ⟨w1, ?_⟩
          rw [w2]
          have l0 : (0 : Int64).toInt = 0 := rfl
          have l1 : (1 : Int64).toInt = 1 := rfl
          simp only [lgl, lgg, lge, l0, l1, i2l_t, c00]
          have hdi := W_dif_iff (x := g (2 * k + 1)) hcc
          by_cases cd : W_dif (g (2 * k + 1)) c = true
          · rw [if_pos ⟨by omega, cd⟩] at kk
            have cd' := hdi.mp cd
            first | refine bt (show ¬ c.toInt < 0 by omega) ?_ | refine bf (show ¬ c.toInt < 0 by omega) ?_ | refine nt (show ¬ c.toInt < 0 by omega) ?_ | refine nf (show ¬ c.toInt < 0 by omega) ?_
            first | refine bt (show ¬ (g (2 * k + 1)).toInt < 0 by omega) ?_ | refine bf (show ¬ (g (2 * k + 1)).toInt < 0 by omega) ?_ | refine nt (show ¬ (g (2 * k + 1)).toInt < 0 by omega) ?_ | refine nf (show ¬ (g (2 * k + 1)).toInt < 0 by omega) ?_
            first | refine bt (show ¬ 1 < (g (2 * k + 1)).toInt by omega) ?_ | refine bf (show ¬ 1 < (g (2 * k + 1)).toInt by omega) ?_ | refine nt (show ¬ 1 < (g (2 * k + 1)).toInt by omega) ?_ | refine nf (show ¬ 1 < (g (2 * k + 1)).toInt by omega) ?_
            first | refine bt cd'.2.2.2 ?_ | refine bf cd'.2.2.2 ?_ | refine nt cd'.2.2.2 ?_ | refine nf cd'.2.2.2 ?_
            exact kk H1 hf1
          · rw [if_neg (fun z => cd z.2)] at kk
            have go := ih (k + 1) (k0 + 1) T' H1 (by omega) (by omega) hf1 hT1 hV1 kk
            have cd' : ¬ (0 ≤ c.toInt ∧ 0 ≤ (g (2 * k + 1)).toInt ∧ (g (2 * k + 1)).toInt ≤ 1 ∧ ¬ (g (2 * k + 1)).toInt = c.toInt) := fun z => cd (hdi.mpr z)
            exact ⟨fun _ => go, fun x1 => ⟨fun _ => go, fun x2 => ⟨fun _ => go, fun x3 => ⟨fun _ => go, fun x4 => absurd ⟨by omega, by omega, by omega, x4⟩ cd'⟩⟩⟩⟩
      · rw [if_neg cok]
        first | refine bt (show (0 : Int32) = 0 from rfl) ?_ | refine bf (show (0 : Int32) = 0 from rfl) ?_ | refine nt (show (0 : Int32) = 0 from rfl) ?_ | refine nf (show (0 : Int32) = 0 from rfl) ?_
        have ed : W_do hb L n f T (W_int g (2 * k)) = none := W_ok_do.mpr (by simpa using cok)
        rw [ed] at kk
        exact kk H hf
    · rw [if_neg c0] at kk
      first | refine bt (show len ≤ 2 * k by omega) ?_ | refine bf (show len ≤ 2 * k by omega) ?_ | refine nt (show len ≤ 2 * k by omega) ?_ | refine nf (show len ≤ 2 * k by omega) ?_
      exact kk H hf
theorem c_falseM {d n s len f k0 : Nat} {hb : Nat → Nat} {L : Law} {g : Nat → Int64} {T : Nat → Row} {K : Int32 → pmT → Prop} {H : pmT} (hn12 : n ≤ 12) (hf12 : f ≤ 12) (hX : MX hb L H) (ef : H.1 55 23 = nI f) (hn : H.1 55 6 = nI n) (hG : MSh s len g H) (hT : ∀ b, b < n → MR H b (T b)) (hV : ∀ b, b < n → RV k0 (T b)) (hk : k0 < 2 ^ 19) (kk : ∀ H', fr JP H H' → K (W_unl hb L n f len g 31 0 T) H') : pm_R (d + 74) M_Mo_firstFalse [.ref 55, .int (nI s)] H (pm_i K) := by
  refine m_Mo_firstFalse _ ?_
  exact lp_falseM hn12 hf12 hX ef hn hG 31 0 k0 T H rfl (by omega) fr.rf hT hV kk
/-- whether it may have been this bar -/
theorem lp_mayM {d n s len b : Nat} {hb : Nat → Nat} {L : Law} {g : Nat → Int64} {K : Int32 → pmT → Prop} {H0 : pmT} (hb12 : b < 12) (hX : MX hb L H0) (ef : H0.1 55 23 = nI (hb 2)) (hG : MSh s len g H0) : ∀ (m k k0 : Nat) (r : Row) (H : pmT), k + m = len → k0 < 2 ^ 19 → fb JA R4 b H0 H → MR H b r → RV k0 r → (∀ H', fb JA R4 b H0 H' → K (if W_may hb L len g m k r = true then 1 else 0) H') → pm_RW none (d + 73) M_Mo_mayBe (pm_i K) 7 [(0, .ref 55), (1, .int (nI s)), (2, .int (nI b)), (3, .int (nI k))] [] H
  | 0, k, k0, r, H, hk, hk0, hf, hR, hr, kk => by
    have hl := hG.2.2.1
    have hs6 := hG.1
    have hG1 := hG.fr (hf.fr (S' := JP) rfl rfl) rfl
    refine b_Mo_mayBe_7 _ _ _ ?_
    refine ⟨vp_in_nI hs6 (by decide), ?_⟩
    rw [nIc (show s < 2 ^ 31 by omega), hG1.2.1]
    first | refine bt (nI_le (show len ≤ k by omega) (by omega)) ?_ | refine bf (nI_le (show len ≤ k by omega) (by omega)) ?_ | refine nt (nI_le (show len ≤ k by omega) (by omega)) ?_ | refine nf (nI_le (show len ≤ k by omega) (by omega)) ?_
    have := kk H hf
    rw [show W_may hb L len g 0 k r = true from rfl, if_pos rfl] at this
    exact this
  | m + 1, k, k0, r, H, hk, hk0, hf, hR, hr, kk => by
    have ih := lp_mayM (d := d) (n := n) (K := K) hb12 hX ef hG m
    have hl := hG.2.2.1
    have hs6 := hG.1
    have hfr := hf.fr (S' := JP) rfl rfl
    have hG1 := hG.fr hfr rfl
    have hX1 := hX.fr hfr rfl rfl
    refine b_Mo_mayBe_7 _ _ _ ?_
    refine ⟨vp_in_nI hs6 (by decide), ?_⟩
    rw [nIc (show s < 2 ^ 31 by omega), hG1.2.1, show nI k + (1 : Int32) = nI (k + 1) from nI_1 k]
    first | refine bt (nI_ge (show k < len by omega) (by omega)) ?_ | refine bf (nI_ge (show k < len by omega) (by omega)) ?_ | refine nt (nI_ge (show k < len by omega) (by omega)) ?_ | refine nf (nI_ge (show k < len by omega) (by omega)) ?_
    refine c_playsM (s := 0) hX1 hR hr (by omega) hb12 (by decide) (fun H1 f1 hR1 => ?_)
    have hf1 := hf.tr f1
    have hfr1 := hf1.fr (S' := JP) rfl rfl
    have hG2 := hG.fr hfr1 rfl
    have hX2 := hX.fr hfr1 rfl rfl
    have hr1 := RV_play hb L hr 0
    obtain ⟨w1, w2, w3, w4⟩ := hG2.at (show k < len by omega)
    have hcl := W_came_le hb r 0
    unfold W_may at kk
    have l0 : (0 : Int64).toInt = 0 := rfl
    have l1 : (1 : Int64).toInt = 1 := rfl
    have lc0 : ((0 : Int32).toInt64).toInt = 0 := rfl
    have lc1 : ((1 : Int32).toInt64).toInt = 1 := rfl
    rw [w2]
    simp only [lgl, lgg, lge, l0, l1, lc0, lc1]
    have hcc : nI (W_came hb r 0) = -2 ∨ nI (W_came hb r 0) = 0 ∨ nI (W_came hb r 0) = 1 := by
      rcases (show W_came hb r 0 = 0 ∨ W_came hb r 0 = 1 by omega) with e | e <;> rw [e]
      · exact Or.inr (Or.inl rfl)
      · exact Or.inr (Or.inr rfl)
    have hdi := W_dif_iff (x := g k) hcc
    have et : (nI (W_came hb r 0)).toInt = W_came hb r 0 := nI_toInt (by omega)
    rw [et] at hdi
    have ngt : ¬ W_dif (g k) (nI (W_came hb r 0)) = true → pm_R (d + 72) M_Mo_nightOf [.ref 55, .int (nI b)] H1 (pm_v (fun H3 => pm_RW none (d + 73) M_Mo_mayBe (pm_i K) 7 [(0, .ref 55), (1, .int (nI s)), (2, .int (nI b)), (3, .int (nI (k + 1)))] [] H3)) := by
      intro cd
      rw [if_neg cd] at kk
      refine c_nightM hX2.1 hX2.2.1 ((hfr1.1 55 23 rfl).trans ef) hR1 hr1 (by omega) hb12 hX2.2.1.2.2.1 (fun H2 f2 hR2 => ?_)
      exact ih (k + 1) 0 _ H2 (by omega) (by decide) (hf1.tr (f2.mono rfl rfl)) hR2 (RV_sleep hb hr1 _) kk
    have dif : W_dif (g k) (nI (W_came hb r 0)) = true → K 0 H1 := by
      intro cd
      rw [if_pos cd] at kk
      have := kk H1 hf1
      rw [if_neg (by decide)] at this
      exact this
    rcases (show W_came hb r 0 = 0 ∨ W_came hb r 0 = 1 by omega) with e | e
    · rw [e] at hdi ngt dif
      rw [e]
      first | refine bt (show nI 0 = 0 from rfl) ?_ | refine bf (show nI 0 = 0 from rfl) ?_ | refine nt (show nI 0 = 0 from rfl) ?_ | refine nf (show nI 0 = 0 from rfl) ?_
      refine ⟨w1, fun x1 => ngt (fun z => absurd (hdi.mp z) (by omega)), fun x1 => ⟨fun x2 => ngt (fun z => absurd (hdi.mp z) (by omega)), fun x2 => ⟨fun x3 => ngt (fun z => absurd (hdi.mp z) (by omega)), fun x3 => dif (hdi.mpr (by omega))⟩⟩⟩
    · rw [e] at hdi ngt dif
      rw [e]
      first | refine bt (show ¬ nI 1 = 0 by decide) ?_ | refine bf (show ¬ nI 1 = 0 by decide) ?_ | refine nt (show ¬ nI 1 = 0 by decide) ?_ | refine nf (show ¬ nI 1 = 0 by decide) ?_
      refine ⟨w1, fun x1 => ngt (fun z => absurd (hdi.mp z) (by omega)), fun x1 => ⟨fun x2 => ngt (fun z => absurd (hdi.mp z) (by omega)), fun x2 => ⟨fun x3 => ngt (fun z => absurd (hdi.mp z) (by omega)), fun x3 => dif (hdi.mpr (by omega))⟩⟩⟩
