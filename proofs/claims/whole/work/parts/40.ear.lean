/-! what was heard: the class -/
theorem lg_cmp0 (a b : Int64) : (lg_cmp a b = 0) = (a = b) := by
  apply propext
  unfold lg_cmp
  by_cases h : a > b
  · rw [if_pos h]
    refine ⟨fun z => absurd z (by decide), fun z => ?_⟩
    subst z
    exact absurd h (Int64.lt_irrefl)
  · rw [if_neg h]
    by_cases e : a = b
    · rw [if_pos e]; exact ⟨fun _ => e, fun _ => rfl⟩
    · rw [if_neg e]; exact ⟨fun z => absurd z (by decide), fun z => absurd z e⟩
def W_dif (x : Int64) (c : Int32) : Bool := decide (¬ c = -2 ∧ (x = 0 ∨ x = 1) ∧ ¬ x = c.toInt64)
theorem c_differs {d : Nat} {K : Int32 → pmT → Prop} {H : pmT} (x : Int64) (c : Int32) (kk : K (if W_dif x c = true then 1 else 0) H) : pm_R d M_Ea_differs [.long x, .int c] H (pm_i K) := by
  refine m_Ea_differs _ _ ?_
  rw [lg_cmp0, lg_cmp0, lg_cmp0]
  unfold W_dif at kk
  simp only [decide_eq_true_eq] at kk
  have y : (¬ c = -2 ∧ (x = 0 ∨ x = 1) ∧ ¬ x = c.toInt64) → K 1 H := fun z => by rw [if_pos z] at kk; exact kk
  have n : ¬ (¬ c = -2 ∧ (x = 0 ∨ x = 1) ∧ ¬ x = c.toInt64) → K 0 H := fun z => by rw [if_neg z] at kk; exact kk
  refine ⟨fun h => n (fun z => z.1 h), fun h => ⟨fun h0 => ⟨fun e => n (fun z => z.2.2 e), fun e => y ⟨h, Or.inl h0, e⟩⟩, fun h0 => ⟨fun h1 => n (fun z => z.2.1.elim h0 h1), fun h1 => ⟨fun e => n (fun z => z.2.2 e), fun e => y ⟨h, Or.inr h1, e⟩⟩⟩⟩⟩
/-- the first two that is not so -/
def W_unl (hb : Nat → Nat) (L : Law) (n f len : Nat) (g : Nat → Int64) : Nat → Nat → (Nat → Row) → Int32
  | 0, _, _ => -2
  | m + 1, k, T => if 2 * k < len then (match W_do hb L n f T (W_int g (2 * k)) with
    | none => nI k
    | some (c, T') => if 2 * k + 1 < len ∧ W_dif (g (2 * k + 1)) c = true then nI k else W_unl hb L n f len g m (k + 1) T') else -2
theorem lp_unl {d n f len : Nat} {s : Nat} {hb : Nat → Nat} {L : Law} {now : Nat → Row} {g : Nat → Int64} {K : Int32 → pmT → Prop} {H0 : pmT} (hf12 : f ≤ 12) (hC : CS hb L n now H0) (hG : CSh s len g H0) (hs0 : H0.1 8 0 = nI n) : ∀ (m k k0 : Nat) (T : Nat → Row) (H : pmT), k + m = 31 → k0 + m < 2 ^ 20 → fr JT H0 H → (∀ b, b < n → TR H b (T b)) → (∀ b, b < n → RV k0 (T b)) → (∀ H', fr JT H0 H' → K (W_unl hb L n f len g m k T) H') → pm_RW none (d + 5) M_Ea_unlikeFromThought (pm_i K) 3 [(1, .ref 1), (2, .ref s), (3, .int (nI f)), (4, .int (nI k))] [] H
  | 0, k, k0, T, H, hk, hk0, hf, hT, hV, kk => by
    have hl60 := hG.2.2.2.1
    have hG1 := hG.fr (hf.mono rfl)
    refine b_Ea_unlikeFromThought_3 _ _ _ hG.1 ?_
    have e2 : (2 : Int32) * nI k = nI (2 * k) := by rw [show (2 : Int32) = nI 2 from rfl, pk_mul]
    rw [hG1.2.2.1, e2, i_le _ _ (by omega) (by omega)]
    first | refine bt (show len ≤ 2 * k by omega) ?_ | refine bf (show len ≤ 2 * k by omega) ?_ | refine nt (show len ≤ 2 * k by omega) ?_ | refine nf (show len ≤ 2 * k by omega) ?_
    exact kk H hf
  | m + 1, k, k0, T, H, hk, hk0, hf, hT, hV, kk => by
    have ih := lp_unl (d := d) (K := K) hf12 hC hG hs0 m
    have hl60 := hG.2.2.2.1
    have hC1 := hC.fr (hf.mono rfl)
    have hG1 := hG.fr (hf.mono rfl)
    refine b_Ea_unlikeFromThought_3 _ _ _ hG.1 ?_
    have e2 : (2 : Int32) * nI k = nI (2 * k) := by rw [show (2 : Int32) = nI 2 from rfl, pk_mul]
    have ea : nI k + (1 : Int32) = nI (k + 1) := nI_1 k
    have e3 : nI (2 * k) + (1 : Int32) = nI (2 * k + 1) := nI_1 _
    rw [hG1.2.2.1, e2, i_le _ _ (by omega) (by omega), ea, e3]
    unfold W_unl at kk
    by_cases c0 : 2 * k < len
    · rw [if_pos c0] at kk
      first | refine bt (show ¬ len ≤ 2 * k by omega) ?_ | refine bf (show ¬ len ≤ 2 * k by omega) ?_ | refine nt (show ¬ len ≤ 2 * k by omega) ?_ | refine nf (show ¬ len ≤ 2 * k by omega) ?_
      refine c_at hG1.1 hG1.2.1 hG1.2.2.1 hG1.2.2.2.1 c0 ?_
      rw [hG1.2.2.2.2.1]
      refine c_step _ hC.2.2.1 hf12 (by omega) hC1.1 hT hV ((hf.1 8 0 rfl).trans hs0) (fun en => ?_) (fun c T' es H1 f1 hT1 => ?_)
      · have en' : W_do hb L n f T (W_int g (2 * k)) = none := en
        rw [en'] at kk
        rw [hG1.2.2.1, i_le _ _ (by omega) (by omega)]
        by_cases c1 : len ≤ 2 * k + 1
        · first | refine bt c1 ?_ | refine bf c1 ?_ | refine nt c1 ?_ | refine nf c1 ?_
          first | refine bt (show (-1 : Int32) = -1 from rfl) ?_ | refine bf (show (-1 : Int32) = -1 from rfl) ?_ | refine nt (show (-1 : Int32) = -1 from rfl) ?_ | refine nf (show (-1 : Int32) = -1 from rfl) ?_
          exact kk H hf
        · first | refine bt c1 ?_ | refine bf c1 ?_ | refine nt c1 ?_ | refine nf c1 ?_
          first | refine bt (show (-1 : Int32) = -1 from rfl) ?_ | refine bf (show (-1 : Int32) = -1 from rfl) ?_ | refine nt (show (-1 : Int32) = -1 from rfl) ?_ | refine nf (show (-1 : Int32) = -1 from rfl) ?_
          exact kk H hf
      · have es' : W_do hb L n f T (W_int g (2 * k)) = some (c, T') := es
        rw [es'] at kk
        dsimp only at kk
        have hc := W_do_ne es
        have hne : ¬ c = (-1 : Int32) := by rcases hc with z | z | z <;> rw [z] <;> decide
        have hf1 : fr JT H0 H1 := hf.tr f1
        have hG2 := hG.fr (hf1.mono rfl)
        rw [hG2.2.2.1, i_le _ _ (by omega) (by omega)]
        by_cases c1 : len ≤ 2 * k + 1
        · first | refine bt c1 ?_ | refine bf c1 ?_ | refine nt c1 ?_ | refine nf c1 ?_
          first | refine bt hne ?_ | refine bf hne ?_ | refine nt hne ?_ | refine nf hne ?_
          rw [if_neg (fun z => absurd z.1 (by omega))] at kk
          exact ih (k + 1) (k0 + 1) T' H1 (by omega) (by omega) hf1 hT1 (RV_do hV es) kk
        · first | refine bt c1 ?_ | refine bf c1 ?_ | refine nt c1 ?_ | refine nf c1 ?_
          first | refine bt hne ?_ | refine bf hne ?_ | refine nt hne ?_ | refine nf hne ?_
          refine c_at hG2.1 hG2.2.1 hG2.2.2.1 hG2.2.2.2.1 (by omega) ?_
          rw [hG2.2.2.2.2.1]
          refine c_differs _ _ ?_
          by_cases c2 : W_dif (g (2 * k + 1)) c = true
          · rw [if_pos c2]
            rw [if_pos ⟨by omega, c2⟩] at kk
            first | refine bt (show ¬ (1 : Int32) = 0 by decide) ?_ | refine bf (show ¬ (1 : Int32) = 0 by decide) ?_ | refine nt (show ¬ (1 : Int32) = 0 by decide) ?_ | refine nf (show ¬ (1 : Int32) = 0 by decide) ?_
            exact kk H1 hf1
          · rw [if_neg c2]
            rw [if_neg (fun z => c2 z.2)] at kk
            first | refine bt (show (0 : Int32) = 0 from rfl) ?_ | refine bf (show (0 : Int32) = 0 from rfl) ?_ | refine nt (show (0 : Int32) = 0 from rfl) ?_ | refine nf (show (0 : Int32) = 0 from rfl) ?_
            exact ih (k + 1) (k0 + 1) T' H1 (by omega) (by omega) hf1 hT1 (RV_do hV es) kk
    · rw [if_neg c0] at kk
      first | refine bt (show len ≤ 2 * k by omega) ?_ | refine bf (show len ≤ 2 * k by omega) ?_ | refine nt (show len ≤ 2 * k by omega) ?_ | refine nf (show len ≤ 2 * k by omega) ?_
      exact kk H hf
theorem c_unl {d n f len k0 : Nat} {s : Nat} {hb : Nat → Nat} {L : Law} {now T : Nat → Row} {g : Nat → Int64} {K : Int32 → pmT → Prop} {H : pmT} (hf12 : f ≤ 12) (hC : CS hb L n now H) (hG : CSh s len g H) (hs0 : H.1 8 0 = nI n) (hT : ∀ b, b < n → TR H b (T b)) (hV : ∀ b, b < n → RV k0 (T b)) (hk : k0 < 2 ^ 19) (kk : ∀ H', fr JT H H' → K (W_unl hb L n f len g 31 0 T) H') : pm_R (d + 5) M_Ea_unlikeFromThought [.ref 25, .ref 1, .ref s, .int (nI f)] H (pm_i K) := by
  refine m_Ea_unlikeFromThought _ _ ?_
  exact lp_unl hf12 hC hG hs0 31 0 k0 T H rfl (by omega) fr.rf hT hV kk
theorem c_judge {d n len : Nat} {s : Nat} {hb : Nat → Nat} {L : Law} {now : Nat → Row} {g : Nat → Int64} {K : Int32 → pmT → Prop} {H : pmT} (hC : CS hb L n now H) (hG : CSh s len g H) (kk : ∀ H', fr JC H H' → K (W_unl hb L n (hb 2) len g 31 0 now) H') : pm_R (d + 6) M_Ea_firstUnlike [.ref 25, .ref 1, .ref s] H (pm_i K) := by
  refine m_Ea_firstUnlike _ ?_
  refine c_takeAll_8 hC.2.1 hC.2.2.1 hC.2.2.2.1 (fun H1 f1 hs hT => ?_)
  have f1' : fr JC H H1 := f1.mono rfl
  have hC1 := hC.fr f1'
  rw [hC1.fades.1]
  exact c_unl hC1.fades.2 hC1 (hG.fr f1') hs hT hC.2.2.2.2 (by decide) (fun H' f => kk H' (f1'.tr (f.mono rfl)))
/-- a bar's WRONG told otherwise -/
def W_setW (now : Nat → Row) (b v : Nat) : Nat → Row := va_up now b ((now b).1, v, (now b).2.2)
def W_fitW (hb : Nat → Nat) (L : Law) (n len : Nat) (g : Nat → Int64) (now : Nat → Row) (b isG : Nat) : Nat → Nat → Int32
  | 0, _ => -2
  | m + 1, v => if W_unl hb L n (hb 2) len g 31 0 (W_setW now b (if isG = 0 then v else 999 - v)) = -2 then nI (if isG = 0 then v else 999 - v) else W_fitW hb L n len g now b isG m (v + 1)
theorem lp_fitW {d n len b isG : Nat} {s : Nat} {hb : Nat → Nat} {L : Law} {now : Nat → Row} {g : Nat → Int64} {K : Int32 → pmT → Prop} {H0 : pmT} (hC : CS hb L n now H0) (hG : CSh s len g H0) (hbn : b < n) (hI : isG ≤ 1) : ∀ (m v : Nat) (H : pmT), v + m = 1000 → fr JC H0 H → (∀ H', fr JC H0 H' → K (W_fitW hb L n len g now b isG m v) H') → pm_RW none (d + 6) M_Ea_fittingWrong (pm_i K) 3 [(0, .ref 25), (1, .ref 1), (2, .ref s), (3, .int (nI b)), (4, .int (nI isG)), (5, .int (nI v))] [] H
  | 0, v, H, hv, hf, kk => by
    refine b_Ea_fittingWrong_3 _ _ _ _ ?_
    have e : (999 : Int32) < nI v := by rw [show v = 1000 by omega]; decide
    first | refine bt e ?_ | refine bf e ?_ | refine nt e ?_ | refine nf e ?_
    exact kk H hf
  | m + 1, v, H, hv, hf, kk => by
    have ih := lp_fitW (d := d) (K := K) hC hG hbn hI m
    have hC1 := hC.fr hf
    have hn12 := hC.2.2.1
    refine b_Ea_fittingWrong_3 _ _ _ _ ?_
    have e : ¬ (999 : Int32) < nI v := by
      intro q
      have := (nI_ltI (a := 999) (b := v) (by decide) (by omega)).mp q
      omega
    have ea : nI v + (1 : Int32) = nI (v + 1) := nI_1 v
    have esub : (999 : Int32) - nI v = nI (999 - v) := pk_sub (a := 999) (b := v) (by omega)
    have ei : (nI isG = 0) = (isG = 0) := i_eq isG 0 (by omega) (by decide)
    first | refine bt e ?_ | refine bf e ?_ | refine nt e ?_ | refine nf e ?_
    rw [ei, ea, esub]
    unfold W_fitW at kk
    have go : ∀ w : Nat, w ≤ 999 → (W_unl hb L n (hb 2) len g 31 0 (W_setW now b w) = -2 → ∀ H', fr JC H0 H' → K (nI w) H') → (¬ W_unl hb L n (hb 2) len g 31 0 (W_setW now b w) = -2 → ∀ H', fr JC H0 H' → pm_RW none (d + 6) M_Ea_fittingWrong (pm_i K) 3 [(0, .ref 25), (1, .ref 1), (2, .ref s), (3, .int (nI b)), (4, .int (nI isG)), (5, .int (nI (v + 1)))] [] H') → pm_R (d + 5) M_Ha_takeAll [.ref 8, .ref 2] H (pm_v fun H1 => vp_in (nI b) 12 ∧ pm_R (d + 5) M_Ea_unlikeFromThought [.ref 25, .ref 1, .ref s, .int (H1.1 20 2)] (pm_up H1.1 10 (nI b).toNatClampNeg (nI w), H1.2) (pm_i fun x3 H2 => (¬ x3 = (-2 : Int32) → pm_RW none (d + 6) M_Ea_fittingWrong (pm_i K) 3 [(0, .ref 25), (1, .ref 1), (2, .ref s), (3, .int (nI b)), (4, .int (nI isG)), (5, .int (nI (v + 1)))] [] H2) ∧ (x3 = (-2 : Int32) → pm_i K (some (.int (nI w))) H2))) := by
      intro w hw k1 k2
      refine c_takeAll_8 (d := d + 3) hC1.2.1 hC1.2.2.1 hC1.2.2.2.1 (fun H1 f1 hs hT => ?_)
      refine ⟨vp_in_nI (by omega) (by decide), ?_⟩
      have f1' : fr JC H H1 := f1.mono rfl
      have f2 : fr JC H (pm_up H1.1 10 (nI b).toNatClampNeg (nI w), H1.2) := f1'.up (o := 10) (k := (nI b).toNatClampNeg) rfl
      have hC2 := hC1.fr f1'
      rw [hC2.fades.1]
      have hT2 : ∀ b', b' < n → TR (pm_up H1.1 10 (nI b).toNatClampNeg (nI w), H1.2) b' (W_setW now b w b') := by
        rw [nIc (by omega)]
        intro b' hb'
        obtain ⟨t1, t2, t3⟩ := hT b' hb'
        unfold W_setW va_up
        split
        · rename_i e
          subst e
          exact ⟨t1, by show pm_up H1.1 10 b' (nI w) 10 b' = _; rw [pm_up_self]; exact pk_us, t3⟩
        · rename_i e
          exact ⟨t1, by show pm_up H1.1 10 b (nI w) 10 b' = _; rw [pm_up_self, pk_un e]; exact t2, t3⟩
      have hV2 : ∀ b', b' < n → RV 1000 (W_setW now b w b') := by
        have h0 := hC.2.2.2.2 b hbn
        exact RV_up (r := ((now b).1, w, (now b).2.2)) hC.2.2.2.2 ⟨h0.1, hw, h0.2.2⟩
      refine c_unl hC2.fades.2 (hC1.fr f2) (((hG.fr hf)).fr f2) hs hT2 hV2 (by decide) (fun H2 f3 => ?_)
      have hf3 : fr JC H0 H2 := hf.tr (f2.tr (f3.mono rfl))
      exact ⟨fun z => k2 z H2 hf3, fun z => k1 z H2 hf3⟩
    by_cases c : isG = 0
    · first | refine bt c ?_ | refine bf c ?_ | refine nt c ?_ | refine nf c ?_
      rw [if_pos c] at kk
      refine go v (by omega) (fun z => by rw [if_pos z] at kk; exact kk) (fun z H' f => ?_)
      rw [if_neg z] at kk
      exact ih (v + 1) H' (by omega) f kk
    · first | refine bt c ?_ | refine bf c ?_ | refine nt c ?_ | refine nf c ?_
      rw [if_neg c] at kk
      refine go (999 - v) (by omega) (fun z => by rw [if_pos z] at kk; exact kk) (fun z H' f => ?_)
      rw [if_neg z] at kk
      exact ih (v + 1) H' (by omega) f kk
theorem c_fitW {d n len b isG : Nat} {s : Nat} {hb : Nat → Nat} {L : Law} {now : Nat → Row} {g : Nat → Int64} {K : Int32 → pmT → Prop} {H : pmT} (hC : CS hb L n now H) (hG : CSh s len g H) (hbn : b < n) (hI : isG ≤ 1) (kk : ∀ H', fr JC H H' → K (W_fitW hb L n len g now b isG 1000 0) H') : pm_R (d + 6) M_Ea_fittingWrong [.ref 25, .ref 1, .ref s, .int (nI b), .int (nI isG)] H (pm_i K) := by
  refine m_Ea_fittingWrong _ _ _ ?_
  exact lp_fitW hC hG hbn hI 1000 0 H rfl fr.rf kk
def W_fitF (hb : Nat → Nat) (L : Law) (n len : Nat) (g : Nat → Int64) (now : Nat → Row) : Nat → Nat → Int32
  | 0, _ => -2
  | m + 1, v => if W_unl hb L n v len g 31 0 now = -2 then nI v else W_fitF hb L n len g now m (v + 1)
theorem lp_fitF {d n len : Nat} {s : Nat} {hb : Nat → Nat} {L : Law} {now : Nat → Row} {g : Nat → Int64} {K : Int32 → pmT → Prop} {H0 : pmT} (hC : CS hb L n now H0) (hG : CSh s len g H0) : ∀ (m v : Nat) (H : pmT), v + m = 13 → fr JC H0 H → (∀ H', fr JC H0 H' → K (W_fitF hb L n len g now m v) H') → pm_RW none (d + 6) M_Ea_leastFades (pm_i K) 2 [(0, .ref 25), (1, .ref 1), (2, .ref s), (3, .int (nI v))] [] H
  | 0, v, H, hv, hf, kk => by
    refine b_Ea_leastFades_2 _ _ ?_
    have e : (12 : Int32) < nI v := by rw [show v = 13 by omega]; decide
    first | refine bt e ?_ | refine bf e ?_ | refine nt e ?_ | refine nf e ?_
    exact kk H hf
  | m + 1, v, H, hv, hf, kk => by
    have ih := lp_fitF (d := d) (K := K) hC hG m
    have hC1 := hC.fr hf
    refine b_Ea_leastFades_2 _ _ ?_
    have e : ¬ (12 : Int32) < nI v := by
      intro q
      have := (nI_ltI (a := 12) (b := v) (by decide) (by omega)).mp q
      omega
    have ea : nI v + (1 : Int32) = nI (v + 1) := nI_1 v
    first | refine bt e ?_ | refine bf e ?_ | refine nt e ?_ | refine nf e ?_
    rw [ea]
    unfold W_fitF at kk
    refine c_takeAll_8 hC1.2.1 hC1.2.2.1 hC1.2.2.2.1 (fun H1 f1 hs hT => ?_)
    have f1' : fr JC H H1 := f1.mono rfl
    refine c_unl (by omega) (hC1.fr f1') ((hG.fr hf).fr f1') hs hT hC.2.2.2.2 (by decide) (fun H2 f2 => ?_)
    have hf2 : fr JC H0 H2 := hf.tr (f1'.tr (f2.mono rfl))
    by_cases c : W_unl hb L n v len g 31 0 now = -2
    · rw [if_pos c] at kk
      first | refine bt c ?_ | refine bf c ?_ | refine nt c ?_ | refine nf c ?_
      exact kk H2 hf2
    · rw [if_neg c] at kk
      first | refine bt c ?_ | refine bf c ?_ | refine nt c ?_ | refine nf c ?_
      exact ih (v + 1) H2 (by omega) hf2 kk
theorem c_fitF {d n len : Nat} {s : Nat} {hb : Nat → Nat} {L : Law} {now : Nat → Row} {g : Nat → Int64} {K : Int32 → pmT → Prop} {H : pmT} (hC : CS hb L n now H) (hG : CSh s len g H) (kk : ∀ H', fr JC H H' → K (W_fitF hb L n len g now 13 0) H') : pm_R (d + 6) M_Ea_leastFades [.ref 25, .ref 1, .ref s] H (pm_i K) := by
  refine m_Ea_leastFades _ ?_
  exact lp_fitF hC hG 13 0 H rfl fr.rf kk
/-- whether it may have been this bar -/
def W_may (hb : Nat → Nat) (L : Law) (len : Nat) (g : Nat → Int64) : Nat → Nat → Row → Bool
  | 0, _, _ => true
  | m + 1, k, r => if W_dif (g k) (nI (W_came hb r 0)) = true then false else W_may hb L len g m (k + 1) (W_sleep hb (W_play hb L r 0) (hb 2))
theorem lp_may {d n len b : Nat} {s : Nat} {hb : Nat → Nat} {L : Law} {now : Nat → Row} {g : Nat → Int64} {K : Int32 → pmT → Prop} {H0 : pmT} (hC : CS hb L n now H0) (hG : CSh s len g H0) (hb12 : b < 12) : ∀ (m k k0 : Nat) (r : Row) (H : pmT), k + m = len → k0 < 2 ^ 19 → fr JC H0 H → TR H b r → RV k0 r → (∀ H', fr JC H0 H' → K (if W_may hb L len g m k r = true then 1 else 0) H') → pm_RW none (d + 4) M_Ea_mayHaveBeen (pm_i K) 16 [(1, .ref 1), (2, .int (nI b)), (3, .ref s), (4, .int (nI k))] [] H
  | 0, k, k0, r, H, hk, hk0, hf, hR, hr, kk => by
    have hl60 := hG.2.2.2.1
    have hG1 := hG.fr hf
    refine b_Ea_mayHaveBeen_16 _ _ _ hG.1 ?_
    rw [hG1.2.2.1, i_le _ _ (by omega) (by omega)]
    first | refine bt (show len ≤ k by omega) ?_ | refine bf (show len ≤ k by omega) ?_ | refine nt (show len ≤ k by omega) ?_ | refine nf (show len ≤ k by omega) ?_
    exact kk H hf
  | m + 1, k, k0, r, H, hk, hk0, hf, hR, hr, kk => by
    have ih := lp_may (d := d) (K := K) hC hG hb12 m
    have hl60 := hG.2.2.2.1
    have hC1 := hC.fr hf
    have hG1 := hG.fr hf
    refine b_Ea_mayHaveBeen_16 _ _ _ hG.1 ?_
    have ea : nI k + (1 : Int32) = nI (k + 1) := nI_1 k
    rw [hG1.2.2.1, i_le _ _ (by omega) (by omega), ea]
    first | refine bt (show ¬ len ≤ k by omega) ?_ | refine bf (show ¬ len ≤ k by omega) ?_ | refine nt (show ¬ len ≤ k by omega) ?_ | refine nf (show ¬ len ≤ k by omega) ?_
    refine c_playOnce_th (s := 0) hC1.1 hR hr (by omega) hb12 (by decide) (fun H1 f1 hR1 _ => ?_)
    have hf1 : fr JC H0 H1 := hf.tr (f1.fr rfl rfl)
    have hG2 := hG.fr hf1
    have hC2 := hC.fr hf1
    refine c_at hG2.1 hG2.2.1 hG2.2.2.1 hG2.2.2.2.1 (by omega) ?_
    rw [hG2.2.2.2.2.1]
    refine c_differs _ _ ?_
    unfold W_may at kk
    by_cases c : W_dif (g k) (nI (W_came hb r 0)) = true
    · rw [if_pos c]
      rw [if_pos c] at kk
      first | refine bt (show ¬ (1 : Int32) = 0 by decide) ?_ | refine bf (show ¬ (1 : Int32) = 0 by decide) ?_ | refine nt (show ¬ (1 : Int32) = 0 by decide) ?_ | refine nf (show ¬ (1 : Int32) = 0 by decide) ?_
      exact kk H1 hf1
    · rw [if_neg c]
      rw [if_neg c] at kk
      first | refine bt (show (0 : Int32) = 0 from rfl) ?_ | refine bf (show (0 : Int32) = 0 from rfl) ?_ | refine nt (show (0 : Int32) = 0 from rfl) ?_ | refine nf (show (0 : Int32) = 0 from rfl) ?_
      rw [hC2.fades.1]
      have hr1 := RV_play hb L hr 0
      refine c_sleepOver_th hC2.1.1 hC2.1.2.1 hR1 hr1 (by omega) hb12 hC2.fades.2 (fun H2 f2 hR2 => ?_)
      exact ih (k + 1) 0 _ H2 (by omega) (by omega) (hf1.tr (f2.fr rfl rfl)) hR2 (RV_sleep hb hr1 (hb 2)) kk
theorem c_may {d n len b : Nat} {s : Nat} {hb : Nat → Nat} {L : Law} {now : Nat → Row} {g : Nat → Int64} {K : Int32 → pmT → Prop} {H : pmT} (hC : CS hb L n now H) (hG : CSh s len g H) (hbn : b < n) (kk : ∀ H', fr JC H H' → K (if W_may hb L len g len 0 (now b) = true then 1 else 0) H') : pm_R (d + 4) M_Ea_mayHaveBeen [.ref 25, .ref 1, .int (nI b), .ref s] H (pm_i K) := by
  have h12 : b < 12 := Nat.lt_of_lt_of_le hbn hC.2.2.1
  refine m_Ea_mayHaveBeen _ _ ?_
  refine c_takeBar_8_2 h12 h12 (hC.2.2.2.1 b hbn) (fun H1 f1 hR => ?_)
  have f1' : fr JC H H1 := f1.fr rfl rfl
  exact lp_may (hC.fr f1') (hG.fr f1') h12 len 0 1000 _ H1 (by omega) (by decide) fr.rf hR (hC.2.2.2.2 b hbn) (fun H' f => kk H' (f1'.tr f))
theorem lp_like {d n len : Nat} {s : Nat} {hb : Nat → Nat} {L : Law} {now : Nat → Row} {g : Nat → Int64} {K : Int32 → pmT → Prop} {H0 : pmT} (hC : CS hb L n now H0) (hG : CSh s len g H0) (P : Nat → Bool) (hP : ∀ b, P b = W_may hb L len g len 0 (now b)) (kk : ∀ H', fr JC H0 H' → K (nI (W_set P n)) H') : ∀ (m b : Nat) (H : pmT), b + m = n → fr JC H0 H → pm_RW none (d + 5) M_Ea_likeBars (pm_i K) 5 [(0, .ref 25), (1, .ref 1), (2, .ref s), (3, .int (nI (W_set P b))), (4, .int (nI b))] [] H
  | 0, b, H, hb0, hf => by
    have hn12 := hC.2.2.1
    refine b_Ea_likeBars_5 _ _ _ ?_
    rw [(hC.fr hf).2.1, i_le _ _ (by omega) (by omega)]
    first | refine bt (show n ≤ b by omega) ?_ | refine bf (show n ≤ b by omega) ?_ | refine nt (show n ≤ b by omega) ?_ | refine nf (show n ≤ b by omega) ?_
    have := kk H hf
    rw [show n = b by omega] at this
    exact this
  | m + 1, b, H, hb0, hf => by
    have ih := lp_like (d := d) hC hG P hP kk m
    have hn12 := hC.2.2.1
    have hC1 := hC.fr hf
    refine b_Ea_likeBars_5 _ _ _ ?_
    have ea : nI b + (1 : Int32) = nI (b + 1) := nI_1 b
    rw [hC1.2.1, i_le _ _ (by omega) (by omega), ea, one_shl b (by omega), set_or (W_set_lt _ b)]
    first | refine bt (show ¬ n ≤ b by omega) ?_ | refine bf (show ¬ n ≤ b by omega) ?_ | refine nt (show ¬ n ≤ b by omega) ?_ | refine nf (show ¬ n ≤ b by omega) ?_
    refine c_may hC1 (hG.fr hf) (by omega) (fun H1 f1 => ?_)
    have i1 := ih (b + 1) H1 (by omega) (hf.tr f1)
    unfold W_set at i1
    rw [hP b] at i1
    by_cases c : W_may hb L len g len 0 (now b) = true
    · rw [if_pos c]
      rw [if_pos c] at i1
      first | refine bt (show ¬ (1 : Int32) = 0 by decide) ?_ | refine bf (show ¬ (1 : Int32) = 0 by decide) ?_ | refine nt (show ¬ (1 : Int32) = 0 by decide) ?_ | refine nf (show ¬ (1 : Int32) = 0 by decide) ?_
      exact i1
    · rw [if_neg c]
      rw [if_neg c, Nat.add_zero] at i1
      first | refine bt (show (0 : Int32) = 0 from rfl) ?_ | refine bf (show (0 : Int32) = 0 from rfl) ?_ | refine nt (show (0 : Int32) = 0 from rfl) ?_ | refine nf (show (0 : Int32) = 0 from rfl) ?_
      exact i1
theorem c_like {d n len : Nat} {s : Nat} {hb : Nat → Nat} {L : Law} {now : Nat → Row} {g : Nat → Int64} {K : Int32 → pmT → Prop} {H : pmT} (hC : CS hb L n now H) (hG : CSh s len g H) (kk : ∀ H', fr JC H H' → K (nI (W_set (fun b => W_may hb L len g len 0 (now b)) n)) H') : pm_R (d + 5) M_Ea_likeBars [.ref 25, .ref 1, .ref s] H (pm_i K) := by
  refine m_Ea_likeBars _ ?_
  exact lp_like hC hG _ (fun _ => rfl) kk n 0 H (by omega) fr.rf
/-- two who hear each other -/
def W_hear (hb : Nat → Nat) (L : Law) : Nat → Nat → Row → Row → Int32 → Row × Row × Int32
  | 0, _, ra, rb, fi => (ra, rb, fi)
  | m + 1, k, ra, rb, fi =>
    W_hear hb L m (k + 1) (W_sleep hb (W_learn (W_play hb L ra 0) (W_came hb rb 0) (W_give L rb 0 (W_came hb rb 0) / 2)) (hb 2)) (W_sleep hb (W_learn (W_play hb L rb 0) (W_came hb ra 0) (W_give L ra 0 (W_came hb ra 0) / 2)) (hb 2)) (if fi = -2 ∧ W_came hb ra 0 = 1 ∧ W_came hb rb 0 = 1 then nI k else fi)
theorem lp_hear {d n N : Nat} {hb : Nat → Nat} {L : Law} {now : Nat → Row} {K : pmT → Prop} {H0 : pmT} (hN : N ≤ 30) (hC : CS hb L n now H0) (R : Row × Row × Int32) (kk : ∀ H', fr JC H0 H' → TR H' 0 R.1 → TR H' 1 R.2.1 → H'.1 25 0 = R.2.2 → K H') : ∀ (m k : Nat) (k0 : Nat) (ra rb : Row) (fi : Int32) (H : pmT), k + m = N → k0 < 2 ^ 19 → fr JC H0 H → TR H 0 ra → TR H 1 rb → RV k0 ra → RV k0 rb → H.1 25 0 = fi → W_hear hb L m k ra rb fi = R → pm_RW none (d + 4) M_Ea_hearEachOther (pm_v K) 35 [(0, .ref 25), (1, .ref 1), (4, .int (nI N)), (5, .int (nI k))] [] H
  | 0, k, k0, ra, rb, fi, H, hk, hk0, hf, hA, hB, vA, vB, efi, e => by
    refine b_Ea_hearEachOther_35 _ _ ?_
    rw [i_le _ _ (by omega) (by omega)]
    first | refine bt (show N ≤ k by omega) ?_ | refine bf (show N ≤ k by omega) ?_ | refine nt (show N ≤ k by omega) ?_ | refine nf (show N ≤ k by omega) ?_
    exact kk H hf (by rw [← e]; exact hA) (by rw [← e]; exact hB) (by rw [← e]; exact efi)
  | m + 1, k, k0, ra, rb, fi, H, hk, hk0, hf, hA, hB, vA, vB, efi, e => by
    have ih := lp_hear (d := d) hN hC R kk m
    have hC0 := hC.fr hf
    refine b_Ea_hearEachOther_35 _ _ ?_
    have ea : nI k + (1 : Int32) = nI (k + 1) := nI_1 k
    rw [i_le _ _ (by omega) (by omega), ea]
    first | refine bt (show ¬ N ≤ k by omega) ?_ | refine bf (show ¬ N ≤ k by omega) ?_ | refine nt (show ¬ N ≤ k by omega) ?_ | refine nf (show ¬ N ≤ k by omega) ?_
    refine c_playOnce_th (b := 0) (s := 0) hC0.1 hA vA (by omega) (by decide) (by decide) (fun H1 f1 hR1 eg1 => ?_)
    have hf1 : fr JC H0 H1 := hf.tr (f1.fr rfl rfl)
    refine c_playOnce_th (b := 1) (s := 0) (hC.fr hf1).1 (hB.fb f1 rfl (by decide)) vB (by omega) (by decide) (by decide) (fun H3 f3 hR3 eg3 => ?_)
    have hf3 : fr JC H0 H3 := hf1.tr (f3.fr rfl rfl)
    have hca := W_came_le hb ra 0
    have hcb := W_came_le hb rb 0
    have hga := W_give_le L ra 0 _ hca
    have hgb := W_give_le L rb 0 _ hcb
    rw [eg3, eg1]
    have ed : ∀ x : Nat, x ≤ 99 → nI x / (2 : Int32) = nI (x / 2) := fun x hx => pk_div (d := 2) (by omega) (by decide) (by decide)
    rw [ed _ hga, ed _ hgb]
    refine c_learn_th (b := 0) (hR1.fb f3 rfl (by decide)) (RV_play hb L vA 0) (by decide) hcb (by omega) (fun H5 f5 hR5 => ?_)
    have hf5 : fr JC H0 H5 := hf3.tr (f5.fr rfl rfl)
    refine c_learn_th (b := 1) (hR3.fb f5 rfl (by decide)) (RV_play hb L vB 0) (by decide) hca (by omega) (fun H6 f6 hR6 => ?_)
    have hf6 : fr JC H0 H6 := hf5.tr (f6.fr rfl rfl)
    have e25 : H6.1 25 0 = fi := (f6.1 25 0 rfl (Or.inl rfl)).trans ((f5.1 25 0 rfl (Or.inl rfl)).trans ((f3.1 25 0 rfl (Or.inl rfl)).trans ((f1.1 25 0 rfl (Or.inl rfl)).trans efi)))
    have hR5 := hR5.fb f6 rfl (by decide)
    have hrA := RV_learn (RV_play hb L vA 0) (W_came hb rb 0) (W_give L rb 0 (W_came hb rb 0) / 2)
    have hrB := RV_learn (RV_play hb L vB 0) (W_came hb ra 0) (W_give L ra 0 (W_came hb ra 0) / 2)
    unfold W_hear at e
    have e1a : (nI (W_came hb ra 0) = (1 : Int32)) = (W_came hb ra 0 = 1) := i_eq _ 1 (by omega) (by decide)
    have e1b : (nI (W_came hb rb 0) = (1 : Int32)) = (W_came hb rb 0 = 1) := i_eq _ 1 (by omega) (by decide)
    rw [e25, e1a, e1b]
    by_cases c1 : fi = -2
    · first | refine bt c1 ?_ | refine bf c1 ?_ | refine nt c1 ?_ | refine nf c1 ?_
      by_cases c2 : W_came hb ra 0 = 1
      · first | refine bt c2 ?_ | refine bf c2 ?_ | refine nt c2 ?_ | refine nf c2 ?_
        by_cases c3 : W_came hb rb 0 = 1
        · first | refine bt c3 ?_ | refine bf c3 ?_ | refine nt c3 ?_ | refine nf c3 ?_
          rw [if_pos ⟨c1, c2, c3⟩] at e
          have hf6' : fr JC H0 (pm_up H6.1 25 0 (nI k), H6.2) := hf6.up (o := 25) (k := 0) rfl
          have hR6' : TR (pm_up H6.1 25 0 (nI k), H6.2) 1 _ := hR6
          rw [(hC.fr hf6).fades.1]
          refine c_sleepOver_th (hC.fr hf6').1.1 (hC.fr hf6').1.2.1 hR5 hrA (by omega) (by decide) (hC.fr hf6').fades.2 (fun H7 f7 hR7 => ?_)
          have hf7 : fr JC H0 H7 := hf6'.tr (f7.fr rfl rfl)
          rw [(hC.fr hf7).fades.1]
          refine c_sleepOver_th (hC.fr hf7).1.1 (hC.fr hf7).1.2.1 (hR6'.fb f7 rfl (by decide)) hrB (by omega) (by decide) (hC.fr hf7).fades.2 (fun H8 f8 hR8 => ?_)
          have hf8 : fr JC H0 H8 := hf7.tr (f8.fr rfl rfl)
          exact ih (k + 1) 0 _ _ _ H8 (by omega) (by decide) hf8 (hR7.fb f8 rfl (by decide)) hR8 (RV_sleep hb hrA _) (RV_sleep hb hrB _) ((f8.1 25 0 rfl (Or.inl rfl)).trans ((f7.1 25 0 rfl (Or.inl rfl)).trans rfl)) e
        · first | refine bt c3 ?_ | refine bf c3 ?_ | refine nt c3 ?_ | refine nf c3 ?_
          rw [if_neg (fun z => c3 z.2.2)] at e
          rw [(hC.fr hf6).fades.1]
          refine c_sleepOver_th (hC.fr hf6).1.1 (hC.fr hf6).1.2.1 hR5 hrA (by omega) (by decide) (hC.fr hf6).fades.2 (fun H7 f7 hR7 => ?_)
          have hf7 : fr JC H0 H7 := hf6.tr (f7.fr rfl rfl)
          rw [(hC.fr hf7).fades.1]
          refine c_sleepOver_th (hC.fr hf7).1.1 (hC.fr hf7).1.2.1 (hR6.fb f7 rfl (by decide)) hrB (by omega) (by decide) (hC.fr hf7).fades.2 (fun H8 f8 hR8 => ?_)
          have hf8 : fr JC H0 H8 := hf7.tr (f8.fr rfl rfl)
          exact ih (k + 1) 0 _ _ _ H8 (by omega) (by decide) hf8 (hR7.fb f8 rfl (by decide)) hR8 (RV_sleep hb hrA _) (RV_sleep hb hrB _) ((f8.1 25 0 rfl (Or.inl rfl)).trans ((f7.1 25 0 rfl (Or.inl rfl)).trans e25)) e
      · first | refine bt c2 ?_ | refine bf c2 ?_ | refine nt c2 ?_ | refine nf c2 ?_
        rw [if_neg (fun z => c2 z.2.1)] at e
        rw [(hC.fr hf6).fades.1]
        refine c_sleepOver_th (hC.fr hf6).1.1 (hC.fr hf6).1.2.1 hR5 hrA (by omega) (by decide) (hC.fr hf6).fades.2 (fun H7 f7 hR7 => ?_)
        have hf7 : fr JC H0 H7 := hf6.tr (f7.fr rfl rfl)
        rw [(hC.fr hf7).fades.1]
        refine c_sleepOver_th (hC.fr hf7).1.1 (hC.fr hf7).1.2.1 (hR6.fb f7 rfl (by decide)) hrB (by omega) (by decide) (hC.fr hf7).fades.2 (fun H8 f8 hR8 => ?_)
        have hf8 : fr JC H0 H8 := hf7.tr (f8.fr rfl rfl)
        exact ih (k + 1) 0 _ _ _ H8 (by omega) (by decide) hf8 (hR7.fb f8 rfl (by decide)) hR8 (RV_sleep hb hrA _) (RV_sleep hb hrB _) ((f8.1 25 0 rfl (Or.inl rfl)).trans ((f7.1 25 0 rfl (Or.inl rfl)).trans e25)) e
    · first | refine bt c1 ?_ | refine bf c1 ?_ | refine nt c1 ?_ | refine nf c1 ?_
      rw [if_neg (fun z => c1 z.1)] at e
      rw [(hC.fr hf6).fades.1]
      refine c_sleepOver_th (hC.fr hf6).1.1 (hC.fr hf6).1.2.1 hR5 hrA (by omega) (by decide) (hC.fr hf6).fades.2 (fun H7 f7 hR7 => ?_)
      have hf7 : fr JC H0 H7 := hf6.tr (f7.fr rfl rfl)
      rw [(hC.fr hf7).fades.1]
      refine c_sleepOver_th (hC.fr hf7).1.1 (hC.fr hf7).1.2.1 (hR6.fb f7 rfl (by decide)) hrB (by omega) (by decide) (hC.fr hf7).fades.2 (fun H8 f8 hR8 => ?_)
      have hf8 : fr JC H0 H8 := hf7.tr (f8.fr rfl rfl)
      exact ih (k + 1) 0 _ _ _ H8 (by omega) (by decide) hf8 (hR7.fb f8 rfl (by decide)) hR8 (RV_sleep hb hrA _) (RV_sleep hb hrB _) ((f8.1 25 0 rfl (Or.inl rfl)).trans ((f7.1 25 0 rfl (Or.inl rfl)).trans e25)) e
theorem c_hear {d n a b N : Nat} {hb : Nat → Nat} {L : Law} {now : Nat → Row} {K : pmT → Prop} {H : pmT} (hN : N ≤ 30) (hC : CS hb L n now H) (han : a < n) (hbn : b < n) (kk : ∀ H', fr JC H H' → TR H' 0 (W_hear hb L N 0 (now a) (now b) (-2)).1 → TR H' 1 (W_hear hb L N 0 (now a) (now b) (-2)).2.1 → H'.1 25 0 = (W_hear hb L N 0 (now a) (now b) (-2)).2.2 → K H') : pm_R (d + 4) M_Ea_hearEachOther [.ref 25, .ref 1, .int (nI a), .int (nI b), .int (nI N)] H (pm_v K) := by
  have hn12 := hC.2.2.1
  refine m_Ea_hearEachOther _ _ _ ?_
  refine c_takeBar_8_2 (a := 0) (b := a) (by decide) (by omega) (hC.2.2.2.1 a han) (fun H1 f1 hR1 => ?_)
  have f1' : fr JC H H1 := f1.fr rfl rfl
  refine c_takeBar_8_2 (a := 1) (b := b) (by decide) (by omega) ((hC.fr f1').2.2.2.1 b hbn) (fun H2 f2 hR2 => ?_)
  have f2' : fr JC H (pm_up H2.1 25 0 (-2), H2.2) := (f1'.tr (f2.fr rfl rfl)).up (o := 25) (k := 0) rfl
  have hR1' : TR H2 0 (now a) := hR1.fb f2 rfl (by decide)
  exact lp_hear hN hC _ kk N 0 1000 _ _ (-2) _ (by omega) (by decide) f2' hR1' hR2 (hC.2.2.2.2 a han) (hC.2.2.2.2 b hbn) rfl rfl
