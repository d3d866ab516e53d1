/-! bars taken over; all bars sleep; a byte of a plan -/
theorem tk5 {h : Nat → Nat → Int32} {b : Nat} {o1 o2 o3 o4 o5 : Nat} {x1 x2 x3 x4 x5 : Int32} (n12 : o2 ≠ o1) (n13 : o3 ≠ o1) (n14 : o4 ≠ o1) (n15 : o5 ≠ o1) (n23 : o3 ≠ o2) (n24 : o4 ≠ o2) (n25 : o5 ≠ o2) (n34 : o4 ≠ o3) (n35 : o5 ≠ o3) (n45 : o5 ≠ o4) :
    pm_up (pm_up (pm_up (pm_up (pm_up h o1 b x1) o2 b x2) o3 b x3) o4 b x4) o5 b x5 o1 b = x1 ∧ pm_up (pm_up (pm_up (pm_up (pm_up h o1 b x1) o2 b x2) o3 b x3) o4 b x4) o5 b x5 o2 b = x2 ∧ pm_up (pm_up (pm_up (pm_up (pm_up h o1 b x1) o2 b x2) o3 b x3) o4 b x4) o5 b x5 o3 b = x3 ∧ pm_up (pm_up (pm_up (pm_up (pm_up h o1 b x1) o2 b x2) o3 b x3) o4 b x4) o5 b x5 o4 b = x4 ∧ pm_up (pm_up (pm_up (pm_up (pm_up h o1 b x1) o2 b x2) o3 b x3) o4 b x4) o5 b x5 o5 b = x5 := by
  have s : ∀ (h : Nat → Nat → Int32) (o : Nat) (x : Int32), pm_up h o b x o b = x := fun h o x => by rw [pm_up_self]; exact pk_us
  have n : ∀ (h : Nat → Nat → Int32) (o o' : Nat) (x : Int32), o' ≠ o → pm_up h o b x o' b = h o' b := fun h o o' x hn => by rw [pm_up_ne _ _ _ hn]
  refine ⟨?_, ?_, ?_, ?_, s _ _ _⟩
  · rw [n _ _ _ _ n15.symm, n _ _ _ _ n14.symm, n _ _ _ _ n13.symm, n _ _ _ _ n12.symm, s]
  · rw [n _ _ _ _ n25.symm, n _ _ _ _ n24.symm, n _ _ _ _ n23.symm, s]
  · rw [n _ _ _ _ n35.symm, n _ _ _ _ n34.symm, s]
  · rw [n _ _ _ _ n45.symm, s]
theorem c_takeBar_8_2 {d a b : Nat} {H : pmT} {K : pmT → Prop} {r : Row} (ha : a < 12) (hb : b < 12) (hR : NR H b r) (kk : ∀ H', fb [] [9, 10, 11, 12, 13] a H H' → TR H' a r → K H') : pm_R (d + 1) M_Ha_takeBar [.ref 8, .int (nI a), .ref 2, .int (nI b)] H (pm_v K) := by
  obtain ⟨h1, h2, h3, h4, h5⟩ := hR
  refine m_Ha_takeBar_8_2 _ _ ?_
  rw [nIc (show a < 2 ^ 31 by omega), nIc (show b < 2 ^ 31 by omega), h1, h2, h3, h4, h5]
  refine ⟨vp_in_nI hb (by decide), vp_in_nI ha (by decide), ?_⟩
  refine kk _ (((((fb.rf.upR (o := 11) rfl).upR (o := 9) rfl).upR (o := 10) rfl).upR (o := 12) rfl).upR (o := 13) rfl) ?_
  obtain ⟨q1, q2, q3, q4, q5⟩ := tk5 (h := H.1) (b := a) (o1 := 11) (o2 := 9) (o3 := 10) (o4 := 12) (o5 := 13) (x1 := nI r.2.2.1) (x2 := nI r.1) (x3 := nI r.2.1) (x4 := nI r.2.2.2.1) (x5 := nI r.2.2.2.2) (by decide) (by decide) (by decide) (by decide) (by decide) (by decide) (by decide) (by decide) (by decide) (by decide)
  exact ⟨q2, q3, q1, q4, q5⟩
theorem c_takeBar_36_2 {d a b : Nat} {H : pmT} {K : pmT → Prop} {r : Row} (ha : a < 12) (hb : b < 12) (hR : NR H b r) (kk : ∀ H', fb [] [37, 38, 39, 40, 41] a H H' → IR H' a r → K H') : pm_R (d + 1) M_Ha_takeBar [.ref 36, .int (nI a), .ref 2, .int (nI b)] H (pm_v K) := by
  obtain ⟨h1, h2, h3, h4, h5⟩ := hR
  refine m_Ha_takeBar_36_2 _ _ ?_
  rw [nIc (show a < 2 ^ 31 by omega), nIc (show b < 2 ^ 31 by omega), h1, h2, h3, h4, h5]
  refine ⟨vp_in_nI hb (by decide), vp_in_nI ha (by decide), ?_⟩
  refine kk _ (((((fb.rf.upR (o := 39) rfl).upR (o := 37) rfl).upR (o := 38) rfl).upR (o := 40) rfl).upR (o := 41) rfl) ?_
  obtain ⟨q1, q2, q3, q4, q5⟩ := tk5 (h := H.1) (b := a) (o1 := 39) (o2 := 37) (o3 := 38) (o4 := 40) (o5 := 41) (x1 := nI r.2.2.1) (x2 := nI r.1) (x3 := nI r.2.1) (x4 := nI r.2.2.2.1) (x5 := nI r.2.2.2.2) (by decide) (by decide) (by decide) (by decide) (by decide) (by decide) (by decide) (by decide) (by decide) (by decide)
  exact ⟨q2, q3, q1, q4, q5⟩
theorem c_takeBar_8_8 {d a b : Nat} {H : pmT} {K : pmT → Prop} {r : Row} (ha : a < 12) (hb : b < 12) (hR : TR H b r) (kk : ∀ H', fb [] [9, 10, 11, 12, 13] a H H' → TR H' a r → K H') : pm_R (d + 1) M_Ha_takeBar [.ref 8, .int (nI a), .ref 8, .int (nI b)] H (pm_v K) := by
  obtain ⟨h1, h2, h3, h4, h5⟩ := hR
  have u0 : ∀ (h : Nat → Nat → Int32) (o : Nat) (x : Int32), h o b = x → pm_up h o a x o b = x := fun h o x e => by
    rw [pm_up_self]
    unfold upd
    split
    · rfl
    · exact e
  have u1 : ∀ (f : Nat → Int32) (x : Int32), f b = x → upd f a x b = x := fun f x e => by
    unfold upd
    split
    · rfl
    · exact e
  refine m_Ha_takeBar_8_8 _ _ ?_
  rw [nIc (show a < 2 ^ 31 by omega), nIc (show b < 2 ^ 31 by omega), h1, h2, h3, h4, h5]
  refine ⟨vp_in_nI hb (by decide), vp_in_nI ha (by decide), ?_⟩
  refine kk _ (((((fb.rf.upR (o := 11) rfl).upR (o := 9) rfl).upR (o := 10) rfl).upR (o := 12) rfl).upR (o := 13) rfl) ?_
  obtain ⟨q1, q2, q3, q4, q5⟩ := tk5 (h := H.1) (b := a) (o1 := 11) (o2 := 9) (o3 := 10) (o4 := 12) (o5 := 13) (x1 := nI r.2.2.1) (x2 := nI r.1) (x3 := nI r.2.1) (x4 := nI r.2.2.2.1) (x5 := nI r.2.2.2.2) (by decide) (by decide) (by decide) (by decide) (by decide) (by decide) (by decide) (by decide) (by decide) (by decide)
  exact ⟨q2, q3, q1, q4, q5⟩
theorem IR.fb {S R : List Nat} {b b' : Nat} {H H' : pmT} {r : Row} (h : IR H b' r) (a : fb S R b H H') (g : (pm_has S 3700 || (pm_has S 3800 || (pm_has S 3900 || (pm_has S 4000 || pm_has S 4100)))) = false) (n : b' ≠ b) : IR H' b' r := by
  simp only [Bool.or_eq_false_iff] at g
  exact ⟨(a.1 37 b' g.1 (Or.inr n)).trans h.1, (a.1 38 b' g.2.1 (Or.inr n)).trans h.2.1, (a.1 39 b' g.2.2.1 (Or.inr n)).trans h.2.2.1, (a.1 40 b' g.2.2.2.1 (Or.inr n)).trans h.2.2.2.1, (a.1 41 b' g.2.2.2.2 (Or.inr n)).trans h.2.2.2.2⟩
theorem lp_takeAll_8 {d n : Nat} {now : Nat → Row} {K : pmT → Prop} {H0 : pmT} (hn12 : n ≤ 12) (hN : ∀ b, b < n → NR H0 b (now b)) (kk : ∀ H', fr [801, 900, 1000, 1100, 1200, 1300] H0 H' → H'.1 8 0 = nI n → (∀ b, b < n → TR H' b (now b)) → K H') : ∀ (m b : Nat) (H : pmT), b + m = n → fr [801, 900, 1000, 1100, 1200, 1300] H0 H → H.1 8 0 = nI n → (∀ b', b' < b → TR H b' (now b')) → pm_RW none (d + 2) M_Ha_takeAll (pm_v K) 10 [(0, .ref 8), (1, .ref 2), (2, .int (nI b))] [] H
  | 0, b, H, hb, hf, hs, hT => by
    refine b_Ha_takeAll_8_2_10 _ ?_
    have e : b = n := by omega
    rw [hs, i_le _ _ (by omega) (by omega)]
    first | refine bt (show n ≤ b by omega) ?_ | refine bf (show n ≤ b by omega) ?_ | refine nt (show n ≤ b by omega) ?_ | refine nf (show n ≤ b by omega) ?_
    exact kk H hf hs (by rw [← e]; exact hT)
  | m + 1, b, H, hb, hf, hs, hT => by
    have ih := lp_takeAll_8 (d := d) hn12 hN kk m
    refine b_Ha_takeAll_8_2_10 _ ?_
    rw [hs, i_le _ _ (by omega) (by omega)]
    have ea : nI b + (1 : Int32) = nI (b + 1) := nI_1 b
    first | refine bt (show ¬ n ≤ b by omega) ?_ | refine bf (show ¬ n ≤ b by omega) ?_ | refine nt (show ¬ n ≤ b by omega) ?_ | refine nf (show ¬ n ≤ b by omega) ?_
    rw [ea]
    refine c_takeBar_8_2 (by omega) (by omega) ((hN b (by omega)).fr hf rfl) (fun H1 f1 hR => ?_)
    refine ih (b + 1) H1 (by omega) (hf.tr (f1.fr rfl rfl)) ((f1.1 8 0 rfl (Or.inl rfl)).trans hs) (fun b' hb' => ?_)
    by_cases e : b' = b
    · rw [e]; exact hR
    · exact (hT b' (by omega)).fb f1 rfl e
theorem c_takeAll_8 {d n : Nat} {now : Nat → Row} {K : pmT → Prop} {H : pmT} (hn : H.1 2 0 = nI n) (hn12 : n ≤ 12) (hN : ∀ b, b < n → NR H b (now b)) (kk : ∀ H', fr [801, 900, 1000, 1100, 1200, 1300] H H' → H'.1 8 0 = nI n → (∀ b, b < n → TR H' b (now b)) → K H') : pm_R (d + 2) M_Ha_takeAll [.ref 8, .ref 2] H (pm_v K) := by
  refine m_Ha_takeAll_8_2 ?_
  have f0 : fr [801, 900, 1000, 1100, 1200, 1300] H (pm_up H.1 8 0 (H.1 2 0), H.2) := fr.rf.up (o := 8) (k := 0) rfl
  exact lp_takeAll_8 hn12 hN kk n 0 _ (by omega) f0 hn (fun b' hb' => by omega)
theorem lp_takeAll_36 {d n : Nat} {now : Nat → Row} {K : pmT → Prop} {H0 : pmT} (hn12 : n ≤ 12) (hN : ∀ b, b < n → NR H0 b (now b)) (kk : ∀ H', fr [3601, 3700, 3800, 3900, 4000, 4100] H0 H' → H'.1 36 0 = nI n → (∀ b, b < n → IR H' b (now b)) → K H') : ∀ (m b : Nat) (H : pmT), b + m = n → fr [3601, 3700, 3800, 3900, 4000, 4100] H0 H → H.1 36 0 = nI n → (∀ b', b' < b → IR H b' (now b')) → pm_RW none (d + 2) M_Ha_takeAll (pm_v K) 10 [(0, .ref 36), (1, .ref 2), (2, .int (nI b))] [] H
  | 0, b, H, hb, hf, hs, hT => by
    refine b_Ha_takeAll_36_2_10 _ ?_
    have e : b = n := by omega
    rw [hs, i_le _ _ (by omega) (by omega)]
    first | refine bt (show n ≤ b by omega) ?_ | refine bf (show n ≤ b by omega) ?_ | refine nt (show n ≤ b by omega) ?_ | refine nf (show n ≤ b by omega) ?_
    exact kk H hf hs (by rw [← e]; exact hT)
  | m + 1, b, H, hb, hf, hs, hT => by
    have ih := lp_takeAll_36 (d := d) hn12 hN kk m
    refine b_Ha_takeAll_36_2_10 _ ?_
    rw [hs, i_le _ _ (by omega) (by omega)]
    have ea : nI b + (1 : Int32) = nI (b + 1) := nI_1 b
    first | refine bt (show ¬ n ≤ b by omega) ?_ | refine bf (show ¬ n ≤ b by omega) ?_ | refine nt (show ¬ n ≤ b by omega) ?_ | refine nf (show ¬ n ≤ b by omega) ?_
    rw [ea]
    refine c_takeBar_36_2 (by omega) (by omega) ((hN b (by omega)).fr hf rfl) (fun H1 f1 hR => ?_)
    refine ih (b + 1) H1 (by omega) (hf.tr (f1.fr rfl rfl)) ((f1.1 36 0 rfl (Or.inl rfl)).trans hs) (fun b' hb' => ?_)
    by_cases e : b' = b
    · rw [e]; exact hR
    · exact (hT b' (by omega)).fb f1 rfl e
theorem c_takeAll_36 {d n : Nat} {now : Nat → Row} {K : pmT → Prop} {H : pmT} (hn : H.1 2 0 = nI n) (hn12 : n ≤ 12) (hN : ∀ b, b < n → NR H b (now b)) (kk : ∀ H', fr [3601, 3700, 3800, 3900, 4000, 4100] H H' → H'.1 36 0 = nI n → (∀ b, b < n → IR H' b (now b)) → K H') : pm_R (d + 2) M_Ha_takeAll [.ref 36, .ref 2] H (pm_v K) := by
  refine m_Ha_takeAll_36_2 ?_
  have f0 : fr [3601, 3700, 3800, 3900, 4000, 4100] H (pm_up H.1 36 0 (H.1 2 0), H.2) := fr.rf.up (o := 36) (k := 0) rfl
  exact lp_takeAll_36 hn12 hN kk n 0 _ (by omega) f0 hn (fun b' hb' => by omega)
/-- all bars of the n sleep -/
def W_night (hb : Nat → Nat) (f n : Nat) (T : Nat → Row) : Nat → Row := fun b => if b < n then W_sleep hb (T b) f else T b
theorem lp_sleepAll_th {d n f k0 : Nat} {hb : Nat → Nat} {T : Nat → Row} {K : pmT → Prop} {H0 : pmT} (hn12 : n ≤ 12) (hf12 : f ≤ 12) (hk : k0 < 2 ^ 20) (hH : CHb hb H0) (hv : HV hb) (hT : ∀ b, b < n → TR H0 b (T b)) (hV : ∀ b, b < n → RV k0 (T b)) (hs : H0.1 8 0 = nI n) (kk : ∀ H', fr [900, 1000, 1200, 1300] H0 H' → (∀ b, b < n → TR H' b (W_sleep hb (T b) f)) → K H') : ∀ (m b : Nat) (H : pmT), b + m = n → fr [900, 1000, 1200, 1300] H0 H → (∀ b', b' < b → TR H b' (W_sleep hb (T b') f)) → (∀ b', b ≤ b' → b' < n → TR H b' (T b')) → pm_RW none (d + 3) M_Pr_sleepAll (pm_v K) 2 [(0, .ref 1), (1, .ref 8), (2, .int (nI f)), (3, .int (nI b))] [] H
  | 0, b, H, hb0, hf, h1, h2 => by
    refine b_Pr_sleepAll_1_8_2 _ _ ?_
    have e : b = n := by omega
    have hs' : H.1 8 0 = nI n := (hf.1 8 0 rfl).trans hs
    rw [hs', i_le _ _ (by omega) (by omega)]
    first | refine bt (show n ≤ b by omega) ?_ | refine bf (show n ≤ b by omega) ?_ | refine nt (show n ≤ b by omega) ?_ | refine nf (show n ≤ b by omega) ?_
    exact kk H hf (by rw [← e]; exact h1)
  | m + 1, b, H, hb0, hf, h1, h2 => by
    have ih := lp_sleepAll_th (d := d) hn12 hf12 hk hH hv hT hV hs kk m
    refine b_Pr_sleepAll_1_8_2 _ _ ?_
    have hs' : H.1 8 0 = nI n := (hf.1 8 0 rfl).trans hs
    rw [hs', i_le _ _ (by omega) (by omega)]
    have ea : nI b + (1 : Int32) = nI (b + 1) := nI_1 b
    first | refine bt (show ¬ n ≤ b by omega) ?_ | refine bf (show ¬ n ≤ b by omega) ?_ | refine nt (show ¬ n ≤ b by omega) ?_ | refine nf (show ¬ n ≤ b by omega) ?_
    rw [ea]
    refine c_sleepOver_th (hH.fr hf rfl) hv (h2 b (Nat.le_refl _) (by omega)) (hV b (by omega)) hk (by omega) hf12 (fun H1 f1 hR => ?_)
    refine ih (b + 1) H1 (by omega) (hf.tr (f1.fr rfl rfl)) (fun b' hb' => ?_) (fun b' hb1 hb2 => (h2 b' (by omega) hb2).fb f1 rfl (by omega))
    by_cases e : b' = b
    · rw [e]; exact hR
    · exact (h1 b' (by omega)).fb f1 rfl e
theorem c_sleepAll_th {d n f k0 : Nat} {hb : Nat → Nat} {T : Nat → Row} {K : pmT → Prop} {H : pmT} (hn12 : n ≤ 12) (hf12 : f ≤ 12) (hk : k0 < 2 ^ 20) (hH : CHb hb H) (hv : HV hb) (hT : ∀ b, b < n → TR H b (T b)) (hV : ∀ b, b < n → RV k0 (T b)) (hs : H.1 8 0 = nI n) (kk : ∀ H', fr [900, 1000, 1200, 1300] H H' → (∀ b, b < n → TR H' b (W_night hb f n T b)) → K H') : pm_R (d + 3) M_Pr_sleepAll [.ref 1, .ref 8, .int (nI f)] H (pm_v K) := by
  refine m_Pr_sleepAll_1_8 _ ?_
  refine lp_sleepAll_th hn12 hf12 hk hH hv hT hV hs (fun H' hf h => kk H' hf (fun b hb0 => ?_)) n 0 H (by omega) fr.rf (fun b' hb' => by omega) (fun b' _ h => hT b' h)
  unfold W_night
  rw [if_pos hb0]
  exact h b hb0
theorem lp_sleepAll_now {d n f k0 : Nat} {hb : Nat → Nat} {T : Nat → Row} {K : pmT → Prop} {H0 : pmT} (hn12 : n ≤ 12) (hf12 : f ≤ 12) (hk : k0 < 2 ^ 20) (hH : CHb hb H0) (hv : HV hb) (hT : ∀ b, b < n → NR H0 b (T b)) (hV : ∀ b, b < n → RV k0 (T b)) (hs : H0.1 2 0 = nI n) (kk : ∀ H', fr [300, 400, 600, 700] H0 H' → (∀ b, b < n → NR H' b (W_sleep hb (T b) f)) → K H') : ∀ (m b : Nat) (H : pmT), b + m = n → fr [300, 400, 600, 700] H0 H → (∀ b', b' < b → NR H b' (W_sleep hb (T b') f)) → (∀ b', b ≤ b' → b' < n → NR H b' (T b')) → pm_RW none (d + 3) M_Pr_sleepAll (pm_v K) 2 [(0, .ref 1), (1, .ref 2), (2, .int (nI f)), (3, .int (nI b))] [] H
  | 0, b, H, hb0, hf, h1, h2 => by
    refine b_Pr_sleepAll_1_2_2 _ _ ?_
    have e : b = n := by omega
    have hs' : H.1 2 0 = nI n := (hf.1 2 0 rfl).trans hs
    rw [hs', i_le _ _ (by omega) (by omega)]
    first | refine bt (show n ≤ b by omega) ?_ | refine bf (show n ≤ b by omega) ?_ | refine nt (show n ≤ b by omega) ?_ | refine nf (show n ≤ b by omega) ?_
    exact kk H hf (by rw [← e]; exact h1)
  | m + 1, b, H, hb0, hf, h1, h2 => by
    have ih := lp_sleepAll_now (d := d) hn12 hf12 hk hH hv hT hV hs kk m
    refine b_Pr_sleepAll_1_2_2 _ _ ?_
    have hs' : H.1 2 0 = nI n := (hf.1 2 0 rfl).trans hs
    rw [hs', i_le _ _ (by omega) (by omega)]
    have ea : nI b + (1 : Int32) = nI (b + 1) := nI_1 b
    first | refine bt (show ¬ n ≤ b by omega) ?_ | refine bf (show ¬ n ≤ b by omega) ?_ | refine nt (show ¬ n ≤ b by omega) ?_ | refine nf (show ¬ n ≤ b by omega) ?_
    rw [ea]
    refine c_sleepOver_now (hH.fr hf rfl) hv (h2 b (Nat.le_refl _) (by omega)) (hV b (by omega)) hk (by omega) hf12 (fun H1 f1 hR => ?_)
    refine ih (b + 1) H1 (by omega) (hf.tr (f1.fr rfl rfl)) (fun b' hb' => ?_) (fun b' hb1 hb2 => (h2 b' (by omega) hb2).fb f1 rfl (by omega))
    by_cases e : b' = b
    · rw [e]; exact hR
    · exact (h1 b' (by omega)).fb f1 rfl e
theorem c_sleepAll_now {d n f k0 : Nat} {hb : Nat → Nat} {T : Nat → Row} {K : pmT → Prop} {H : pmT} (hn12 : n ≤ 12) (hf12 : f ≤ 12) (hk : k0 < 2 ^ 20) (hH : CHb hb H) (hv : HV hb) (hT : ∀ b, b < n → NR H b (T b)) (hV : ∀ b, b < n → RV k0 (T b)) (hs : H.1 2 0 = nI n) (kk : ∀ H', fr [300, 400, 600, 700] H H' → (∀ b, b < n → NR H' b (W_night hb f n T b)) → K H') : pm_R (d + 3) M_Pr_sleepAll [.ref 1, .ref 2, .int (nI f)] H (pm_v K) := by
  refine m_Pr_sleepAll_1_2 _ ?_
  refine lp_sleepAll_now hn12 hf12 hk hH hv hT hV hs (fun H' hf h => kk H' hf (fun b hb0 => ?_)) n 0 H (by omega) fr.rf (fun b' hb' => by omega) (fun b' _ h => hT b' h)
  unfold W_night
  rw [if_pos hb0]
  exact h b hb0
/-! a byte of a plan -/
def W_bar (n : Nat) (v : Int) : Option (Nat × Nat) :=
  if v < 20 then (if 0 ≤ v ∧ v < n then some (v.toNat, 0) else none) else (if v - 20 < n then some ((v - 20).toNat, 1) else none)
/-- what comes of a byte: none: no plan has it; else how it came (1, 0, NOT), and the bars then -/
def W_do (hb : Nat → Nat) (L : Law) (n f : Nat) (T : Nat → Row) (v : Int) : Option (Int32 × (Nat → Row)) :=
  if v = 60 then some (-2, W_night hb f n T) else match W_bar n v with
  | none => none
  | some (b, s) => some (nI (W_came hb (T b) s), va_up T b (W_play hb L (T b) s))
theorem W_bar_some {n : Nat} {v : Int} {b s : Nat} (h : W_bar n v = some (b, s)) : b < n ∧ s ≤ 1 := by
  unfold W_bar at h
  split at h
  · split at h
    · cases h; omega
    · cases h
  · split at h
    · cases h; omega
    · cases h
theorem RV_night {hb : Nat → Nat} {f n k : Nat} {T : Nat → Row} (h : ∀ b, b < n → RV k (T b)) : ∀ b, b < n → RV k (W_night hb f n T b) := fun b hb0 => by
  unfold W_night
  rw [if_pos hb0]
  exact (RV_sleep hb (h b hb0) f).mono (Nat.zero_le _)
theorem RV_do {hb : Nat → Nat} {L : Law} {n f k : Nat} {T T' : Nat → Row} {v : Int} {c : Int32} (h : ∀ b, b < n → RV k (T b)) (e : W_do hb L n f T v = some (c, T')) : ∀ b, b < n → RV (k + 1) (T' b) := by
  unfold W_do at e
  split at e
  · cases e
    exact fun b hb0 => (RV_night h b hb0).mono (Nat.le_succ _)
  · split at e
    · cases e
    · rename_i b s hbs
      cases e
      intro b' hb'
      unfold va_up
      split
      · exact RV_play hb L (h b (W_bar_some hbs).1) s
      · exact (h b' hb').mono (Nat.le_succ _)
abbrev JT : List Nat := [105, 900, 1000, 1100, 1200, 1300, 1800, 1900]
theorem c_step {d n f k0 : Nat} {hb : Nat → Nat} {L : Law} {T : Nat → Row} {K : Int32 → pmT → Prop} {H : pmT} (x : Int32) (hn12 : n ≤ 12) (hf12 : f ≤ 12) (hk : k0 < 2 ^ 20) (hX : CX hb L H) (hT : ∀ b, b < n → TR H b (T b)) (hV : ∀ b, b < n → RV k0 (T b)) (hs : H.1 8 0 = nI n)
    (k1 : W_do hb L n f T x.toInt = none → K (-1) H) (k2 : ∀ c T', W_do hb L n f T x.toInt = some (c, T') → ∀ H', fr JT H H' → (∀ b, b < n → TR H' b (T' b)) → K c H') : pm_R (d + 4) M_Pr_step [.ref 1, .ref 8, .int x, .int (nI f)] H (pm_i K) := by
  refine m_Pr_step _ _ ?_
  have ex0 : x - (20 : Int32) * (0 : Int32) = x := by rw [show (20 : Int32) * (0 : Int32) = 0 from rfl, Int32.sub_zero]
  have e20 : (20 : Int32) * (1 : Int32) = 20 := rfl
  have h60 : (60 : Int32).toInt = 60 := rfl
  have h20 : (20 : Int32).toInt = 20 := rfl
  have h0 : (0 : Int32).toInt = 0 := rfl
  have es : (H.1 8 0 - (1 : Int32)).toInt = (n : Int) - 1 := by rw [hs]; exact pk_sub_toInt (a := n) (b := 1) (by omega) (by decide)
  rw [ex0, e20]
  unfold W_do at k1 k2
  have hplay : ∀ (b s : Nat), b < n → s ≤ 1 → W_bar n x.toInt = some (b, s) → ¬ x.toInt = 60 → pm_R (d + 3) M_Pr_playOnce [.ref 1, .ref 8, .int (nI b), .int (nI s)] H (pm_i fun x4 H3 => pm_i K (some (.int x4)) H3) := by
    intro b s hb0 hs1 hw hne
    refine c_playOnce_th hX (hT b hb0) (hV b hb0) hk (by omega) hs1 (fun H1 f1 hR _ => ?_)
    refine k2 _ (va_up T b (W_play hb L (T b) s)) (by rw [if_neg hne, hw]) H1 (f1.fr rfl rfl) (fun b' hb' => ?_)
    unfold va_up
    split
    · rename_i e; rw [e]; exact hR
    · rename_i e; exact (hT b' hb').fb f1 rfl e
  by_cases c60 : x = 60
  · first | refine bt c60 ?_ | refine bf c60 ?_ | refine nt c60 ?_ | refine nf c60 ?_
    have e : x.toInt = 60 := by rw [c60]; rfl
    refine c_sleepAll_th hn12 hf12 hk hX.1 hX.2.1 hT hV hs (fun H1 f1 hR => ?_)
    exact k2 _ _ (by rw [if_pos e]) H1 (f1.mono rfl) hR
  · first | refine bt c60 ?_ | refine bf c60 ?_ | refine nt c60 ?_ | refine nf c60 ?_
    have e60 : ¬ x.toInt = 60 := fun z => c60 (Int32.toInt_inj.mp (z.trans h60.symm))
    rw [if_neg e60] at k1
    by_cases c20 : x < 20
    · first | refine bt c20 ?_ | refine bf c20 ?_ | refine nt c20 ?_ | refine nf c20 ?_
      have l20 : x.toInt < 20 := by rw [Int32.lt_iff_toInt_lt, h20] at c20; exact c20
      by_cases c0 : x < 0
      · first | refine bt c0 ?_ | refine bf c0 ?_ | refine nt c0 ?_ | refine nf c0 ?_
        rw [Int32.lt_iff_toInt_lt, h0] at c0
        exact k1 (by unfold W_bar; rw [if_pos l20, if_neg (by omega)])
      · first | refine bt c0 ?_ | refine bf c0 ?_ | refine nt c0 ?_ | refine nf c0 ?_
        obtain ⟨j, hj, ej⟩ := nI_of c0
        have ejt : x.toInt = j := by rw [ej]; exact nI_toInt hj
        by_cases cs : x ≤ H.1 8 0 - (1 : Int32)
        · first | refine bt cs ?_ | refine bf cs ?_ | refine nt cs ?_ | refine nf cs ?_
          rw [Int32.le_iff_toInt_le, es] at cs
          have e := hplay j 0 (by omega) (by omega) (by unfold W_bar; rw [if_pos l20, if_pos (by omega)]; congr 2; omega) e60
          rw [ej]
          exact e
        · first | refine bt cs ?_ | refine bf cs ?_ | refine nt cs ?_ | refine nf cs ?_
          rw [Int32.le_iff_toInt_le, es] at cs
          exact k1 (by unfold W_bar; rw [if_pos l20, if_neg (by omega)])
    · first | refine bt c20 ?_ | refine bf c20 ?_ | refine nt c20 ?_ | refine nf c20 ?_
      have l20 : ¬ x.toInt < 20 := by rw [Int32.lt_iff_toInt_lt, h20] at c20; exact c20
      have c0 : ¬ x < 0 := by rw [Int32.lt_iff_toInt_lt, h0]; omega
      obtain ⟨j, hj, ej⟩ := nI_of c0
      have ejt : x.toInt = j := by rw [ej]; exact nI_toInt hj
      have ex : x - (20 : Int32) = nI (j - 20) := by rw [ej]; exact pk_sub (a := j) (b := 20) (by omega)
      rw [ex]
      have cn : ¬ nI (j - 20) < (0 : Int32) := nI_pos (by omega)
      first | refine bt cn ?_ | refine bf cn ?_ | refine nt cn ?_ | refine nf cn ?_
      have et : (nI (j - 20)).toInt = ((j - 20 : Nat) : Int) := nI_toInt (by omega)
      by_cases cs : nI (j - 20) ≤ H.1 8 0 - (1 : Int32)
      · first | refine bt cs ?_ | refine bf cs ?_ | refine nt cs ?_ | refine nf cs ?_
        rw [Int32.le_iff_toInt_le, es, et] at cs
        exact hplay (j - 20) 1 (by omega) (by omega) (by unfold W_bar; rw [if_neg l20, if_pos (by omega)]; congr 2; omega) e60
      · first | refine bt cs ?_ | refine bf cs ?_ | refine nt cs ?_ | refine nf cs ?_
        rw [Int32.le_iff_toInt_le, es, et] at cs
        exact k1 (by unfold W_bar; rw [if_neg l20, if_neg (by omega)])
