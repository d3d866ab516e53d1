/-! calls in pairs: night and Thursday -/
theorem lp_slpN {d n f k0 : Nat} {hb : Nat → Nat} {T : Nat → Row} {K : pmT → Prop} {H0 : pmT} (hn12 : n ≤ 12) (hf12 : f ≤ 12) (hk : k0 < 2 ^ 20) (hH : CHb hb H0) (hv : HV hb) (hT : ∀ b, b < n → NR H0 b (T b)) (hV : ∀ b, b < n → RV k0 (T b)) (hs : H0.1 2 0 = nI n) (kk : ∀ H', fr [300, 400, 600, 700] H0 H' → (∀ k, n ≤ k → H'.1 6 k = H0.1 6 k ∧ H'.1 7 k = H0.1 7 k) → (∀ b, b < n → NR H' b (W_sleep hb (T b) f)) → K H') : ∀ (m b : Nat) (H : pmT), b + m = n → fr [300, 400, 600, 700] H0 H → (∀ k, n ≤ k → H.1 6 k = H0.1 6 k ∧ H.1 7 k = H0.1 7 k) → (∀ b', b' < b → NR H b' (W_sleep hb (T b') f)) → (∀ b', b ≤ b' → b' < n → NR H b' (T b')) → pm_RW none (d + 3) M_Pr_sleepAll (pm_v K) 2 [(0, .ref 1), (1, .ref 2), (2, .int (nI f)), (3, .int (nI b))] [] H
  | 0, b, H, hb0, hf, h0, h1, h2 => by
    refine b_Pr_sleepAll_1_2_2 _ _ ?_
    have e : b = n := by omega
    have hs' : H.1 2 0 = nI n := (hf.1 2 0 rfl).trans hs
    rw [hs', i_le _ _ (by omega) (by omega)]
    first | refine bt (show n ≤ b by omega) ?_ | refine bf (show n ≤ b by omega) ?_ | refine nt (show n ≤ b by omega) ?_ | refine nf (show n ≤ b by omega) ?_
    exact kk H hf h0 (by rw [← e]; exact h1)
  | m + 1, b, H, hb0, hf, h0, h1, h2 => by
    have ih := lp_slpN (d := d) hn12 hf12 hk hH hv hT hV hs kk m
    refine b_Pr_sleepAll_1_2_2 _ _ ?_
    have hs' : H.1 2 0 = nI n := (hf.1 2 0 rfl).trans hs
    rw [hs', i_le _ _ (by omega) (by omega)]
    have ea : nI b + (1 : Int32) = nI (b + 1) := nI_1 b
    first | refine bt (show ¬ n ≤ b by omega) ?_ | refine bf (show ¬ n ≤ b by omega) ?_ | refine nt (show ¬ n ≤ b by omega) ?_ | refine nf (show ¬ n ≤ b by omega) ?_
    rw [ea]
    refine c_sleepOver_now (hH.fr hf rfl) hv (h2 b (Nat.le_refl _) (by omega)) (hV b (by omega)) hk (by omega) hf12 (fun H1 f1 hR => ?_)
    refine ih (b + 1) H1 (by omega) (hf.tr (f1.fr rfl rfl)) (fun k hk => ⟨(f1.1 6 k rfl (Or.inr (by omega))).trans (h0 k hk).1, (f1.1 7 k rfl (Or.inr (by omega))).trans (h0 k hk).2⟩) (fun b' hb' => ?_) (fun b' hb1 hb2 => (h2 b' (by omega) hb2).fb f1 rfl (by omega))
    by_cases e : b' = b
    · rw [e]; exact hR
    · exact (h1 b' (by omega)).fb f1 rfl e
theorem lp_nightM {d n f k0 : Nat} {hb : Nat → Nat} {T : Nat → Row} {Q : pmQ} {H0 : pmT} (hn12 : n ≤ 12) (hf12 : f ≤ 12) (hk : k0 < 2 ^ 20) (hH : MHb hb H0) (hv : HV hb) (ef : H0.1 55 23 = nI f) (hn : H0.1 55 6 = nI n) (hV : ∀ b, b < n → RV k0 (T b)) (kk : ∀ H', fr [6500, 6600, 6700, 6800] H0 H' → (∀ b, b < n → MR H' b (W_sleep hb (T b) f)) → pm_R (d + 1) M_Mo_lays [.ref 55] H' (pm_v (fun H1 => Q (some (.int ((H1.1 55 36) + (1 : Int32)))) ((pm_up H1.1 55 36 ((H1.1 55 36) + (1 : Int32))), H1.2)))) : ∀ (m b : Nat) (H : pmT), b + m = n → fr [6500, 6600, 6700, 6800] H0 H → (∀ b', b' < b → MR H b' (W_sleep hb (T b') f)) → (∀ b', b ≤ b' → b' < n → MR H b' (T b')) → pm_RW none (d + 2) M_Mo_night Q 6 [(0, .ref 55), (1, .int (nI b))] [] H
  | 0, b, H, hb0, hf, h1, h2 => by
    refine b_Mo_night_6 _ ?_
    rw [show H.1 55 6 = nI n from (hf.1 55 6 rfl).trans hn, i_le _ _ (by omega) (by omega)]
    first | refine bt (show n ≤ b by omega) ?_ | refine bf (show n ≤ b by omega) ?_ | refine nt (show n ≤ b by omega) ?_ | refine nf (show n ≤ b by omega) ?_
    exact kk H hf (fun b' hb' => h1 b' (by omega))
  | m + 1, b, H, hb0, hf, h1, h2 => by
    have ih := lp_nightM (d := d) hn12 hf12 hk hH hv ef hn hV kk m
    refine b_Mo_night_6 _ ?_
    rw [show H.1 55 6 = nI n from (hf.1 55 6 rfl).trans hn, i_le _ _ (by omega) (by omega)]
    first | refine bt (show ¬ n ≤ b by omega) ?_ | refine bf (show ¬ n ≤ b by omega) ?_ | refine nt (show ¬ n ≤ b by omega) ?_ | refine nf (show ¬ n ≤ b by omega) ?_
    rw [show nI b + (1 : Int32) = nI (b + 1) from nI_1 b]
    refine c_nightM (hH.fr hf rfl) hv ((hf.1 55 23 rfl).trans ef) (h2 b (Nat.le_refl _) (by omega)) (hV b (by omega)) hk (by omega) hf12 (fun H1 f1 hR => ?_)
    refine ih (b + 1) H1 (by omega) (hf.tr (f1.fr rfl rfl)) (fun b' hb' => ?_) (fun b' hb1 hb2 => (h2 b' (by omega) hb2).fb f1 rfl rfl (by omega))
    by_cases e : b' = b
    · rw [e]; exact hR
    · exact (h1 b' (by omega)).fb f1 rfl rfl e
theorem p_night {D t : Nat} {H : pmT} {K : Int32 → Int32 → pmT → Prop} (hR : Rel t H) (ht : t ≤ 1000) (kk : ∀ x H', Rel (t + 1) H' → K x x H') : pm_R (D + 200) M_PW_night [.ref 0] H (pm_i fun x H1 => pm_R (D + 200) M_Mo_night [.ref 55] H1 (pm_i fun y H2 => K x y H2)) := by
  obtain ⟨hb, L, n, now, m, hN, hT, hD⟩ := id hR
  have hC := hN.cs ht
  have hM := hN.ms ht
  have hn12 := hC.2.2.1
  have hB := hT.2.2.2.1
  have hSh := hT.2.2.2.2.2.1
  have en : (nI n - (1 : Int32)).toInt = (n : Int) - 1 := nm1_t (by omega)
  have hR1 : Rel (t + 1) H := hR.mono (Nat.le_succ _)
  obtain ⟨t1, t2, t3, t4, t5, t6, t7, t8⟩ := hT
  have hNb := hN.2.2.2.2.2
  have hf12 := hC.1.2.1.2.2.1
  refine m_PW_night ?_
  rw [hC.1.1.2.2.1]
  refine m_Pr_sleepAll_1_2 _ ?_
  refine lp_slpN (d := D + 196) hn12 hf12 (show 1000 < 2 ^ 20 by decide) hC.1.1 hC.1.2.1 hC.2.2.2.1 hC.2.2.2.2 hC.2.1 (fun H1 f1 h67 hT1 => ?_) n 0 H (by omega) fr.rf (fun k hk => ⟨rfl, rfl⟩) (fun b' h => by omega) (fun b' _ h => hC.2.2.2.1 b' h)
  generalize hHc : ((pm_up H1.1 35 2 (H1.1 35 2 + (1 : Int32)), H1.2) : pmT) = Hc
  have f2 : fr [3500] H1 Hc := by rw [← hHc]; exact fr.rf.up (o := 35) rfl
  have fC : fr [300, 400, 600, 700, 3500] H Hc := (f1.mono rfl).tr (f2.mono rfl)
  have hMc : MS hb L n now Hc := ⟨hM.1.fr fC rfl rfl, (fC.1 55 6 rfl).trans hM.2.1, hn12, fun b' h => (hM.2.2.2.1 b' h).fr fC rfl, hM.2.2.2.2⟩
  have eC : H1.1 35 2 + (1 : Int32) = H.1 35 2 + (1 : Int32) := by rw [f1.1 35 2 rfl]
  rw [eC]
  refine m_Mo_night ?_
  refine c_begins hMc (fun H2 f3 hT2 ef => ?_)
  have hM2 := hMc.fr (f3.mono rfl)
  refine lp_nightM (d := D + 198) hn12 hf12 (show 1000 < 2 ^ 20 by decide) hM2.1.1 hM2.1.2.1 ef hM2.2.1 hM2.2.2.2.2 (fun H3 f4 hT3 => ?_) n 0 H2 (by omega) fr.rf (fun b' h => by omega) (fun b' _ h => hT2 b' h)
  have f23 : fr JB Hc H3 := f3.tr (f4.mono rfl)
  have hX3 : MX hb L H3 := hM2.1.fr f4 rfl rfl
  refine c_lays hn12 ((f4.1 55 6 rfl).trans hM2.2.1) hT3 (fun H4 f5 hP4 h56 => ?_)
  have e36 : H4.1 55 36 = H.1 55 36 := ((f5.1 55 36 rfl).trans (f23.1 55 36 rfl)).trans (fC.1 55 36 rfl)
  have f6 : fr [5537] H4 (pm_up H4.1 55 36 (H4.1 55 36 + (1 : Int32)), H4.2) := fr.rf.up (o := 55) rfl
  have ev : H4.1 55 36 + (1 : Int32) = H.1 35 2 + (1 : Int32) := by rw [e36, show H.1 35 2 = H.1 55 36 from t7 2 (by decide)]
  show K (H.1 35 2 + (1 : Int32)) (H4.1 55 36 + (1 : Int32)) (pm_up H4.1 55 36 (H4.1 55 36 + (1 : Int32)), H4.2)
  rw [ev] at f6 ⊢
  generalize hHe : ((pm_up H4.1 55 36 (H.1 35 2 + (1 : Int32)), H4.2) : pmT) = He at f6
  have fM : fr (JB ++ JY ++ [5537]) Hc He := (f23.mono rfl).tr ((f5.mono rfl).tr (f6.mono rfl))
  have fR : fr ([3500] ++ (JB ++ JY ++ [5537])) H1 He := (f2.mono rfl).tr (fM.mono rfl)
  have fA : fr ([300, 400, 600, 700, 3500] ++ (JB ++ JY ++ [5537])) H He := (fC.mono rfl).tr (fM.mono rfl)
  refine kk _ _ ⟨hb, L, n, fun b => W_sleep hb (now b) (hb 2), m, ⟨hC.1.fr fA rfl rfl, ⟨(hX3.1.of56 h56).fr f6 rfl, hX3.2.1, (hX3.2.2.fr f5 rfl).fr f6 rfl⟩, (fA.1 2 0 rfl).trans hN.2.2.1, (fA.1 55 6 rfl).trans hN.2.2.2.1, hn12, fun b' h => ⟨(hT1 b' h).fr fR rfl, (hP4 b' h).fr f6 rfl, (RV_sleep hb (hNb b' h).2.2 (hb 2)).mono (Nat.zero_le _)⟩⟩, ⟨?_, t2.f1 fA.f1 (by rw [fA.2]) rfl, t3.f1 fA.f1 rfl, t4.f1 fA.f1 rfl, t5.f1 fA.f1 rfl, fun d hd => (t6 d hd).f1 hd fA.f1 (by rw [fA.2]) rfl, ?_, (t8.f1 fA.f1 rfl).mono (Nat.le_succ _)⟩, hD.f1 fA.f1 rfl⟩
  · intro b' h1 h2
    obtain ⟨w1, w2, w3⟩ := t1 b' h1 h2
    exact ⟨(fA.1 5 b' rfl).trans w1, (fR.1 6 b' rfl).trans ((h67 b' h1).1.trans w2), (fR.1 7 b' rfl).trans ((h67 b' h1).2.trans w3)⟩
  · intro k hk
    have eH : He.1 35 k = Hc.1 35 k := fM.1 35 k rfl
    have e0 : H1.1 35 = H.1 35 := funext fun k => f1.1 35 k rfl
    have em : He.1 55 (34 + k) = upd (H4.1 55) 36 (H.1 35 2 + 1) (34 + k) := by
      rw [← hHe]
      show pm_up H4.1 55 36 (H.1 35 2 + (1 : Int32)) 55 (34 + k) = _
      rw [pm_up_self]
    have ec : Hc.1 35 k = upd (H.1 35) 2 (H.1 35 2 + 1) k := by
      rw [← hHc]
      show pm_up H1.1 35 2 (H1.1 35 2 + (1 : Int32)) 35 k = _
      rw [pm_up_self, e0]
    rw [eH, ec, em]
    by_cases z : k = 2
    · subst z
      rw [pk_us, pk_us]
    · rw [pk_un z, pk_un (by omega), t7 k hk]
      rcases (show k = 0 ∨ k = 1 ∨ k = 3 ∨ k = 4 by omega) with z | z | z | z <;> subst z <;> exact (((f5.1 55 _ rfl).trans (f23.1 55 _ rfl)).trans (fC.1 55 _ rfl)).symm
theorem p_thursday {D t : Nat} {H : pmT} {K : Int32 → Int32 → pmT → Prop} (hR : Rel t H) (ht : t ≤ 1000) (kk : ∀ x H', Rel (t + 1) H' → K x x H') : pm_R (D + 200) M_PW_thursday [.ref 0] H (pm_i fun x H1 => pm_R (D + 200) M_Mo_thursday [.ref 55] H1 (pm_i fun y H2 => K x y H2)) := by
  obtain ⟨hb, L, n, now, m, hN, hT, hD⟩ := id hR
  have hC := hN.cs ht
  have hM := hN.ms ht
  have hn12 := hC.2.2.1
  have hB := hT.2.2.2.1
  have hSh := hT.2.2.2.2.2.1
  have en : (nI n - (1 : Int32)).toInt = (n : Int) - 1 := nm1_t (by omega)
  have hR1 : Rel (t + 1) H := hR.mono (Nat.le_succ _)
  obtain ⟨t1, t2, t3, t4, t5, t6, t7, t8⟩ := id hT
  refine m_PW_thursday ?_
  refine c_count_now (d := D + 197) hC.2.1 hn12 hC.2.2.2.1 hC.2.2.2.2 ?_
  have hcn : W_cnt (W_isR now) n ≤ 12 := Nat.le_trans (W_cnt_le _ n) hn12
  generalize hHc : ((pm_up (pm_up H.1 35 3 (H.1 35 3 + (1 : Int32))) 35 4 (pm_max (H.1 35 4) (nI (W_cnt (W_isR now) n))), H.2) : pmT) = Hc
  have fC : fr [3500] H Hc := by rw [← hHc]; exact (fr.rf.up (o := 35) rfl).up (o := 35) rfl
  have hMc : MS hb L n now Hc := ⟨hM.1.fr fC rfl rfl, (fC.1 55 6 rfl).trans hM.2.1, hn12, fun b' h => (hM.2.2.2.1 b' h).fr fC rfl, hM.2.2.2.2⟩
  refine m_Mo_thursday ?_
  refine c_begins hMc (fun H2 f3 hT2 ef => ?_)
  refine c_setM (d := D + 198) ((f3.1 55 6 rfl).trans hMc.2.1) hn12 hT2 hMc.2.2.2.2 ?_
  refine c_bitsM (Nat.lt_of_lt_of_le (W_set_lt _ n) (Nat.pow_le_pow_right (by decide) hn12)) ?_
  rw [W_pop_set _ hn12]
  have fA : fr (3500 :: JB) H H2 := (fC.mono rfl).tr (f3.mono rfl)
  have e35 : ∀ k, H2.1 35 k = upd (upd (H.1 35) 3 (H.1 35 3 + 1)) 4 (pm_max (H.1 35 4) (nI (W_cnt (W_isR now) n))) k := fun k => by
    rw [f3.1 35 k rfl, ← hHc]
    show pm_up (pm_up H.1 35 3 (H.1 35 3 + (1 : Int32))) 35 4 (pm_max (H.1 35 4) (nI (W_cnt (W_isR now) n))) 35 k = _
    rw [pm_up_self, pm_up_self]
  have e55 : ∀ k, k < 5 → H2.1 55 (34 + k) = H.1 35 k := fun k hk => by
    rw [t7 k hk]
    rcases (show k = 0 ∨ k = 1 ∨ k = 2 ∨ k = 3 ∨ k = 4 by omega) with z | z | z | z | z <;> subst z <;> exact fA.1 55 _ rfl
  have fin : ∀ w : Int32, w = pm_max (H.1 35 4) (nI (W_cnt (W_isR now) n)) → K (nI (W_cnt (W_isR now) n)) (nI (W_cnt (W_isR now) n)) (pm_up (pm_up H2.1 55 37 (H2.1 55 37 + (1 : Int32))) 55 38 w, H2.2) := by
    intro w ew
    have f6 : fr [5538, 5539] H2 (pm_up (pm_up H2.1 55 37 (H2.1 55 37 + (1 : Int32))) 55 38 w, H2.2) := (fr.rf.up (o := 55) rfl).up (o := 55) rfl
    generalize hHe : ((pm_up (pm_up H2.1 55 37 (H2.1 55 37 + (1 : Int32))) 55 38 w, H2.2) : pmT) = He at f6
    have fE : fr (3500 :: (JB ++ [5538, 5539])) H He := (fA.mono rfl).tr (f6.mono rfl)
    refine kk _ _ ⟨hb, L, n, now, m, (hN.f1 fE.f1 (by rw [fE.2]) rfl).mono (Nat.le_succ _), ⟨t1.f1 fE.f1 rfl, t2.f1 fE.f1 (by rw [fE.2]) rfl, t3.f1 fE.f1 rfl, t4.f1 fE.f1 rfl, t5.f1 fE.f1 rfl, fun d hd => (t6 d hd).f1 hd fE.f1 (by rw [fE.2]) rfl, ?_, (t8.f1 fE.f1 rfl).mono (Nat.le_succ _)⟩, hD.f1 fE.f1 rfl⟩
    intro k hk
    have em : He.1 55 (34 + k) = upd (upd (H2.1 55) 37 (H2.1 55 37 + 1)) 38 w (34 + k) := by
      rw [← hHe]
      show pm_up (pm_up H2.1 55 37 (H2.1 55 37 + (1 : Int32))) 55 38 w 55 (34 + k) = _
      rw [pm_up_self, pm_up_self]
    rw [f6.1 35 k rfl, e35, em]
    rcases (show k = 3 ∨ k = 4 ∨ k < 3 by omega) with z | z | z
    · subst z
      rw [pk_un (by decide), pk_us, pk_un (by decide), pk_us, show H2.1 55 37 = H.1 35 3 from e55 3 (by decide)]
    · subst z
      rw [pk_us, pk_us, ew]
    · rw [pk_un (by omega), pk_un (by omega), pk_un (by omega), pk_un (by omega), e55 k hk]
  rw [show H2.1 55 38 = H.1 35 4 from e55 4 (by decide)]
  by_cases c : nI (W_cnt (W_isR now) n) ≤ H.1 35 4
  · first | refine bt c ?_ | refine bf c ?_ | refine nt c ?_ | refine nf c ?_
    refine fin _ ?_
    unfold pm_max
    exact (if_neg (fun z => by rw [t_lt] at z; rw [t_le] at c; omega)).symm
  · first | refine bt c ?_ | refine bf c ?_ | refine nt c ?_ | refine nf c ?_
    refine fin _ ?_
    unfold pm_max
    exact (if_pos (by rw [t_lt]; rw [t_le] at c; omega)).symm
