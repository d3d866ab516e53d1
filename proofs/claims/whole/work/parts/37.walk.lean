/-! plans walked through, when to stop -/
theorem c_at {d j len : Nat} {s : Nat} {H : pmT} {K : Int64 → pmT → Prop} (hs : pm_SH[s]? = some (.inl 7)) (es : pm_SH[s + 1]? = some (.inr (1, 60))) (hl : H.1 s 2 = nI len) (hlen : len ≤ 60) (hj : j < len) (kk : K (H.2.1 (s + 1) j) H) : pm_R (d + 1) M_Sh_at [.ref s, .int (nI j)] H (pm_l K) := by
  refine m_Sh_at _ _ hs es ?_
  have c0 : ¬ nI j < (0 : Int32) := nI_pos (by omega)
  have c1 : nI j ≤ H.1 s 2 - (1 : Int32) := by
    rw [hl, i_s1 (by omega), i_le _ _ (by omega) (by omega)]
    omega
  first | refine bt c0 ?_ | refine bf c0 ?_ | refine nt c0 ?_ | refine nf c0 ?_
  first | refine bt c1 ?_ | refine bf c1 ?_ | refine nt c1 ?_ | refine nf c1 ?_
  rw [nIc (by omega)]
  exact ⟨vp_in_nI (by omega) (by decide), kk⟩
/-- bytes of a plan from place k on: how many were done, how many came right, how the latest came, the bars then -/
def W_walk (hb : Nat → Nat) (L : Law) (n f : Nat) (g : Nat → Int) : Nat → Nat → (Nat → Row) → Nat → Int32 → Nat × Nat × Int32 × (Nat → Row)
  | 0, k, T, ro, lt => (k, ro, lt, T)
  | m + 1, k, T, ro, lt => match W_do hb L n f T (g k) with
    | none => (k, ro, lt, T)
    | some (c, T') => W_walk hb L n f g m (k + 1) T' (ro + (if c = 1 then 1 else 0)) c
/-- shelf s in the heap: a row of len elements -/
def CSh (s len : Nat) (g : Nat → Int64) (H : pmT) : Prop := pm_SH[s]? = some (.inl 7) ∧ pm_SH[s + 1]? = some (.inr (1, 60)) ∧ H.1 s 2 = nI len ∧ len ≤ 60 ∧ (∀ j, H.2.1 (s + 1) j = g j) ∧ (s = 43 ∨ s = 45 ∨ s = 47 ∨ s = 49 ∨ s = 51 ∨ s = 53)
theorem CSh.fr {s len : Nat} {g : Nat → Int64} {H H' : pmT} (h : CSh s len g H) (a : fr JC H H') : CSh s len g H' := by
  obtain ⟨h1, h2, h3, h4, h5, h6⟩ := h
  refine ⟨h1, h2, ?_, h4, fun j => by rw [a.2]; exact h5 j, h6⟩
  rcases h6 with e | e | e | e | e | e <;> subst e <;> exact (a.1 _ 2 rfl).trans h3
def W_int (g : Nat → Int64) : Nat → Int := fun j => (g j).toInt32.toInt
theorem W_do_ne {hb : Nat → Nat} {L : Law} {n f : Nat} {T T' : Nat → Row} {v : Int} {c : Int32} (e : W_do hb L n f T v = some (c, T')) : c = -2 ∨ c = 0 ∨ c = 1 := by
  unfold W_do at e
  split at e
  · cases e; exact Or.inl rfl
  · split at e
    · cases e
    · rename_i b s hbs
      cases e
      have := W_came_le hb (T b) s
      rcases (show W_came hb (T b) s = 0 ∨ W_came hb (T b) s = 1 by omega) with z | z <;> rw [z]
      · exact Or.inr (Or.inl rfl)
      · exact Or.inr (Or.inr rfl)
theorem lp_walk {d n len most : Nat} {s : Nat} {hb : Nat → Nat} {L : Law} {now : Nat → Row} {g : Nat → Int64} {K : pmT → Prop} {H0 : pmT} (hm : most ≤ 100) (hC : CS hb L n now H0) (hG : CSh s len g H0) (R : Nat × Nat × Int32 × (Nat → Row)) (kk : ∀ H', fr JC H0 H' → H'.1 8 0 = nI n → H'.1 21 0 = nI R.1 → H'.1 21 1 = nI R.2.1 → H'.1 21 2 = R.2.2.1 → (∀ b, b < n → TR H' b (R.2.2.2 b)) → K H') :
    ∀ (m k k0 ro : Nat) (lt : Int32) (T : Nat → Row) (H : pmT), m + k = min len most → k0 + m < 2 ^ 20 → ro + m < 2 ^ 20 → fr JC H0 H → H.1 8 0 = nI n → (∀ b, b < n → TR H b (T b)) → (∀ b, b < n → RV k0 (T b)) → H.1 21 0 = nI k → H.1 21 1 = nI ro → H.1 21 2 = lt → W_walk hb L n (hb 2) (W_int g) m k T ro lt = R → pm_RW none (d + 5) M_Pl_walk (pm_v K) 30 [(0, .ref 21), (1, .ref 1), (2, .ref s), (3, .int (nI most)), (4, .int (nI k))] [] H
  | 0, k, k0, ro, lt, T, H, hk, hk0, hro, hf, hs, hT, hV, e0, e1, e2, e => by
    have hG1 := hG.fr hf
    have hl60 := hG.2.2.2.1
    refine b_Pl_walk_30 _ _ _ hG.1 ?_
    rw [hG1.2.2.1, i_le _ _ (by omega) (by omega), i_le _ _ (by omega) (by omega)]
    have fin : K H := kk H hf hs (by rw [← e]; exact e0) (by rw [← e]; exact e1) (by rw [← e]; exact e2) (by rw [← e]; exact hT)
    by_cases c1 : len ≤ k
    · first | refine bt c1 ?_ | refine bf c1 ?_ | refine nt c1 ?_ | refine nf c1 ?_
      exact fin
    · first | refine bt c1 ?_ | refine bf c1 ?_ | refine nt c1 ?_ | refine nf c1 ?_
      first | refine bt (show most ≤ k by omega) ?_ | refine bf (show most ≤ k by omega) ?_ | refine nt (show most ≤ k by omega) ?_ | refine nf (show most ≤ k by omega) ?_
      exact fin
  | m + 1, k, k0, ro, lt, T, H, hk, hk0, hro, hf, hs, hT, hV, e0, e1, e2, e => by
    have ih := lp_walk (d := d) hm hC hG R kk m
    have hC1 := hC.fr hf
    have hG1 := hG.fr hf
    have hl60 := hG.2.2.2.1
    refine b_Pl_walk_30 _ _ _ hG.1 ?_
    rw [hG1.2.2.1, i_le _ _ (by omega) (by omega), i_le _ _ (by omega) (by omega)]
    have ea : nI k + (1 : Int32) = nI (k + 1) := nI_1 k
    first | refine bt (show ¬ len ≤ k by omega) ?_ | refine bf (show ¬ len ≤ k by omega) ?_ | refine nt (show ¬ len ≤ k by omega) ?_ | refine nf (show ¬ len ≤ k by omega) ?_
    first | refine bt (show ¬ most ≤ k by omega) ?_ | refine bf (show ¬ most ≤ k by omega) ?_ | refine nt (show ¬ most ≤ k by omega) ?_ | refine nf (show ¬ most ≤ k by omega) ?_
    rw [ea]
    refine c_at hG1.1 hG1.2.1 hG1.2.2.1 hG1.2.2.2.1 (by omega) ?_
    rw [hG1.2.2.2.2.1, hC1.fades.1]
    unfold W_walk at e
    refine c_step _ hC.2.2.1 hC1.fades.2 (by omega) hC1.1 hT hV hs (fun en => ?_) (fun c T' es H1 f1 hT1 => ?_)
    · first | refine bt (show (-1 : Int32) = -1 from rfl) ?_ | refine bf (show (-1 : Int32) = -1 from rfl) ?_ | refine nt (show (-1 : Int32) = -1 from rfl) ?_ | refine nf (show (-1 : Int32) = -1 from rfl) ?_
      have en' : W_do hb L n (hb 2) T (W_int g k) = none := en
      rw [en'] at e
      exact kk H hf hs (by rw [← e]; exact e0) (by rw [← e]; exact e1) (by rw [← e]; exact e2) (by rw [← e]; exact hT)
    · have es' : W_do hb L n (hb 2) T (W_int g k) = some (c, T') := es
      rw [es'] at e
      dsimp only at e
      have hc := W_do_ne es
      have g0 : H1.1 21 0 = nI k := (f1.1 21 0 rfl).trans e0
      have g1 : H1.1 21 1 = nI ro := (f1.1 21 1 rfl).trans e1
      have hne : ¬ c = (-1 : Int32) := by rcases hc with z | z | z <;> rw [z] <;> decide
      have hf1 : fr JC H0 H1 := hf.tr (f1.mono rfl)
      first | refine bt hne ?_ | refine bf hne ?_ | refine nt hne ?_ | refine nf hne ?_
      rw [g0, g1, ea]
      by_cases c1 : c = (1 : Int32)
      · first | refine bt c1 ?_ | refine bf c1 ?_ | refine nt c1 ?_ | refine nf c1 ?_
        rw [if_pos c1] at e
        refine ih (k + 1) (k0 + 1) (ro + 1) c T' _ (by omega) (by omega) (by omega) (((hf1.up (o := 21) (k := 0) rfl).up (o := 21) (k := 2) rfl).up (o := 21) (k := 1) rfl) ((f1.1 8 0 rfl).trans hs) hT1 (RV_do hV es) rfl ?_ rfl e
        show nI ro + (1 : Int32) = _
        exact nI_1 ro
      · first | refine bt c1 ?_ | refine bf c1 ?_ | refine nt c1 ?_ | refine nf c1 ?_
        rw [if_neg c1] at e
        refine ih (k + 1) (k0 + 1) ro c T' _ (by omega) (by omega) (by omega) (((hf1.up (o := 21) (k := 0) rfl).up (o := 21) (k := 2) rfl).up (o := 21) (k := 1) rfl) ((f1.1 8 0 rfl).trans hs) hT1 (RV_do hV es) rfl ?_ rfl e
        show nI ro + (0 : Int32) = _
        exact Int32.add_zero _
theorem c_walk {d n len most : Nat} {s : Nat} {hb : Nat → Nat} {L : Law} {now : Nat → Row} {g : Nat → Int64} {K : pmT → Prop} {H : pmT} (hm : most ≤ 100) (hC : CS hb L n now H) (hG : CSh s len g H) (kk : ∀ H', fr JC H H' → H'.1 8 0 = nI n → H'.1 21 0 = nI (W_walk hb L n (hb 2) (W_int g) (min len most) 0 now 0 (-2)).1 → H'.1 21 1 = nI (W_walk hb L n (hb 2) (W_int g) (min len most) 0 now 0 (-2)).2.1 → H'.1 21 2 = (W_walk hb L n (hb 2) (W_int g) (min len most) 0 now 0 (-2)).2.2.1 → (∀ b, b < n → TR H' b ((W_walk hb L n (hb 2) (W_int g) (min len most) 0 now 0 (-2)).2.2.2 b)) → K H') : pm_R (d + 5) M_Pl_walk [.ref 21, .ref 1, .ref s, .int (nI most)] H (pm_v K) := by
  refine m_Pl_walk _ _ ?_
  refine c_takeAll_8 hC.2.1 hC.2.2.1 hC.2.2.2.1 (fun H1 f1 hs hT => ?_)
  have f1' : fr JC H H1 := f1.mono rfl
  have f2 : fr JC H1 (pm_up (pm_up (pm_up H1.1 21 0 0) 21 1 0) 21 2 (-2), H1.2) := ((fr.rf.up (o := 21) (k := 0) rfl).up (o := 21) (k := 1) rfl).up (o := 21) (k := 2) rfl
  exact lp_walk hm (hC.fr f1') (hG.fr f1') _ (fun H' f h1 h2 h3 h4 h5 => kk H' (f1'.tr f) h1 h2 h3 h4 h5) (min len most) 0 1000 0 (-2) now _ (by omega) (by omega) (by omega) f2 hs hT hC.2.2.2.2 rfl rfl rfl rfl
theorem RV_walk {hb : Nat → Nat} {L : Law} {n f : Nat} {g : Nat → Int} : ∀ (m k ro k0 : Nat) (lt : Int32) (T : Nat → Row), (∀ b, b < n → RV k0 (T b)) → ∀ b, b < n → RV (k0 + m) ((W_walk hb L n f g m k T ro lt).2.2.2 b)
  | 0, _, _, _, _, _, h => h
  | m + 1, k, ro, k0, lt, T, h => by
    unfold W_walk
    split
    · exact fun b hb0 => (h b hb0).mono (by omega)
    · rename_i c T' e
      intro b hb0
      exact (RV_walk m (k + 1) _ (k0 + 1) c T' (RV_do h e) b hb0).mono (by omega)
theorem W_walk_le {hb : Nat → Nat} {L : Law} {n f : Nat} {g : Nat → Int} : ∀ (m k ro : Nat) (lt : Int32) (T : Nat → Row), (W_walk hb L n f g m k T ro lt).1 ≤ k + m
  | 0, k, _, _, _ => Nat.le_refl _
  | m + 1, k, ro, lt, T => by
    unfold W_walk
    split
    · exact Nat.le_add_right _ _
    · rename_i c T' e
      exact Nat.le_trans (W_walk_le m (k + 1) _ c T') (by omega)
/-- when the lesson would be no worse: k bytes done so far -/
def W_stop (hb : Nat → Nat) (L : Law) (n f : Nat) (g : Nat → Int) (want : Nat) : Nat → Nat → (Nat → Row) → Nat
  | 0, k, _ => k
  | m + 1, k, T => if W_cnt (W_isR T) n < want then (match W_do hb L n f T (g k) with
    | none => W_stop hb L n f g want m (k + 1) T
    | some (_, T') => W_stop hb L n f g want m (k + 1) T') else k
theorem lp_stop {d n len all want : Nat} {s : Nat} {hb : Nat → Nat} {L : Law} {now : Nat → Row} {g : Nat → Int64} {K : Int32 → pmT → Prop} {H0 : pmT} (hC : CS hb L n now H0) (hG : CSh s len g H0) (hal : all ≤ len) (hw : want ≤ 12) : ∀ (m k k0 : Nat) (T : Nat → Row) (H : pmT), m + k = all → k0 + m < 2 ^ 20 → fr JC H0 H → H.1 8 0 = nI n → (∀ b, b < n → TR H b (T b)) → (∀ b, b < n → RV k0 (T b)) → (∀ H', fr JC H0 H' → K (nI (W_stop hb L n (hb 2) (W_int g) want m k T)) H') → pm_RW none (d + 5) M_Pl_earliestStop (pm_i K) 36 [(1, .ref 1), (2, .ref s), (3, .int (nI want)), (4, .int (nI all)), (5, .int (nI k))] [] H
  | 0, k, k0, T, H, hk, hk0, hf, hs, hT, hV, kk => by
    have hl60 := hG.2.2.2.1
    refine b_Pl_earliestStop_36 _ _ _ _ hG.1 ?_
    rw [i_le _ _ (by omega) (by omega)]
    first | refine bt (show all ≤ k by omega) ?_ | refine bf (show all ≤ k by omega) ?_ | refine nt (show all ≤ k by omega) ?_ | refine nf (show all ≤ k by omega) ?_
    have := kk H hf
    unfold W_stop at this
    rw [show all = k by omega]
    exact this
  | m + 1, k, k0, T, H, hk, hk0, hf, hs, hT, hV, kk => by
    have ih := lp_stop (d := d) (K := K) hC hG hal hw m
    have hC1 := hC.fr hf
    have hG1 := hG.fr hf
    have hl60 := hG.2.2.2.1
    have hn12 := hC.2.2.1
    refine b_Pl_earliestStop_36 _ _ _ _ hG.1 ?_
    rw [i_le _ _ (by omega) (by omega)]
    have ea : nI k + (1 : Int32) = nI (k + 1) := nI_1 k
    first | refine bt (show ¬ all ≤ k by omega) ?_ | refine bf (show ¬ all ≤ k by omega) ?_ | refine nt (show ¬ all ≤ k by omega) ?_ | refine nf (show ¬ all ≤ k by omega) ?_
    refine c_count_th hs hn12 hT hV ?_
    have hcl := W_cnt_le (W_isR T) n
    rw [i_lt _ _ (by omega) (by omega), ea]
    unfold W_stop at kk
    by_cases c : W_cnt (W_isR T) n < want
    · rw [if_pos c] at kk
      first | refine bt c ?_ | refine bf c ?_ | refine nt c ?_ | refine nf c ?_
      refine c_at hG1.1 hG1.2.1 hG1.2.2.1 hG1.2.2.2.1 (by omega) ?_
      rw [hG1.2.2.2.2.1, hC1.fades.1]
      refine c_step _ hC.2.2.1 hC1.fades.2 (by omega) hC1.1 hT hV hs (fun en => ?_) (fun c T' es H1 f1 hT1 => ?_)
      · have en' : W_do hb L n (hb 2) T (W_int g k) = none := en
        rw [en'] at kk
        exact ih (k + 1) k0 T H (by omega) (by omega) hf hs hT hV kk
      · have es' : W_do hb L n (hb 2) T (W_int g k) = some (c, T') := es
        rw [es'] at kk
        exact ih (k + 1) (k0 + 1) T' H1 (by omega) (by omega) (hf.tr (f1.mono rfl)) ((f1.1 8 0 rfl).trans hs) hT1 (RV_do hV es) kk
    · rw [if_neg c] at kk
      first | refine bt c ?_ | refine bf c ?_ | refine nt c ?_ | refine nf c ?_
      exact kk H hf
theorem c_stop {d n len : Nat} {s : Nat} {hb : Nat → Nat} {L : Law} {now : Nat → Row} {g : Nat → Int64} {K : Int32 → pmT → Prop} {H : pmT} (hC : CS hb L n now H) (hG : CSh s len g H) (kk : ∀ H', fr JC H H' → K (nI (W_stop hb L n (hb 2) (W_int g) (W_cnt (W_isR (W_walk hb L n (hb 2) (W_int g) len 0 now 0 (-2)).2.2.2) n) (W_walk hb L n (hb 2) (W_int g) len 0 now 0 (-2)).1 0 now)) H') : pm_R (d + 6) M_Pl_earliestStop [.ref 21, .ref 1, .ref s] H (pm_i K) := by
  have hl60 := hG.2.2.2.1
  have emin : min len 60 = len := Nat.min_eq_left hl60
  refine m_Pl_earliestStop _ ?_
  refine c_walk (most := 60) (by decide) hC hG (fun H1 f1 hs e0 e1 e2 hT => ?_)
  rw [emin] at e0 e1 e2 hT
  have hV := RV_walk (hb := hb) (L := L) (n := n) (f := hb 2) (g := W_int g) len 0 0 1000 (-2) now hC.2.2.2.2
  have hle := W_walk_le (hb := hb) (L := L) (n := n) (f := hb 2) (g := W_int g) len 0 0 (-2) now
  generalize W_walk hb L n (hb 2) (W_int g) len 0 now 0 (-2) = R at e0 e1 e2 hT hV hle kk
  refine c_count_th hs hC.2.2.1 hT hV ?_
  have hC1 := hC.fr f1
  refine c_takeAll_8 hC1.2.1 hC1.2.2.1 hC1.2.2.2.1 (fun H2 f2 hs2 hT2 => ?_)
  have f2' : fr JC H1 H2 := f2.mono rfl
  rw [e0]
  have hcl := W_cnt_le (W_isR R.2.2.2) n
  have hn12 := hC.2.2.1
  exact lp_stop (hC1.fr f2') ((hG.fr f1).fr f2') (by omega) (by omega) R.1 0 1000 now H2 (by omega) (by omega) fr.rf hs2 hT2 hC.2.2.2.2 (fun H' f => kk H' ((f1.tr f2').tr f))
