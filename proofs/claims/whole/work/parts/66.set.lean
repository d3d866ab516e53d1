/-! a place set anew -/
def W_o (w : Nat) : Nat := if w ≤ 2 then 3 + w else 20
def W_k (nb w : Nat) : Nat := if w ≤ 2 then nb else w - 3
def W_sf (w v : Nat) (r : Row) : Row := if w = 0 then (v, r.2) else if w = 1 then (r.1, v, r.2.2) else (r.1, r.2.1, v, r.2.2.2)
abbrev NowS : List Nat := [1407, 1600, 1700, 5513, 6300, 201, 5507, 600, 700, 6000, 6100]
theorem RNow_set {hb : Nat → Nat} {L : Law} {n t nb w v : Nat} {now : Nat → Row} {S : List Nat} {H H' : pmT} (hN : RNow hb L n t now H) (hF : RFre n H) (hw : w ≤ 7) (hnb : w ≤ 2 → nb < n) (hv : v ≤ W_grt w) (a : f1 S H H') (e : H'.2.2 = H.2.2) (g : nin S NowS = true)
    (hc : ∀ o k, o = 3 ∨ o = 4 ∨ o = 5 ∨ o = 20 → H'.1 o k = if o = W_o w ∧ k = W_k nb w then nI v else H.1 o k) (hm : ∀ k, H'.1 56 k = if k = W_at nb w then nI v else H.1 56 k) : (∃ hb' now', RNow hb' L n t now' H') ∧ RFre n H' := by
  obtain ⟨⟨c1, c2, c3⟩, ⟨m1, _, m3⟩, s1, s2, s3, s4⟩ := hN
  have hC3 := c3.f1 a e (nin_sub g rfl)
  have hM3 := m3.f1 a (nin_sub g rfl)
  have h201 := (a.at g (show 201 ∈ _ by decide)).trans s1
  have h556 := (a.at g (show 5507 ∈ _ by decide)).trans s2
  have e6 : ∀ b, H'.1 6 b = H.1 6 b := fun b => a.at g (show 600 ∈ _ by decide)
  have e7 : ∀ b, H'.1 7 b = H.1 7 b := fun b => a.at g (show 700 ∈ _ by decide)
  have e60 : ∀ b, H'.1 60 b = H.1 60 b := fun b => a.at g (show 6000 ∈ _ by decide)
  have e61 : ∀ b, H'.1 61 b = H.1 61 b := fun b => a.at g (show 6100 ∈ _ by decide)
  by_cases w2 : w ≤ 2
  · have hnb' := hnb w2
    have ek : W_k nb w = nb := if_pos w2
    have eo : W_o w = 3 + w := if_pos w2
    have ea : W_at nb w = 12 * w + nb := if_pos w2
    rw [ek, eo] at hc
    rw [ea] at hm
    have hbC : ∀ k, H'.1 20 k = H.1 20 k := fun k => by rw [hc 20 k (by decide), if_neg (by omega)]
    have hbM : ∀ k, 36 ≤ k → H'.1 56 k = H.1 56 k := fun k hk => by rw [hm k, if_neg (by omega)]
    refine ⟨⟨hb, fun b => if b = nb then W_sf w v (now b) else now b, ⟨⟨(hbC 0).trans c1.1, (hbC 1).trans c1.2.1, (hbC 2).trans c1.2.2.1, (hbC 3).trans c1.2.2.2.1, (hbC 4).trans c1.2.2.2.2⟩, c2, hC3⟩, ⟨⟨(hbM 36 (by decide)).trans m1.1, (hbM 37 (by decide)).trans m1.2.1, (hbM 38 (by decide)).trans m1.2.2.1, (hbM 39 (by decide)).trans m1.2.2.2.1, (hbM 40 (by decide)).trans m1.2.2.2.2⟩, c2, hM3⟩, h201, h556, s3, fun b hb0 => ?_⟩, fun b h1 h2 => ?_⟩
    · obtain ⟨⟨q1, q2, q3, q4, q5⟩, ⟨r1, r2, r3, r4, r5⟩, v1, v2, v3, v4, v5⟩ := s4 b hb0
      show NR H' b (if b = nb then W_sf w v (now b) else now b) ∧ PR H' b (if b = nb then W_sf w v (now b) else now b) ∧ RV t (if b = nb then W_sf w v (now b) else now b)
      have k3 := hc 3 b (by decide)
      have k4 := hc 4 b (by decide)
      have k5 := hc 5 b (by decide)
      have n0 := hm b
      have n1 := hm (12 + b)
      have n2 := hm (24 + b)
      by_cases z : b = nb
      · subst z
        rw [if_pos rfl]
        rcases (show w = 0 ∨ w = 1 ∨ w = 2 by omega) with y | y | y <;> subst y
        · rw [if_pos (by omega)] at k3 n0
          rw [if_neg (by omega)] at k4 k5 n1 n2
          exact ⟨⟨k3, k4.trans q2, k5.trans q3, (e6 b).trans q4, (e7 b).trans q5⟩, ⟨n0, n1.trans r2, n2.trans r3, (e60 b).trans r4, (e61 b).trans r5⟩, hv, v2, v3, v4, v5⟩
        · rw [if_pos (by omega)] at k4 n1
          rw [if_neg (by omega)] at k3 k5 n0 n2
          exact ⟨⟨k3.trans q1, k4, k5.trans q3, (e6 b).trans q4, (e7 b).trans q5⟩, ⟨n0.trans r1, n1, n2.trans r3, (e60 b).trans r4, (e61 b).trans r5⟩, v1, hv, v3, v4, v5⟩
        · rw [if_pos (by omega)] at k5 n2
          rw [if_neg (by omega)] at k3 k4 n0 n1
          exact ⟨⟨k3.trans q1, k4.trans q2, k5, (e6 b).trans q4, (e7 b).trans q5⟩, ⟨n0.trans r1, n1.trans r2, n2, (e60 b).trans r4, (e61 b).trans r5⟩, v1, v2, hv, v4, v5⟩
      · rw [if_neg z]
        rw [if_neg (by omega)] at k3 k4 k5 n0 n1 n2
        exact ⟨⟨k3.trans q1, k4.trans q2, k5.trans q3, (e6 b).trans q4, (e7 b).trans q5⟩, ⟨n0.trans r1, n1.trans r2, n2.trans r3, (e60 b).trans r4, (e61 b).trans r5⟩, v1, v2, v3, v4, v5⟩
    · obtain ⟨f1, f2, f3⟩ := hF b h1 h2
      refine ⟨?_, (e6 b).trans f2, (e7 b).trans f3⟩
      rw [hc 5 b (by decide), if_neg (by omega)]
      exact f1
  · have ek : W_k nb w = w - 3 := if_neg w2
    have eo : W_o w = 20 := if_neg w2
    have ea : W_at nb w = 36 + (w - 3) := if_neg w2
    rw [ek, eo] at hc
    rw [ea] at hm
    have eC : ∀ o k, o = 3 ∨ o = 4 ∨ o = 5 → H'.1 o k = H.1 o k := fun o k ho => by rw [hc o k (by omega), if_neg (by omega)]
    have eM : ∀ k, k < 36 → H'.1 56 k = H.1 56 k := fun k hk => by rw [hm k, if_neg (by omega)]
    have gC : ∀ j, H'.1 20 j = if j = w - 3 then nI v else H.1 20 j := fun j => by
      rw [hc 20 j (by decide)]
      by_cases z : j = w - 3
      · rw [if_pos ⟨rfl, z⟩, if_pos z]
      · rw [if_neg (by omega), if_neg z]
    have gM : ∀ j, H'.1 56 (36 + j) = if j = w - 3 then nI v else H.1 56 (36 + j) := fun j => by
      rw [hm (36 + j)]
      by_cases z : j = w - 3
      · rw [if_pos (by omega), if_pos z]
      · rw [if_neg (by omega), if_neg z]
    have tC : ∀ j, H.1 20 j = nI (hb j) → H'.1 20 j = nI (if j = w - 3 then v else hb j) := fun j hj => by
      rw [gC j]; split
      · rfl
      · exact hj
    have tM : ∀ j, H.1 56 (36 + j) = nI (hb j) → H'.1 56 (36 + j) = nI (if j = w - 3 then v else hb j) := fun j hj => by
      rw [gM j]; split
      · rfl
      · exact hj
    have hv' : HV (fun j => if j = w - 3 then v else hb j) := by
      obtain ⟨u0, u1, u2, u3, u4⟩ := c2
      rcases (show w = 3 ∨ w = 4 ∨ w = 5 ∨ w = 6 ∨ w = 7 by omega) with y | y | y | y | y <;> subst y <;> exact ⟨by first | exact hv | exact u0, by first | exact hv | exact u1, by first | exact hv | exact u2, by first | exact hv | exact u3, by first | exact hv | exact u4⟩
    refine ⟨⟨fun j => if j = w - 3 then v else hb j, now, ⟨⟨tC 0 c1.1, tC 1 c1.2.1, tC 2 c1.2.2.1, tC 3 c1.2.2.2.1, tC 4 c1.2.2.2.2⟩, hv', hC3⟩, ⟨⟨tM 0 m1.1, tM 1 m1.2.1, tM 2 m1.2.2.1, tM 3 m1.2.2.2.1, tM 4 m1.2.2.2.2⟩, hv', hM3⟩, h201, h556, s3, fun b hb0 => ?_⟩, fun b h1 h2 => ?_⟩
    · obtain ⟨⟨q1, q2, q3, q4, q5⟩, ⟨r1, r2, r3, r4, r5⟩, hrv⟩ := s4 b hb0
      exact ⟨⟨(eC 3 b (by decide)).trans q1, (eC 4 b (by decide)).trans q2, (eC 5 b (by decide)).trans q3, (e6 b).trans q4, (e7 b).trans q5⟩, ⟨(eM b (by omega)).trans r1, (eM _ (by omega)).trans r2, (eM _ (by omega)).trans r3, (e60 b).trans r4, (e61 b).trans r5⟩, hrv⟩
    · obtain ⟨f1, f2, f3⟩ := hF b h1 h2
      exact ⟨(eC 5 b (by decide)).trans f1, (e6 b).trans f2, (e7 b).trans f3⟩
theorem Rel_set {hb : Nat → Nat} {L : Law} {n t m nb w v : Nat} {now : Nat → Row} {H H' : pmT} (hN : RNow hb L n t now H) (hT : RRest n t m H) (hD : RDay H) (hw : w ≤ 7) (hnb : w ≤ 2 → nb < n) (hv : v ≤ W_grt w) (f : fr (300 :: 400 :: 500 :: 2000 :: 5600 :: ChgL) H H')
    (hc : ∀ o k, o = 3 ∨ o = 4 ∨ o = 5 ∨ o = 20 → H'.1 o k = if o = W_o w ∧ k = W_k nb w then nI v else H.1 o k) (hm : ∀ k, H'.1 56 k = if k = W_at nb w then nI v else H.1 56 k) (hg : RChg n H') : Rel (t + 1) H' := by
  obtain ⟨t1, t2, t3, t4, t5, t6, t7, t8⟩ := hT
  obtain ⟨⟨hb', now', hN'⟩, hF'⟩ := RNow_set hN t1 hw hnb hv f.f1 (by rw [f.2]) rfl hc hm
  exact ⟨hb', L, n, now', m, hN'.mono (Nat.le_succ _), ⟨hF', t2.f1 f.f1 (by rw [f.2]) rfl, hg, t4.f1 f.f1 rfl, t5.f1 f.f1 rfl, fun d hd => (t6 d hd).f1 hd f.f1 (by rw [f.2]) rfl, t7.f1 f.f1 rfl, (t8.f1 f.f1 rfl).mono (Nat.le_succ _)⟩, hD.f1 f.f1 rfl⟩
/-! a change kept -/
def shf (dn : Nat) : Nat := if dn = 40 then 1 else 0
theorem c_chAdd {d dn a1 a2 a3 a4 : Nat} {H : pmT} {K : pmT → Prop} (h4 : H.1 26 4 = nI dn) (hdn : dn ≤ 40) (kk : ∀ H', fr [2605, 2606, 2700, 2800, 2900, 3000] H H' → H'.1 26 4 = nI (dn - shf dn + 1) → H'.1 26 5 = nI (dn - shf dn + 1) → (∀ j, j < dn - shf dn → H'.1 27 j = H.1 27 (j + shf dn) ∧ H'.1 28 j = H.1 28 (j + shf dn) ∧ H'.1 29 j = H.1 29 (j + shf dn) ∧ H'.1 30 j = H.1 30 (j + shf dn)) → (H'.1 27 (dn - shf dn) = nI a1 ∧ H'.1 28 (dn - shf dn) = nI a2 ∧ H'.1 29 (dn - shf dn) = nI a3 ∧ H'.1 30 (dn - shf dn) = nI a4) → K H') : pm_R (d + 2) M_Ch_add [.ref 26, .int (nI a1), .int (nI a2), .int (nI a3), .int (nI a4)] H (pm_v K) := by
  refine m_Ch_add _ _ _ _ ?_
  have step : ∀ (N : Nat) (H1 : pmT), N < 40 → H1.1 26 4 = nI N → vp_in (H1.1 26 4) 40 ∧ (fr [2605, 2606, 2700, 2800, 2900, 3000] H1 (pm_up (pm_up (pm_up (pm_up (pm_up (pm_up H1.1 27 ((H1.1 26 4).toNatClampNeg) (nI a1)) 28 ((H1.1 26 4).toNatClampNeg) (nI a2)) 29 ((H1.1 26 4).toNatClampNeg) (nI a3)) 30 ((H1.1 26 4).toNatClampNeg) (nI a4)) 26 4 ((H1.1 26 4) + (1 : Int32))) 26 5 ((H1.1 26 4) + (1 : Int32)), H1.2)) ∧ ∃ X : Nat → Nat → Int32, pm_up (pm_up (pm_up (pm_up (pm_up (pm_up H1.1 27 ((H1.1 26 4).toNatClampNeg) (nI a1)) 28 ((H1.1 26 4).toNatClampNeg) (nI a2)) 29 ((H1.1 26 4).toNatClampNeg) (nI a3)) 30 ((H1.1 26 4).toNatClampNeg) (nI a4)) 26 4 ((H1.1 26 4) + (1 : Int32))) 26 5 ((H1.1 26 4) + (1 : Int32)) = X ∧ X 26 4 = nI (N + 1) ∧ X 26 5 = nI (N + 1) ∧ X 27 = upd (H1.1 27) N (nI a1) ∧ X 28 = upd (H1.1 28) N (nI a2) ∧ X 29 = upd (H1.1 29) N (nI a3) ∧ X 30 = upd (H1.1 30) N (nI a4) := by
    intro N H1 hN e
    rw [e, nIc (show N < 2 ^ 31 by omega), nI_1 N]
    refine ⟨vp_in_nI hN (by decide), (((((fr.rf.up (o := 27) rfl).up (o := 28) rfl).up (o := 29) rfl).up (o := 30) rfl).up (o := 26) rfl).up (o := 26) rfl, _, rfl, ?_, ?_, ?_, ?_, ?_, ?_⟩
    · rw [pm_up_self, pk_un (by decide), pm_up_self, pk_us]
    · rw [pm_up_self, pk_us]
    · rw [pm_up_ne _ _ _ (by decide), pm_up_ne _ _ _ (by decide), pm_up_ne _ _ _ (by decide), pm_up_ne _ _ _ (by decide), pm_up_ne _ _ _ (by decide), pm_up_self]
    · rw [pm_up_ne _ _ _ (by decide), pm_up_ne _ _ _ (by decide), pm_up_ne _ _ _ (by decide), pm_up_ne _ _ _ (by decide), pm_up_self, pm_up_ne _ _ _ (by decide)]
    · rw [pm_up_ne _ _ _ (by decide), pm_up_ne _ _ _ (by decide), pm_up_ne _ _ _ (by decide), pm_up_self, pm_up_ne _ _ _ (by decide), pm_up_ne _ _ _ (by decide)]
    · rw [pm_up_ne _ _ _ (by decide), pm_up_ne _ _ _ (by decide), pm_up_self, pm_up_ne _ _ _ (by decide), pm_up_ne _ _ _ (by decide), pm_up_ne _ _ _ (by decide)]
  by_cases c : dn = 40
  · have z : ¬ H.1 26 4 < (40 : Int32) := by rw [h4]; exact nI_nlt (a := dn) (b := 40) (by omega) (by omega)
    have es : shf dn = 1 := if_pos c
    rw [es] at kk
    first | refine bt z ?_ | refine bf z ?_ | refine nt z ?_ | refine nf z ?_
    refine m_Ch_forgetOldest ?_
    generalize hH1 : ((va_up (va_up (va_up (va_up (pm_up H.1 26 4 (39 : Int32)) 27 (va_cpy (H.1 27) (H.1 27) 1 0 39)) 28 (va_cpy (H.1 28) (H.1 28) 1 0 39)) 29 (va_cpy (H.1 29) (H.1 29) 1 0 39)) 30 (va_cpy (H.1 30) (H.1 30) 1 0 39), H.2) : pmT) = H1
    have f0 : fr [2605, 2606, 2700, 2800, 2900, 3000] H H1 := by
      rw [← hH1]
      exact ((((fr.rf.up (o := 26) rfl).row (o := 27) (fun _ => rfl)).row (o := 28) (fun _ => rfl)).row (o := 29) (fun _ => rfl)).row (o := 30) (fun _ => rfl)
    have r27 : H1.1 27 = va_cpy (H.1 27) (H.1 27) 1 0 39 := by
      rw [← hH1]
      show va_up (va_up (va_up (va_up (pm_up H.1 26 4 (39 : Int32)) 27 (va_cpy (H.1 27) (H.1 27) 1 0 39)) 28 (va_cpy (H.1 28) (H.1 28) 1 0 39)) 29 (va_cpy (H.1 29) (H.1 29) 1 0 39)) 30 (va_cpy (H.1 30) (H.1 30) 1 0 39) 27 = _
      rw [va_up_ne _ _ (by decide), va_up_ne _ _ (by decide), va_up_ne _ _ (by decide), va_up_self]
    have r28 : H1.1 28 = va_cpy (H.1 28) (H.1 28) 1 0 39 := by
      rw [← hH1]
      show va_up (va_up (va_up (va_up (pm_up H.1 26 4 (39 : Int32)) 27 (va_cpy (H.1 27) (H.1 27) 1 0 39)) 28 (va_cpy (H.1 28) (H.1 28) 1 0 39)) 29 (va_cpy (H.1 29) (H.1 29) 1 0 39)) 30 (va_cpy (H.1 30) (H.1 30) 1 0 39) 28 = _
      rw [va_up_ne _ _ (by decide), va_up_ne _ _ (by decide), va_up_self]
    have r29 : H1.1 29 = va_cpy (H.1 29) (H.1 29) 1 0 39 := by
      rw [← hH1]
      show va_up (va_up (va_up (va_up (pm_up H.1 26 4 (39 : Int32)) 27 (va_cpy (H.1 27) (H.1 27) 1 0 39)) 28 (va_cpy (H.1 28) (H.1 28) 1 0 39)) 29 (va_cpy (H.1 29) (H.1 29) 1 0 39)) 30 (va_cpy (H.1 30) (H.1 30) 1 0 39) 29 = _
      rw [va_up_ne _ _ (by decide), va_up_self]
    have r30 : H1.1 30 = va_cpy (H.1 30) (H.1 30) 1 0 39 := by
      rw [← hH1]
      show va_up (va_up (va_up (va_up (pm_up H.1 26 4 (39 : Int32)) 27 (va_cpy (H.1 27) (H.1 27) 1 0 39)) 28 (va_cpy (H.1 28) (H.1 28) 1 0 39)) 29 (va_cpy (H.1 29) (H.1 29) 1 0 39)) 30 (va_cpy (H.1 30) (H.1 30) 1 0 39) 30 = _
      rw [va_up_self]
    have r26 : H1.1 26 4 = nI 39 := by
      rw [← hH1]
      show va_up (va_up (va_up (va_up (pm_up H.1 26 4 (39 : Int32)) 27 (va_cpy (H.1 27) (H.1 27) 1 0 39)) 28 (va_cpy (H.1 28) (H.1 28) 1 0 39)) 29 (va_cpy (H.1 29) (H.1 29) 1 0 39)) 30 (va_cpy (H.1 30) (H.1 30) 1 0 39) 26 4 = _
      rw [va_up_ne _ _ (by decide), va_up_ne _ _ (by decide), va_up_ne _ _ (by decide), va_up_ne _ _ (by decide), pm_up_self, pk_us]
      rfl
    obtain ⟨q1, q2, X, q3, x4, x5, x27, x28, x29, x30⟩ := step 39 H1 (by decide) r26
    refine ⟨q1, ?_⟩
    rw [q3] at q2 ⊢
    have e39 : dn - 1 = 39 := by omega
    rw [e39] at kk
    refine kk _ (f0.tr q2) x4 x5 (fun j hj => ?_) ?_
    · refine ⟨?_, ?_, ?_, ?_⟩
      · show X 27 j = _
        rw [x27, pk_un (by omega), r27, pk_cpy_in (by omega) (by omega), show 1 + (j - 0) = j + 1 by omega]
      · show X 28 j = _
        rw [x28, pk_un (by omega), r28, pk_cpy_in (by omega) (by omega), show 1 + (j - 0) = j + 1 by omega]
      · show X 29 j = _
        rw [x29, pk_un (by omega), r29, pk_cpy_in (by omega) (by omega), show 1 + (j - 0) = j + 1 by omega]
      · show X 30 j = _
        rw [x30, pk_un (by omega), r30, pk_cpy_in (by omega) (by omega), show 1 + (j - 0) = j + 1 by omega]
    · refine ⟨?_, ?_, ?_, ?_⟩
      · show X 27 39 = _
        rw [x27, pk_us]
      · show X 28 39 = _
        rw [x28, pk_us]
      · show X 29 39 = _
        rw [x29, pk_us]
      · show X 30 39 = _
        rw [x30, pk_us]
  · have z : H.1 26 4 < (40 : Int32) := by rw [h4]; exact nI_lt (show dn < 40 by omega) (by decide)
    have es : shf dn = 0 := if_neg c
    rw [es] at kk
    obtain ⟨q1, q2, X, q3, x4, x5, x27, x28, x29, x30⟩ := step dn H (by omega) h4
    first | refine bt z ?_ | refine bf z ?_ | refine nt z ?_ | refine nf z ?_
    refine ⟨q1, ?_⟩
    rw [q3] at q2 ⊢
    refine kk _ q2 x4 x5 (fun j hj => ?_) ?_
    · refine ⟨?_, ?_, ?_, ?_⟩
      · show X 27 j = _
        rw [x27, pk_un (by omega)]; rfl
      · show X 28 j = _
        rw [x28, pk_un (by omega)]; rfl
      · show X 29 j = _
        rw [x29, pk_un (by omega)]; rfl
      · show X 30 j = _
        rw [x30, pk_un (by omega)]; rfl
    · refine ⟨?_, ?_, ?_, ?_⟩
      · show X 27 dn = _
        rw [x27, pk_us]
      · show X 28 dn = _
        rw [x28, pk_us]
      · show X 29 dn = _
        rw [x29, pk_us]
      · show X 30 dn = _
        rw [x30, pk_us]
