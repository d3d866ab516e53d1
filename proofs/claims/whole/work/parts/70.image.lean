/-! calls in pairs: the image and the way back -/
theorem ix4 {b : Nat} (hb : b < 12) : (4 : Int32) * nI b = nI (4 * b) ∧ nI (4 * b) + (1 : Int32) = nI (4 * b + 1) ∧ nI (4 * b) + (2 : Int32) = nI (4 * b + 2) ∧ nI (4 * b) + (3 : Int32) = nI (4 * b + 3) :=
  ⟨pk_mul 4 b, nI_1 (4 * b), nI_add (4 * b) 2, nI_add (4 * b) 3⟩
theorem lp_img {D n : Nat} {now : Nat → Row} {Q : pmQ} {H0 : pmT} (hn : H0.1 55 6 = nI n) (hn12 : n ≤ 12) (hP : ∀ b, b < n → PR H0 b (now b)) (kk : ∀ H', fr [7800] H0 H' → (∀ b, b < n → H'.1 78 (4 * b) = nI (now b).1 ∧ H'.1 78 (4 * b + 1) = nI (now b).2.1 ∧ H'.1 78 (4 * b + 2) = nI (now b).2.2.2.1 ∧ H'.1 78 (4 * b + 3) = nI (now b).2.2.2.2) → pm_RW none (D + 1) M_Mo_image Q 96 [(0, .ref 55), (1, .int (nI 0))] [] H') : ∀ (m b : Nat) (H : pmT), b + m = n → fr [7800] H0 H → (∀ b', b' < b → H.1 78 (4 * b') = nI (now b').1 ∧ H.1 78 (4 * b' + 1) = nI (now b').2.1 ∧ H.1 78 (4 * b' + 2) = nI (now b').2.2.2.1 ∧ H.1 78 (4 * b' + 3) = nI (now b').2.2.2.2) → pm_RW none (D + 1) M_Mo_image Q 15 [(0, .ref 55), (1, .int (nI b))] [] H
  | 0, b, H, hb, hf, hr => by
    refine b_Mo_image_15 _ ?_
    rw [show H.1 55 6 = nI n from (hf.1 55 6 rfl).trans hn]
    first | refine bt (nI_le (show n ≤ b by omega) (by omega)) ?_ | refine bf (nI_le (show n ≤ b by omega) (by omega)) ?_ | refine nt (nI_le (show n ≤ b by omega) (by omega)) ?_ | refine nf (nI_le (show n ≤ b by omega) (by omega)) ?_
    exact kk H hf (fun b' h => hr b' (by omega))
  | m + 1, b, H, hb, hf, hr => by
    obtain ⟨i0, i1, i2, i3⟩ := ix4 (b := b) (by omega)
    obtain ⟨p1, p2, p3, p4, p5⟩ := hP b (by omega)
    refine b_Mo_image_15 _ ?_
    rw [show H.1 55 6 = nI n from (hf.1 55 6 rfl).trans hn, i0, i1, i2, i3, nI12, nI_1 b, nIc (show b < 2 ^ 31 by omega), nIc (show 4 * b < 2 ^ 31 by omega), nIc (show 4 * b + 1 < 2 ^ 31 by omega), nIc (show 4 * b + 2 < 2 ^ 31 by omega), nIc (show 4 * b + 3 < 2 ^ 31 by omega), nIc (show 12 + b < 2 ^ 31 by omega)]
    first | refine bt (nI_ge (show b < n by omega) (by omega)) ?_ | refine bf (nI_ge (show b < n by omega) (by omega)) ?_ | refine nt (nI_ge (show b < n by omega) (by omega)) ?_ | refine nf (nI_ge (show b < n by omega) (by omega)) ?_
    refine ⟨vp_in_nI (by omega) (by decide), vp_in_nI (by omega) (by decide), vp_in_nI (by omega) (by decide), vp_in_nI (by omega) (by decide), vp_in_nI (by omega) (by decide), vp_in_nI (by omega) (by decide), vp_in_nI (by omega) (by decide), ?_⟩
    have f2 : fr [7800] H (pm_up (pm_up (pm_up (pm_up H.1 78 (4 * b) (H.1 56 b)) 78 (4 * b + 1) (H.1 56 (12 + b))) 78 (4 * b + 2) (H.1 60 b)) 78 (4 * b + 3) (H.1 61 b), H.2) := (((fr.rf.up (o := 78) rfl).up (o := 78) rfl).up (o := 78) rfl).up (o := 78) rfl
    have e78 : (pm_up (pm_up (pm_up (pm_up H.1 78 (4 * b) (H.1 56 b)) 78 (4 * b + 1) (H.1 56 (12 + b))) 78 (4 * b + 2) (H.1 60 b)) 78 (4 * b + 3) (H.1 61 b)) 78 = upd (upd (upd (upd (H.1 78) (4 * b) (H.1 56 b)) (4 * b + 1) (H.1 56 (12 + b))) (4 * b + 2) (H.1 60 b)) (4 * b + 3) (H.1 61 b) := by
      rw [pm_up_self, pm_up_self, pm_up_self, pm_up_self]
    generalize pm_up (pm_up (pm_up (pm_up H.1 78 (4 * b) (H.1 56 b)) 78 (4 * b + 1) (H.1 56 (12 + b))) 78 (4 * b + 2) (H.1 60 b)) 78 (4 * b + 3) (H.1 61 b) = X at f2 e78 ⊢
    refine lp_img hn hn12 hP kk m (b + 1) (X, H.2) (by omega) (hf.tr f2) (fun b' hb' => ?_)
    by_cases z : b' = b
    · subst z
      refine ⟨?_, ?_, ?_, ?_⟩
      · show X 78 _ = _
        rw [e78, pk_un (by omega), pk_un (by omega), pk_un (by omega), pk_us]
        exact (hf.1 56 b' rfl).trans p1
      · show X 78 _ = _
        rw [e78, pk_un (by omega), pk_un (by omega), pk_us]
        exact (hf.1 56 _ rfl).trans p2
      · show X 78 _ = _
        rw [e78, pk_un (by omega), pk_us]
        exact (hf.1 60 b' rfl).trans p4
      · show X 78 _ = _
        rw [e78, pk_us]
        exact (hf.1 61 b' rfl).trans p5
    · obtain ⟨r1, r2, r3, r4⟩ := hr b' (by omega)
      refine ⟨?_, ?_, ?_, ?_⟩
      · show X 78 _ = _
        rw [e78, pk_un (by omega), pk_un (by omega), pk_un (by omega), pk_un (by omega)]; exact r1
      · show X 78 _ = _
        rw [e78, pk_un (by omega), pk_un (by omega), pk_un (by omega), pk_un (by omega)]; exact r2
      · show X 78 _ = _
        rw [e78, pk_un (by omega), pk_un (by omega), pk_un (by omega), pk_un (by omega)]; exact r3
      · show X 78 _ = _
        rw [e78, pk_un (by omega), pk_un (by omega), pk_un (by omega), pk_un (by omega)]; exact r4
theorem c_led {d v : Nat} {H : pmT} {K : Int32 → pmT → Prop} (hv : v < 5) (kk : K (H.1 55 (34 + v)) H) : pm_R d M_Mo_led [.ref 55, .int (nI v)] H (pm_i K) := by
  refine m_Mo_led _ ?_
  rcases (show v = 0 ∨ v = 1 ∨ v = 2 ∨ v = 3 ∨ v = 4 by omega) with y | y | y | y | y <;> subst y
  · first | refine bt (show nI 0 = (0 : Int32) from rfl) ?_ | refine bf (show nI 0 = (0 : Int32) from rfl) ?_ | refine nt (show nI 0 = (0 : Int32) from rfl) ?_ | refine nf (show nI 0 = (0 : Int32) from rfl) ?_
    exact kk
  · first | refine bt (show ¬ nI 1 = (0 : Int32) by decide) ?_ | refine bf (show ¬ nI 1 = (0 : Int32) by decide) ?_ | refine nt (show ¬ nI 1 = (0 : Int32) by decide) ?_ | refine nf (show ¬ nI 1 = (0 : Int32) by decide) ?_
    first | refine bt (show nI 1 = (1 : Int32) from rfl) ?_ | refine bf (show nI 1 = (1 : Int32) from rfl) ?_ | refine nt (show nI 1 = (1 : Int32) from rfl) ?_ | refine nf (show nI 1 = (1 : Int32) from rfl) ?_
    exact kk
  · first | refine bt (show ¬ nI 2 = (0 : Int32) by decide) ?_ | refine bf (show ¬ nI 2 = (0 : Int32) by decide) ?_ | refine nt (show ¬ nI 2 = (0 : Int32) by decide) ?_ | refine nf (show ¬ nI 2 = (0 : Int32) by decide) ?_
    first | refine bt (show ¬ nI 2 = (1 : Int32) by decide) ?_ | refine bf (show ¬ nI 2 = (1 : Int32) by decide) ?_ | refine nt (show ¬ nI 2 = (1 : Int32) by decide) ?_ | refine nf (show ¬ nI 2 = (1 : Int32) by decide) ?_
    first | refine bt (show nI 2 = (2 : Int32) from rfl) ?_ | refine bf (show nI 2 = (2 : Int32) from rfl) ?_ | refine nt (show nI 2 = (2 : Int32) from rfl) ?_ | refine nf (show nI 2 = (2 : Int32) from rfl) ?_
    exact kk
  · first | refine bt (show ¬ nI 3 = (0 : Int32) by decide) ?_ | refine bf (show ¬ nI 3 = (0 : Int32) by decide) ?_ | refine nt (show ¬ nI 3 = (0 : Int32) by decide) ?_ | refine nf (show ¬ nI 3 = (0 : Int32) by decide) ?_
    first | refine bt (show ¬ nI 3 = (1 : Int32) by decide) ?_ | refine bf (show ¬ nI 3 = (1 : Int32) by decide) ?_ | refine nt (show ¬ nI 3 = (1 : Int32) by decide) ?_ | refine nf (show ¬ nI 3 = (1 : Int32) by decide) ?_
    first | refine bt (show ¬ nI 3 = (2 : Int32) by decide) ?_ | refine bf (show ¬ nI 3 = (2 : Int32) by decide) ?_ | refine nt (show ¬ nI 3 = (2 : Int32) by decide) ?_ | refine nf (show ¬ nI 3 = (2 : Int32) by decide) ?_
    first | refine bt (show nI 3 = (3 : Int32) from rfl) ?_ | refine bf (show nI 3 = (3 : Int32) from rfl) ?_ | refine nt (show nI 3 = (3 : Int32) from rfl) ?_ | refine nf (show nI 3 = (3 : Int32) from rfl) ?_
    exact kk
  · first | refine bt (show ¬ nI 4 = (0 : Int32) by decide) ?_ | refine bf (show ¬ nI 4 = (0 : Int32) by decide) ?_ | refine nt (show ¬ nI 4 = (0 : Int32) by decide) ?_ | refine nf (show ¬ nI 4 = (0 : Int32) by decide) ?_
    first | refine bt (show ¬ nI 4 = (1 : Int32) by decide) ?_ | refine bf (show ¬ nI 4 = (1 : Int32) by decide) ?_ | refine nt (show ¬ nI 4 = (1 : Int32) by decide) ?_ | refine nf (show ¬ nI 4 = (1 : Int32) by decide) ?_
    first | refine bt (show ¬ nI 4 = (2 : Int32) by decide) ?_ | refine bf (show ¬ nI 4 = (2 : Int32) by decide) ?_ | refine nt (show ¬ nI 4 = (2 : Int32) by decide) ?_ | refine nf (show ¬ nI 4 = (2 : Int32) by decide) ?_
    first | refine bt (show ¬ nI 4 = (3 : Int32) by decide) ?_ | refine bf (show ¬ nI 4 = (3 : Int32) by decide) ?_ | refine nt (show ¬ nI 4 = (3 : Int32) by decide) ?_ | refine nf (show ¬ nI 4 = (3 : Int32) by decide) ?_
    first | refine bt (show nI 4 = (4 : Int32) from rfl) ?_ | refine bf (show nI 4 = (4 : Int32) from rfl) ?_ | refine nt (show nI 4 = (4 : Int32) from rfl) ?_ | refine nf (show nI 4 = (4 : Int32) from rfl) ?_
    exact kk
theorem lp_img2 {D : Nat} {K : Int32 → pmT → Prop} {H0 : pmT} (kk : ∀ H', fr [7800] H0 H' → (∀ k, k < 48 → H'.1 78 k = H0.1 78 k) → (∀ k, k < 5 → H'.1 78 (48 + k) = H0.1 55 (34 + k)) → K (H0.1 55 34) H') : ∀ (m v : Nat) (H : pmT), v + m = 5 → fr [7800] H0 H → (∀ k, k < 48 → H.1 78 k = H0.1 78 k) → (∀ k, k < v → H.1 78 (48 + k) = H0.1 55 (34 + k)) → pm_RW none (D + 1) M_Mo_image (pm_i K) 96 [(0, .ref 55), (1, .int (nI v))] [] H
  | 0, v, H, hv, hf, h1, h2 => by
    refine b_Mo_image_96 _ ?_
    first | refine bt (nI_le (show 5 ≤ v by omega) (by omega)) ?_ | refine bf (nI_le (show 5 ≤ v by omega) (by omega)) ?_ | refine nt (nI_le (show 5 ≤ v by omega) (by omega)) ?_ | refine nf (nI_le (show 5 ≤ v by omega) (by omega)) ?_
    rw [show H.1 55 34 = H0.1 55 34 from hf.1 55 34 rfl]
    exact kk H hf h1 (fun k hk => h2 k (by omega))
  | m + 1, v, H, hv, hf, h1, h2 => by
    refine b_Mo_image_96 _ ?_
    first | refine bt (nI_ge (show v < 5 by omega) (by decide)) ?_ | refine bf (nI_ge (show v < 5 by omega) (by decide)) ?_ | refine nt (nI_ge (show v < 5 by omega) (by decide)) ?_ | refine nf (nI_ge (show v < 5 by omega) (by decide)) ?_
    refine c_led (show v < 5 by omega) ?_
    rw [show (48 : Int32) + nI v = nI (48 + v) from nI_pl 48, nIc (show 48 + v < 2 ^ 31 by omega), nI_1 v]
    refine ⟨vp_in_nI (by omega) (by decide), ?_⟩
    have e55 : H.1 55 (34 + v) = H0.1 55 (34 + v) := by
      rcases (show v = 0 ∨ v = 1 ∨ v = 2 ∨ v = 3 ∨ v = 4 by omega) with y | y | y | y | y <;> subst y <;> exact hf.1 55 _ rfl
    have f2 : fr [7800] H (pm_up H.1 78 (48 + v) (H.1 55 (34 + v)), H.2) := fr.rf.up (o := 78) rfl
    refine lp_img2 kk m (v + 1) _ (by omega) (hf.tr f2) (fun k hk => ?_) (fun k hk => ?_)
    · show pm_up H.1 78 (48 + v) (H.1 55 (34 + v)) 78 k = _
      rw [pm_up_self, pk_un (by omega)]; exact h1 k hk
    · show pm_up H.1 78 (48 + v) (H.1 55 (34 + v)) 78 (48 + k) = _
      rw [pm_up_self]
      by_cases z : k = v
      · rw [z, pk_us, e55]
      · rw [pk_un (by omega)]; exact h2 k (by omega)
theorem p_image {D t : Nat} {H : pmT} {K : Int32 → Int32 → pmT → Prop} (hR : Rel t H) (ht : t ≤ 1000) (kk : ∀ x H', Rel (t + 1) H' → K x x H') : pm_R (D + 200) M_PW_image [.ref 0] H (pm_i fun x H1 => pm_R (D + 200) M_Mo_image [.ref 55] H1 (pm_i fun y H2 => K x y H2)) := by
  obtain ⟨hb, L, n, now, m, hN, hT, hD⟩ := id hR
  have hC := hN.cs ht
  have hM := hN.ms ht
  have hn12 := hC.2.2.1
  have hB := hT.2.2.2.1
  have hSh := hT.2.2.2.2.2.1
  have en : (nI n - (1 : Int32)).toInt = (n : Int) - 1 := nm1_t (by omega)
  have hR1 : Rel (t + 1) H := hR.mono (Nat.le_succ _)
  obtain ⟨t1, t2, t3, t4, t5, t6, t7, t8⟩ := hT
  refine m_PW_image ?_
  refine c_takeAll_36 (d := D + 197) hC.2.1 hn12 hC.2.2.2.1 (fun H1 fa e36 hI => ?_)
  generalize hHc : ((pm_up (va_up H1.1 42 (va_cpy (H1.1 35) (H1.1 42) 0 0 5)) 0 10 (1 : Int32), H1.2) : pmT) = Hc
  have fb' : fr [4200, 11] H1 Hc := by rw [← hHc]; exact (fr.rf.row (o := 42) (fun _ => rfl)).up (o := 0) (k := 10) rfl
  have e42 : ∀ k, k < 5 → Hc.1 42 k = H.1 35 k := fun k hk => by
    rw [← hHc]
    show pm_up (va_up H1.1 42 (va_cpy (H1.1 35) (H1.1 42) 0 0 5)) 0 10 (1 : Int32) 42 k = _
    rw [pm_up_ne _ _ _ (by decide), va_up_self, pk_cpy_in (by omega) (by omega), fa.1 35 _ rfl, show 0 + (k - 0) = k by omega]
  have e10 : Hc.1 0 10 = 1 := by
    rw [← hHc]
    show pm_up (va_up H1.1 42 (va_cpy (H1.1 35) (H1.1 42) 0 0 5)) 0 10 (1 : Int32) 0 10 = _
    rw [pm_up_self, pk_us]
  have fC : fr [3601, 3700, 3800, 3900, 4000, 4100, 4200, 11] H Hc := (fa.mono rfl).tr (fb'.mono rfl)
  rw [show H1.1 35 0 = H.1 35 0 from fa.1 35 0 rfl]
  refine m_Mo_image ?_
  rw [show Hc.1 55 6 = nI n from (fC.1 55 6 rfl).trans hM.2.1]
  have fd : fr [5540, 5541] Hc (pm_up (pm_up Hc.1 55 39 (1 : Int32)) 55 40 (nI n), Hc.2) := (fr.rf.up (o := 55) rfl).up (o := 55) rfl
  have x39 : pm_up (pm_up Hc.1 55 39 (1 : Int32)) 55 40 (nI n) 55 39 = 1 := by rw [pm_up_self, pk_un (by decide), pm_up_self, pk_us]
  have x40 : pm_up (pm_up Hc.1 55 39 (1 : Int32)) 55 40 (nI n) 55 40 = nI n := by rw [pm_up_self, pk_us]
  generalize pm_up (pm_up Hc.1 55 39 (1 : Int32)) 55 40 (nI n) = X at fd x39 x40 ⊢
  have fD : fr [3601, 3700, 3800, 3900, 4000, 4100, 4200, 11, 5540, 5541] H (X, Hc.2) := (fC.mono rfl).tr (fd.mono rfl)
  refine lp_img (D := D + 199) (H0 := (X, Hc.2)) ((fD.1 55 6 rfl).trans hM.2.1) hn12 (fun b h => (hM.2.2.2.1 b h).fr fD rfl) (fun H2 f2 g2 => ?_) n 0 _ (by omega) fr.rf (fun b h => absurd h (Nat.not_lt_zero _))
  refine lp_img2 (D := D + 199) (H0 := H2) (fun H3 f3 g3 g4 => ?_) 5 0 H2 (by omega) fr.rf (fun _ _ => rfl) (fun k h => absurd h (Nat.not_lt_zero _))
  have f23 : fr [7800] (X, Hc.2) H3 := f2.tr f3
  have fA : fr [3601, 3700, 3800, 3900, 4000, 4100, 4200, 11, 5540, 5541, 7800] H H3 := (fD.mono rfl).tr (f23.mono rfl)
  have fB : fr [4200, 11, 5540, 5541, 7800] H1 H3 := (fb'.mono rfl).tr ((fd.mono rfl).tr (f23.mono rfl))
  have e34 : ∀ k, k < 5 → H2.1 55 (34 + k) = H.1 35 k := fun k hk => by
    rw [t7 k hk]
    rcases (show k = 0 ∨ k = 1 ∨ k = 2 ∨ k = 3 ∨ k = 4 by omega) with y | y | y | y | y <;> subst y <;> exact (f2.1 55 _ rfl).trans (fD.1 55 _ rfl)
  rw [show H2.1 55 34 = H.1 35 0 from e34 0 (by decide)]
  refine kk _ _ ⟨hb, L, n, now, m, (hN.f1 fA.f1 (by rw [fA.2]) rfl).mono (Nat.le_succ _), ⟨t1.f1 fA.f1 rfl, t2.f1 fA.f1 (by rw [fA.2]) rfl, t3.f1 fA.f1 rfl, t4.f1 fA.f1 rfl, t5.f1 fA.f1 rfl, fun d hd => (t6 d hd).f1 hd fA.f1 (by rw [fA.2]) rfl, t7.f1 fA.f1 rfl, Or.inr ⟨?_, ?_, n, Nat.le_refl _, ?_, ?_, fun b hb0 => ⟨now b, (hN.2.2.2.2.2 b hb0).2.2.mono (Nat.le_succ _), ?_, ?_⟩, fun k hk => ?_⟩⟩, hD.f1 fA.f1 rfl⟩
  · exact (f23.1 0 10 rfl).trans ((fd.1 0 10 rfl).trans e10)
  · exact (f23.1 55 39 rfl).trans x39
  · exact (fB.1 36 0 rfl).trans e36
  · exact (f23.1 55 40 rfl).trans x40
  · obtain ⟨i1, i2, i3, i4, i5⟩ := hI b hb0
    exact ⟨(fB.1 37 b rfl).trans i1, (fB.1 38 b rfl).trans i2, (fB.1 39 b rfl).trans i3, (fB.1 40 b rfl).trans i4, (fB.1 41 b rfl).trans i5⟩
  · obtain ⟨i1, i2, i3, i4⟩ := g2 b hb0
    exact ⟨(g3 _ (by omega)).trans i1, (g3 _ (by omega)).trans i2, (g3 _ (by omega)).trans i3, (g3 _ (by omega)).trans i4⟩
  · rw [g4 k hk, e34 k hk]
    exact (f23.1 42 k rfl).trans ((fd.1 42 k rfl).trans (e42 k hk))
/-! the way back -/
def W_bk (r s : Row) : Row := (r.1, r.2.1, s.2.2.1, r.2.2.2.1, r.2.2.2.2)
theorem lp_backC {D ni : Nat} {F : Nat → Row} {K : pmT → Prop} {H0 : pmT} (hn : H0.1 36 0 = nI ni) (hn12 : ni ≤ 12) (hI : ∀ b, b < ni → IR H0 b (F b)) (kk : ∀ H', fr [300, 400, 600, 700] H0 H' → (∀ b, b < ni → H'.1 3 b = nI (F b).1 ∧ H'.1 4 b = nI (F b).2.1 ∧ H'.1 6 b = nI (F b).2.2.2.1 ∧ H'.1 7 b = nI (F b).2.2.2.2) → (∀ b, ni ≤ b → H'.1 3 b = H0.1 3 b ∧ H'.1 4 b = H0.1 4 b ∧ H'.1 6 b = H0.1 6 b ∧ H'.1 7 b = H0.1 7 b) → K H') : ∀ (m b : Nat) (H : pmT), b + m = ni → fr [300, 400, 600, 700] H0 H → (∀ b', b' < b → H.1 3 b' = nI (F b').1 ∧ H.1 4 b' = nI (F b').2.1 ∧ H.1 6 b' = nI (F b').2.2.2.1 ∧ H.1 7 b' = nI (F b').2.2.2.2) → (∀ b', b ≤ b' → H.1 3 b' = H0.1 3 b' ∧ H.1 4 b' = H0.1 4 b' ∧ H.1 6 b' = H0.1 6 b' ∧ H.1 7 b' = H0.1 7 b') → pm_RW none (D + 1) M_Ha_layBack (pm_v K) 2 [(0, .ref 2), (1, .ref 36), (2, .int (nI b))] [] H
  | 0, b, H, hb, hf, h1, h2 => by
    refine b_Ha_layBack_2 _ ?_
    rw [show H.1 36 0 = nI ni from (hf.1 36 0 rfl).trans hn]
    first | refine bt (nI_le (show ni ≤ b by omega) (by omega)) ?_ | refine bf (nI_le (show ni ≤ b by omega) (by omega)) ?_ | refine nt (nI_le (show ni ≤ b by omega) (by omega)) ?_ | refine nf (nI_le (show ni ≤ b by omega) (by omega)) ?_
    exact kk H hf (fun b' h => h1 b' (by omega)) (fun b' h => h2 b' (by omega))
  | m + 1, b, H, hb, hf, h1, h2 => by
    refine b_Ha_layBack_2 _ ?_
    rw [show H.1 36 0 = nI ni from (hf.1 36 0 rfl).trans hn, nIc (show b < 2 ^ 31 by omega), nI_1 b]
    first | refine bt (nI_ge (show b < ni by omega) (by omega)) ?_ | refine bf (nI_ge (show b < ni by omega) (by omega)) ?_ | refine nt (nI_ge (show b < ni by omega) (by omega)) ?_ | refine nf (nI_ge (show b < ni by omega) (by omega)) ?_
    refine ⟨vp_in_nI (by omega) (by decide), ?_⟩
    obtain ⟨i1, i2, i3, i4, i5⟩ := hI b (by omega)
    have f2 : fr [300, 400, 600, 700] H (pm_up (pm_up (pm_up (pm_up H.1 3 b (H.1 37 b)) 4 b (H.1 38 b)) 6 b (H.1 40 b)) 7 b (H.1 41 b), H.2) := (((fr.rf.up (o := 3) rfl).up (o := 4) rfl).up (o := 6) rfl).up (o := 7) rfl
    have x3 : (pm_up (pm_up (pm_up (pm_up H.1 3 b (H.1 37 b)) 4 b (H.1 38 b)) 6 b (H.1 40 b)) 7 b (H.1 41 b)) 3 = upd (H.1 3) b (H.1 37 b) := by rw [pm_up_ne _ _ _ (by decide), pm_up_ne _ _ _ (by decide), pm_up_ne _ _ _ (by decide), pm_up_self]
    have x4 : (pm_up (pm_up (pm_up (pm_up H.1 3 b (H.1 37 b)) 4 b (H.1 38 b)) 6 b (H.1 40 b)) 7 b (H.1 41 b)) 4 = upd (H.1 4) b (H.1 38 b) := by rw [pm_up_ne _ _ _ (by decide), pm_up_ne _ _ _ (by decide), pm_up_self, pm_up_ne _ _ _ (by decide)]
    have x6 : (pm_up (pm_up (pm_up (pm_up H.1 3 b (H.1 37 b)) 4 b (H.1 38 b)) 6 b (H.1 40 b)) 7 b (H.1 41 b)) 6 = upd (H.1 6) b (H.1 40 b) := by rw [pm_up_ne _ _ _ (by decide), pm_up_self, pm_up_ne _ _ _ (by decide), pm_up_ne _ _ _ (by decide)]
    have x7 : (pm_up (pm_up (pm_up (pm_up H.1 3 b (H.1 37 b)) 4 b (H.1 38 b)) 6 b (H.1 40 b)) 7 b (H.1 41 b)) 7 = upd (H.1 7) b (H.1 41 b) := by rw [pm_up_self, pm_up_ne _ _ _ (by decide), pm_up_ne _ _ _ (by decide), pm_up_ne _ _ _ (by decide)]
    generalize pm_up (pm_up (pm_up (pm_up H.1 3 b (H.1 37 b)) 4 b (H.1 38 b)) 6 b (H.1 40 b)) 7 b (H.1 41 b) = X at f2 x3 x4 x6 x7 ⊢
    refine lp_backC hn hn12 hI kk m (b + 1) (X, H.2) (by omega) (hf.tr f2) (fun b' hb' => ?_) (fun b' hb' => ?_)
    · show X 3 b' = _ ∧ X 4 b' = _ ∧ X 6 b' = _ ∧ X 7 b' = _
      rw [x3, x4, x6, x7]
      by_cases z : b' = b
      · subst z
        rw [pk_us, pk_us, pk_us, pk_us]
        exact ⟨(hf.1 37 b' rfl).trans i1, (hf.1 38 b' rfl).trans i2, (hf.1 40 b' rfl).trans i4, (hf.1 41 b' rfl).trans i5⟩
      · rw [pk_un z, pk_un z, pk_un z, pk_un z]
        exact h1 b' (by omega)
    · show X 3 b' = _ ∧ X 4 b' = _ ∧ X 6 b' = _ ∧ X 7 b' = _
      have z : b' ≠ b := by omega
      rw [x3, x4, x6, x7, pk_un z, pk_un z, pk_un z, pk_un z]
      exact h2 b' (by omega)
theorem lp_backM {D ni : Nat} {F : Nat → Row} {Q : pmQ} {H0 : pmT} (hn : H0.1 55 40 = nI ni) (hn12 : ni ≤ 12) (hI : ∀ b, b < ni → H0.1 78 (4 * b) = nI (F b).1 ∧ H0.1 78 (4 * b + 1) = nI (F b).2.1 ∧ H0.1 78 (4 * b + 2) = nI (F b).2.2.2.1 ∧ H0.1 78 (4 * b + 3) = nI (F b).2.2.2.2) (kk : ∀ H', fr [5600, 6000, 6100] H0 H' → (∀ b, b < ni → H'.1 56 b = nI (F b).1 ∧ H'.1 56 (12 + b) = nI (F b).2.1 ∧ H'.1 60 b = nI (F b).2.2.2.1 ∧ H'.1 61 b = nI (F b).2.2.2.2) → (∀ b, ni ≤ b → b < 12 → H'.1 56 b = H0.1 56 b ∧ H'.1 56 (12 + b) = H0.1 56 (12 + b) ∧ H'.1 60 b = H0.1 60 b ∧ H'.1 61 b = H0.1 61 b) → (∀ k, 24 ≤ k → H'.1 56 k = H0.1 56 k) → Q (some (.int (H'.1 78 48))) ((pm_up (pm_up (pm_up (pm_up (pm_up H'.1 55 34 (H'.1 78 48)) 55 35 (H'.1 78 49)) 55 36 (H'.1 78 50)) 55 37 (H'.1 78 51)) 55 38 (H'.1 78 52)), H'.2)) : ∀ (m b : Nat) (H : pmT), b + m = ni → fr [5600, 6000, 6100] H0 H → (∀ b', b' < b → H.1 56 b' = nI (F b').1 ∧ H.1 56 (12 + b') = nI (F b').2.1 ∧ H.1 60 b' = nI (F b').2.2.2.1 ∧ H.1 61 b' = nI (F b').2.2.2.2) → (∀ b', b ≤ b' → b' < 12 → H.1 56 b' = H0.1 56 b' ∧ H.1 56 (12 + b') = H0.1 56 (12 + b') ∧ H.1 60 b' = H0.1 60 b' ∧ H.1 61 b' = H0.1 61 b') → (∀ k, 24 ≤ k → H.1 56 k = H0.1 56 k) → pm_RW none D M_Mo_back Q 12 [(0, .ref 55), (1, .int (nI b))] [] H
  | 0, b, H, hb, hf, h1, h2, h3 => by
    refine b_Mo_back_12 _ ?_
    rw [show H.1 55 40 = nI ni from (hf.1 55 40 rfl).trans hn]
    first | refine bt (nI_le (show ni ≤ b by omega) (by omega)) ?_ | refine bf (nI_le (show ni ≤ b by omega) (by omega)) ?_ | refine nt (nI_le (show ni ≤ b by omega) (by omega)) ?_ | refine nf (nI_le (show ni ≤ b by omega) (by omega)) ?_
    exact kk H hf (fun b' h => h1 b' (by omega)) (fun b' h => h2 b' (by omega)) h3
  | m + 1, b, H, hb, hf, h1, h2, h3 => by
    obtain ⟨i0, i1, i2, i3⟩ := ix4 (b := b) (by omega)
    obtain ⟨p1, p2, p4, p5⟩ := hI b (by omega)
    refine b_Mo_back_12 _ ?_
    rw [show H.1 55 40 = nI ni from (hf.1 55 40 rfl).trans hn, i0, i1, i2, i3, nI12, nI_1 b, nIc (show b < 2 ^ 31 by omega), nIc (show 4 * b < 2 ^ 31 by omega), nIc (show 4 * b + 1 < 2 ^ 31 by omega), nIc (show 4 * b + 2 < 2 ^ 31 by omega), nIc (show 4 * b + 3 < 2 ^ 31 by omega), nIc (show 12 + b < 2 ^ 31 by omega)]
    first | refine bt (nI_ge (show b < ni by omega) (by omega)) ?_ | refine bf (nI_ge (show b < ni by omega) (by omega)) ?_ | refine nt (nI_ge (show b < ni by omega) (by omega)) ?_ | refine nf (nI_ge (show b < ni by omega) (by omega)) ?_
    refine ⟨vp_in_nI (by omega) (by decide), vp_in_nI (by omega) (by decide), vp_in_nI (by omega) (by decide), vp_in_nI (by omega) (by decide), vp_in_nI (by omega) (by decide), vp_in_nI (by omega) (by decide), vp_in_nI (by omega) (by decide), ?_⟩
    have f2 : fr [5600, 6000, 6100] H (pm_up (pm_up (pm_up (pm_up H.1 56 b (H.1 78 (4 * b))) 56 (12 + b) (H.1 78 (4 * b + 1))) 60 b (H.1 78 (4 * b + 2))) 61 b (H.1 78 (4 * b + 3)), H.2) := (((fr.rf.up (o := 56) rfl).up (o := 56) rfl).up (o := 60) rfl).up (o := 61) rfl
    have x56 : (pm_up (pm_up (pm_up (pm_up H.1 56 b (H.1 78 (4 * b))) 56 (12 + b) (H.1 78 (4 * b + 1))) 60 b (H.1 78 (4 * b + 2))) 61 b (H.1 78 (4 * b + 3))) 56 = upd (upd (H.1 56) b (H.1 78 (4 * b))) (12 + b) (H.1 78 (4 * b + 1)) := by rw [pm_up_ne _ _ _ (by decide), pm_up_ne _ _ _ (by decide), pm_up_self, pm_up_self]
    have x60 : (pm_up (pm_up (pm_up (pm_up H.1 56 b (H.1 78 (4 * b))) 56 (12 + b) (H.1 78 (4 * b + 1))) 60 b (H.1 78 (4 * b + 2))) 61 b (H.1 78 (4 * b + 3))) 60 = upd (H.1 60) b (H.1 78 (4 * b + 2)) := by rw [pm_up_ne _ _ _ (by decide), pm_up_self, pm_up_ne _ _ _ (by decide), pm_up_ne _ _ _ (by decide)]
    have x61 : (pm_up (pm_up (pm_up (pm_up H.1 56 b (H.1 78 (4 * b))) 56 (12 + b) (H.1 78 (4 * b + 1))) 60 b (H.1 78 (4 * b + 2))) 61 b (H.1 78 (4 * b + 3))) 61 = upd (H.1 61) b (H.1 78 (4 * b + 3)) := by rw [pm_up_self, pm_up_ne _ _ _ (by decide), pm_up_ne _ _ _ (by decide), pm_up_ne _ _ _ (by decide)]
    generalize pm_up (pm_up (pm_up (pm_up H.1 56 b (H.1 78 (4 * b))) 56 (12 + b) (H.1 78 (4 * b + 1))) 60 b (H.1 78 (4 * b + 2))) 61 b (H.1 78 (4 * b + 3)) = X at f2 x56 x60 x61 ⊢
    refine lp_backM hn hn12 hI kk m (b + 1) (X, H.2) (by omega) (hf.tr f2) (fun b' hb' => ?_) (fun b' hb' hb2 => ?_) (fun k hk => ?_)
    · show X 56 b' = _ ∧ X 56 (12 + b') = _ ∧ X 60 b' = _ ∧ X 61 b' = _
      rw [x56, x60, x61]
      by_cases z : b' = b
      · subst z
        rw [pk_un (by omega), pk_us, pk_us, pk_us, pk_us]
        exact ⟨(hf.1 78 _ rfl).trans p1, (hf.1 78 _ rfl).trans p2, (hf.1 78 _ rfl).trans p4, (hf.1 78 _ rfl).trans p5⟩
      · obtain ⟨r1, r2, r3, r4⟩ := h1 b' (by omega)
        refine ⟨?_, ?_, ?_, ?_⟩
        · rw [pk_un (by omega), pk_un z]; exact r1
        · rw [pk_un (by omega), pk_un (by omega)]; exact r2
        · rw [pk_un z]; exact r3
        · rw [pk_un z]; exact r4
    · show X 56 b' = _ ∧ X 56 (12 + b') = _ ∧ X 60 b' = _ ∧ X 61 b' = _
      have z : b' ≠ b := by omega
      obtain ⟨r1, r2, r3, r4⟩ := h2 b' (by omega) hb2
      rw [x56, x60, x61]
      refine ⟨?_, ?_, ?_, ?_⟩
      · rw [pk_un (by omega), pk_un z]; exact r1
      · rw [pk_un (by omega), pk_un (by omega)]; exact r2
      · rw [pk_un z]; exact r3
      · rw [pk_un z]; exact r4
    · show X 56 k = _
      rw [x56, pk_un (by omega), pk_un (by omega)]
      exact h3 k hk
theorem p_back {D t : Nat} {H : pmT} {K : Int32 → Int32 → pmT → Prop} (hR : Rel t H) (ht : t ≤ 1000) (kk : ∀ x H', Rel (t + 1) H' → K x x H') : pm_R (D + 200) M_PW_back [.ref 0] H (pm_i fun x H1 => pm_R (D + 200) M_Mo_back [.ref 55] H1 (pm_i fun y H2 => K x y H2)) := by
  obtain ⟨hb, L, n, now, m, hN, hT, hD⟩ := id hR
  have hC := hN.cs ht
  have hM := hN.ms ht
  have hn12 := hC.2.2.1
  have hB := hT.2.2.2.1
  have hSh := hT.2.2.2.2.2.1
  have en : (nI n - (1 : Int32)).toInt = (n : Int) - 1 := nm1_t (by omega)
  have hR1 : Rel (t + 1) H := hR.mono (Nat.le_succ _)
  obtain ⟨t1, t2, t3, t4, t5, t6, t7, t8⟩ := hT
  rcases id t8 with ⟨c1, c2⟩ | ⟨c1, c2, ni, hni, c3, c4, c5, c6⟩
  · refine m_PW_back ?_
    rw [c1]
    first | refine bt (show (0 : Int32) = 0 from rfl) ?_ | refine bf (show (0 : Int32) = 0 from rfl) ?_ | refine nt (show (0 : Int32) = 0 from rfl) ?_ | refine nf (show (0 : Int32) = 0 from rfl) ?_
    refine m_Mo_back ?_
    rw [c2]
    first | refine bt (show (0 : Int32) = 0 from rfl) ?_ | refine bf (show (0 : Int32) = 0 from rfl) ?_ | refine nt (show (0 : Int32) = 0 from rfl) ?_ | refine nf (show (0 : Int32) = 0 from rfl) ?_
    exact kk _ _ hR1
  · have hex : ∀ b, ∃ r : Row, b < ni → (RV t r ∧ RIm H b r) := fun b => by
      by_cases z : b < ni
      · obtain ⟨r, q1, q2⟩ := c5 b z
        exact ⟨r, fun _ => ⟨q1, q2⟩⟩
      · exact ⟨(0, 0, 0, 0, 0), fun h => absurd h z⟩
    obtain ⟨F, hF⟩ := Classical.axiomOfChoice hex
    refine m_PW_back ?_
    rw [c1]
    first | refine bt (show ¬ (1 : Int32) = 0 by decide) ?_ | refine bf (show ¬ (1 : Int32) = 0 by decide) ?_ | refine nt (show ¬ (1 : Int32) = 0 by decide) ?_ | refine nf (show ¬ (1 : Int32) = 0 by decide) ?_
    refine m_Ha_layBack ?_
    refine lp_backC (D := D + 198) (F := F) c3 (by omega) (fun b h => (hF b h).2.1) (fun H1 fa ga gb => ?_) ni 0 H (by omega) fr.rf (fun b h => absurd h (Nat.not_lt_zero _)) (fun b h => ⟨rfl, rfl, rfl, rfl⟩)
    generalize hHc : ((va_up H1.1 35 (va_cpy (H1.1 42) (H1.1 35) 0 0 5), H1.2) : pmT) = Hc
    have fb' : fr [3500] H1 Hc := by rw [← hHc]; exact fr.rf.row (o := 35) (fun _ => rfl)
    have e35 : ∀ k, k < 5 → Hc.1 35 k = H.1 78 (48 + k) := fun k hk => by
      rw [← hHc]
      show va_up H1.1 35 (va_cpy (H1.1 42) (H1.1 35) 0 0 5) 35 k = _
      rw [va_up_self, pk_cpy_in (by omega) (by omega), fa.1 42 _ rfl, show 0 + (k - 0) = k by omega]
      exact c6 k hk
    rw [show (va_cpy (H1.1 42) (H1.1 35) 0 0 5) 0 = H.1 78 48 by rw [pk_cpy_in (by omega) (by omega), fa.1 42 _ rfl]; exact c6 0 (by decide)]
    have fC : fr [300, 400, 600, 700, 3500] H Hc := (fa.mono rfl).tr (fb'.mono rfl)
    refine m_Mo_back ?_
    rw [show Hc.1 55 39 = 1 from (fC.1 55 39 rfl).trans c2]
    first | refine bt (show ¬ (1 : Int32) = 0 by decide) ?_ | refine bf (show ¬ (1 : Int32) = 0 by decide) ?_ | refine nt (show ¬ (1 : Int32) = 0 by decide) ?_ | refine nf (show ¬ (1 : Int32) = 0 by decide) ?_
    refine lp_backM (D := D + 200) (F := F) (H0 := Hc) ((fC.1 55 40 rfl).trans c4) (by omega) (fun b h => ?_) (fun H2 f2 g1 g2 g3 => ?_) ni 0 Hc (by omega) fr.rf (fun b h => absurd h (Nat.not_lt_zero _)) (fun b _ _ => ⟨rfl, rfl, rfl, rfl⟩) (fun _ _ => rfl)
    · obtain ⟨w1, w2, w3, w4⟩ := (hF b h).2.2
      exact ⟨(fC.1 78 _ rfl).trans w1, (fC.1 78 _ rfl).trans w2, (fC.1 78 _ rfl).trans w3, (fC.1 78 _ rfl).trans w4⟩
    · have e78 : ∀ k, H2.1 78 k = H.1 78 k := fun k => (f2.1 78 k rfl).trans (fC.1 78 k rfl)
      rw [e78, e78, e78, e78, e78]
      have f3 : fr [5535, 5536, 5537, 5538, 5539] H2 (pm_up (pm_up (pm_up (pm_up (pm_up H2.1 55 34 (H.1 78 48)) 55 35 (H.1 78 49)) 55 36 (H.1 78 50)) 55 37 (H.1 78 51)) 55 38 (H.1 78 52), H2.2) := ((((fr.rf.up (o := 55) rfl).up (o := 55) rfl).up (o := 55) rfl).up (o := 55) rfl).up (o := 55) rfl
      have x55 : pm_up (pm_up (pm_up (pm_up (pm_up H2.1 55 34 (H.1 78 48)) 55 35 (H.1 78 49)) 55 36 (H.1 78 50)) 55 37 (H.1 78 51)) 55 38 (H.1 78 52) 55 = upd (upd (upd (upd (upd (H2.1 55) 34 (H.1 78 48)) 35 (H.1 78 49)) 36 (H.1 78 50)) 37 (H.1 78 51)) 38 (H.1 78 52) := by
        rw [pm_up_self, pm_up_self, pm_up_self, pm_up_self, pm_up_self]
      generalize pm_up (pm_up (pm_up (pm_up (pm_up H2.1 55 34 (H.1 78 48)) 55 35 (H.1 78 49)) 55 36 (H.1 78 50)) 55 37 (H.1 78 51)) 55 38 (H.1 78 52) = X at f3 x55 ⊢
      have x34 : ∀ k, k < 5 → X 55 (34 + k) = H.1 78 (48 + k) := fun k hk => by
        rw [x55]
        rcases (show k = 0 ∨ k = 1 ∨ k = 2 ∨ k = 3 ∨ k = 4 by omega) with y | y | y | y | y <;> subst y
        · rw [pk_un (by decide), pk_un (by decide), pk_un (by decide), pk_un (by decide), pk_us]
        · rw [pk_un (by decide), pk_un (by decide), pk_un (by decide), pk_us]
        · rw [pk_un (by decide), pk_un (by decide), pk_us]
        · rw [pk_un (by decide), pk_us]
        · rw [pk_us]
      have fM : fr [5600, 6000, 6100, 5535, 5536, 5537, 5538, 5539] Hc (X, H2.2) := (f2.mono rfl).tr (f3.mono rfl)
      have fR : fr [3500, 5600, 6000, 6100, 5535, 5536, 5537, 5538, 5539] H1 (X, H2.2) := (fb'.mono rfl).tr (fM.mono rfl)
      have fA : fr [300, 400, 600, 700, 3500, 5600, 6000, 6100, 5535, 5536, 5537, 5538, 5539] H (X, H2.2) := (fa.mono rfl).tr (fR.mono rfl)
      have h56 : ∀ k, 24 ≤ k → X 56 k = H.1 56 k := fun k hk => (f3.1 56 k rfl).trans ((g3 k hk).trans (fC.1 56 k rfl))
      obtain ⟨m1, m2, m3, m4, m5⟩ := hN.2.1.1
      refine kk _ _ ⟨hb, L, n, fun b => if b < ni then W_bk (F b) (now b) else now b, m, ⟨⟨hN.1.1.f1 fA.f1 rfl, hN.1.2.1, hN.1.2.2.f1 fA.f1 (by rw [fA.2]) rfl⟩, ⟨⟨(h56 36 (by decide)).trans m1, (h56 37 (by decide)).trans m2, (h56 38 (by decide)).trans m3, (h56 39 (by decide)).trans m4, (h56 40 (by decide)).trans m5⟩, hN.2.1.2.1, hN.2.1.2.2.f1 fA.f1 rfl⟩, (fA.1 2 0 rfl).trans hN.2.2.1, (fA.1 55 6 rfl).trans hN.2.2.2.1, hn12, fun b hb0 => ?_⟩, ⟨fun b q1 q2 => ?_, t2.f1 fA.f1 (by rw [fA.2]) rfl, t3.f1 fA.f1 rfl, t4.f1 fA.f1 rfl, t5.f1 fA.f1 rfl, fun d hd => (t6 d hd).f1 hd fA.f1 (by rw [fA.2]) rfl, fun k hk => ?_, (t8.f1 fA.f1 rfl).mono (Nat.le_succ _)⟩, hD.f1 fA.f1 rfl⟩
      · obtain ⟨⟨q1, q2, q3, q4, q5⟩, ⟨r1, r2, r3, r4, r5⟩, v1, v2, v3, v4, v5⟩ := hN.2.2.2.2.2 b hb0
        show NR (X, H2.2) b (if b < ni then W_bk (F b) (now b) else now b) ∧ PR (X, H2.2) b (if b < ni then W_bk (F b) (now b) else now b) ∧ RV (t + 1) (if b < ni then W_bk (F b) (now b) else now b)
        have n3 : X 3 b = H1.1 3 b := fR.1 3 b rfl
        have n4 : X 4 b = H1.1 4 b := fR.1 4 b rfl
        have n5 : X 5 b = H.1 5 b := fA.1 5 b rfl
        have n6 : X 6 b = H1.1 6 b := fR.1 6 b rfl
        have n7 : X 7 b = H1.1 7 b := fR.1 7 b rfl
        have k0 : X 56 b = H2.1 56 b := f3.1 56 b rfl
        have k1 : X 56 (12 + b) = H2.1 56 (12 + b) := f3.1 56 _ rfl
        have k6 : X 60 b = H2.1 60 b := f3.1 60 b rfl
        have k7 : X 61 b = H2.1 61 b := f3.1 61 b rfl
        have k2 := (h56 (24 + b) (by omega)).trans r3
        by_cases z : b < ni
        · rw [if_pos z]
          obtain ⟨u1, u2, u3, u4⟩ := ga b z
          obtain ⟨s1, s2, s3, s4⟩ := g1 b z
          obtain ⟨y1, y2, y3, y4, y5⟩ := (hF b z).1
          exact ⟨⟨n3.trans u1, n4.trans u2, n5.trans q3, n6.trans u3, n7.trans u4⟩, ⟨k0.trans s1, k1.trans s2, k2, k6.trans s3, k7.trans s4⟩, y1, y2, v3, Nat.le_succ_of_le y4, Nat.le_succ_of_le y5⟩
        · rw [if_neg z]
          obtain ⟨u1, u2, u3, u4⟩ := gb b (by omega)
          obtain ⟨s1, s2, s3, s4⟩ := g2 b (by omega) (by omega)
          exact ⟨⟨n3.trans (u1.trans q1), n4.trans (u2.trans q2), n5.trans q3, n6.trans (u3.trans q4), n7.trans (u4.trans q5)⟩, ⟨k0.trans (s1.trans ((fC.1 56 b rfl).trans r1)), k1.trans (s2.trans ((fC.1 56 _ rfl).trans r2)), k2, k6.trans (s3.trans ((fC.1 60 b rfl).trans r4)), k7.trans (s4.trans ((fC.1 61 b rfl).trans r5))⟩, v1, v2, v3, Nat.le_succ_of_le v4, Nat.le_succ_of_le v5⟩
      · obtain ⟨w1, w2, w3⟩ := t1 b q1 q2
        obtain ⟨u1, u2, u3, u4⟩ := gb b (by omega)
        exact ⟨(fA.1 5 b rfl).trans w1, (fR.1 6 b rfl).trans (u3.trans w2), (fR.1 7 b rfl).trans (u4.trans w3)⟩
      · refine (fM.1 35 k rfl).trans ?_
        rw [e35 k hk]
        exact (x34 k hk).symm
