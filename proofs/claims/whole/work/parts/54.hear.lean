/-! calls in pairs: of, all, draws, two who hear each other -/
theorem nI12 (b : Nat) : (12 : Int32) + nI b = nI (12 + b) := nI_add 12 b
/-- how likely all are -/
def W_all (now : Nat → Row) : Nat → Nat → Nat → Nat
  | 0, _, v => v
  | m + 1, b, v => if (now b).1 + (now b).2.1 = 0 then W_all now m (b + 1) (v / 2) else W_all now m (b + 1) (v * (now b).1 / ((now b).1 + (now b).2.1))
theorem all_le {v r q : Nat} (h : ¬ r + q = 0) : v * r / (r + q) ≤ v := by
  refine Nat.div_le_of_le_mul ?_
  rw [Nat.mul_comm]
  exact Nat.mul_le_mul_right _ (by omega)
theorem lp_allC {d n : Nat} {hb : Nat → Nat} {L : Law} {now : Nat → Row} {K : Int32 → pmT → Prop} {H : pmT} (hC : CS hb L n now H) : ∀ (m b v : Nat), b + m = n → v ≤ 1000000 → K (nI (W_all now m b v)) H → pm_RW none d M_PW_all (pm_i K) 5 [(0, .ref 0), (1, .int (nI v)), (2, .int (nI b))] [] H
  | 0, b, v, hb0, hv, kk => by
    have hn12 := hC.2.2.1
    refine b_PW_all_5 _ _ ?_
    rw [hC.2.1]
    first | refine bt (nI_le (show n ≤ b by omega) (show b < 2 ^ 31 by omega)) ?_ | refine bf (nI_le (show n ≤ b by omega) (show b < 2 ^ 31 by omega)) ?_ | refine nt (nI_le (show n ≤ b by omega) (show b < 2 ^ 31 by omega)) ?_ | refine nf (nI_le (show n ≤ b by omega) (show b < 2 ^ 31 by omega)) ?_
    exact kk
  | m + 1, b, v, hb0, hv, kk => by
    have hn12 := hC.2.2.1
    refine b_PW_all_5 _ _ ?_
    obtain ⟨n1, n2, n3⟩ := hC.2.2.2.1 b (by omega)
    obtain ⟨v1, v2, v3⟩ := hC.2.2.2.2 b (by omega)
    rw [hC.2.1, nIc (show b < 2 ^ 31 by omega), n1, n2, nI_add, pk_mul, show nI b + (1 : Int32) = nI (b + 1) from nI_1 b, show (nI ((now b).1 + (now b).2.1) = (0 : Int32)) = ((now b).1 + (now b).2.1 = 0) from i_eq _ 0 (by omega) (by decide)]
    first | refine bt (nI_ge (show b < n by omega) (by omega)) ?_ | refine bf (nI_ge (show b < n by omega) (by omega)) ?_ | refine nt (nI_ge (show b < n by omega) (by omega)) ?_ | refine nf (nI_ge (show b < n by omega) (by omega)) ?_
    refine ⟨vp_in_nI (by omega) (by decide), ?_⟩
    unfold W_all at kk
    by_cases c : (now b).1 + (now b).2.1 = 0
    · first | refine bt c ?_ | refine bf c ?_ | refine nt c ?_ | refine nf c ?_
      rw [if_pos c] at kk
      rw [show nI v / (2 : Int32) = nI (v / 2) from pk_div (d := 2) (by omega) (by decide) (by decide)]
      exact lp_allC hC m (b + 1) (v / 2) (by omega) (by omega) kk
    · first | refine bt c ?_ | refine bf c ?_ | refine nt c ?_ | refine nf c ?_
      rw [if_neg c] at kk
      have hm : v * (now b).1 ≤ 1000000 * 999 := Nat.mul_le_mul hv v1
      rw [pk_div (by omega) (by omega) (by omega)]
      exact lp_allC hC m (b + 1) _ (by omega) (Nat.le_trans (all_le c) hv) kk
theorem lp_allM {d n : Nat} {hb : Nat → Nat} {L : Law} {now : Nat → Row} {K : Int32 → pmT → Prop} {H : pmT} (hM : MS hb L n now H) : ∀ (m b v : Nat), b + m = n → v ≤ 1000000 → K (nI (W_all now m b v)) H → pm_RW none d M_Mo_all (pm_i K) 6 [(0, .ref 55), (1, .long (lN v)), (3, .int (nI b))] [] H
  | 0, b, v, hb0, hv, kk => by
    have hn12 := hM.2.2.1
    refine b_Mo_all_6 _ _ ?_
    rw [hM.2.1, lN_i]
    first | refine bt (nI_le (show n ≤ b by omega) (show b < 2 ^ 31 by omega)) ?_ | refine bf (nI_le (show n ≤ b by omega) (show b < 2 ^ 31 by omega)) ?_ | refine nt (nI_le (show n ≤ b by omega) (show b < 2 ^ 31 by omega)) ?_ | refine nf (nI_le (show n ≤ b by omega) (show b < 2 ^ 31 by omega)) ?_
    exact kk
  | m + 1, b, v, hb0, hv, kk => by
    have hn12 := hM.2.2.1
    refine b_Mo_all_6 _ _ ?_
    obtain ⟨n1, n2, n3⟩ := hM.2.2.2.1 b (by omega)
    obtain ⟨v1, v2, v3⟩ := hM.2.2.2.2 b (by omega)
    rw [hM.2.1, nI12, nIc (show b < 2 ^ 31 by omega), nIc (show 12 + b < 2 ^ 31 by omega), n1, n2, nI_add, nI_l (show (now b).1 < 2 ^ 31 by omega), nI_l (show (now b).1 + (now b).2.1 < 2 ^ 31 by omega), lN_mul, show nI b + (1 : Int32) = nI (b + 1) from nI_1 b, show (nI ((now b).1 + (now b).2.1) = (0 : Int32)) = ((now b).1 + (now b).2.1 = 0) from i_eq _ 0 (by omega) (by decide)]
    first | refine bt (nI_ge (show b < n by omega) (by omega)) ?_ | refine bf (nI_ge (show b < n by omega) (by omega)) ?_ | refine nt (nI_ge (show b < n by omega) (by omega)) ?_ | refine nf (nI_ge (show b < n by omega) (by omega)) ?_
    refine ⟨vp_in_nI (by omega) (by decide), vp_in_nI (by omega) (by decide), ?_⟩
    unfold W_all at kk
    by_cases c : (now b).1 + (now b).2.1 = 0
    · first | refine bt c ?_ | refine bf c ?_ | refine nt c ?_ | refine nf c ?_
      rw [if_pos c] at kk
      rw [show lN v / (2 : Int64) = lN (v / 2) from pk_lDiv (b := 2) (by omega) (by decide) (by decide)]
      exact lp_allM hM m (b + 1) (v / 2) (by omega) (by omega) kk
    · first | refine bt c ?_ | refine bf c ?_ | refine nt c ?_ | refine nf c ?_
      rw [if_neg c] at kk
      have hm : v * (now b).1 ≤ 1000000 * 999 := Nat.mul_le_mul hv v1
      rw [pk_lDiv (by omega) (by omega) (by omega)]
      refine ⟨fun z => ?_, lp_allM hM m (b + 1) _ (by omega) (Nat.le_trans (all_le c) hv) kk⟩
      have := (pk_lEQ (a := (now b).1 + (now b).2.1) (b := 0) (by omega) (by decide)).mp z
      exact c this
theorem p_all {D t : Nat} {H : pmT} {K : Int32 → Int32 → pmT → Prop} (hR : Rel t H) (ht : t ≤ 1000) (kk : ∀ x H', Rel (t + 1) H' → K x x H') : pm_R (D + 200) M_PW_all [.ref 0] H (pm_i fun x H1 => pm_R (D + 200) M_Mo_all [.ref 55] H1 (pm_i fun y H2 => K x y H2)) := by
  obtain ⟨hb, L, n, now, m, hN, hT, hD⟩ := id hR
  have hC := hN.cs ht
  have hM := hN.ms ht
  have hn12 := hC.2.2.1
  have hB := hT.2.2.2.1
  have hSh := hT.2.2.2.2.2.1
  have en : (nI n - (1 : Int32)).toInt = (n : Int) - 1 := nm1_t (by omega)
  have hR1 : Rel (t + 1) H := hR.mono (Nat.le_succ _)
  refine m_PW_all ?_
  refine lp_allC hC n 0 1000000 (by omega) (by decide) ?_
  refine m_Mo_all ?_
  exact lp_allM hM n 0 1000000 (by omega) (by decide) (kk _ _ hR1)
/-! draws -/
def W_sh (z : Int32) : Int32 := (z.toUInt32 >>> ((8 : Int32).toUInt32 &&& Int32.toUInt32 31)).toInt32
def W_nx (z : Int32) : Int32 := z * (1103515245 : Int32) + (12345 : Int32)
def W_dr (r q z : Int32) : Int32 := if r + q = 0 then (if (1 : Int32) ≤ W_sh z - W_sh z / (2 : Int32) * (2 : Int32) then 0 else 1) else (if r ≤ W_sh z - W_sh z / (r + q) * (r + q) then 0 else 1)
/-- one lesson drawn: the seed then, how many came right -/
def W_ds (now : Nat → Row) : Nat → Nat → Int32 → Int32 → Int32 × Int32
  | 0, _, z, c => (z, c)
  | m + 1, b, z, c => W_ds now m (b + 1) (W_nx z) (c + W_dr (nI (now b).1) (nI (now b).2.1) (W_nx z))
def W_dn (now : Nat → Row) (n : Nat) : Nat → Int32 → Int32 → Int32 → Int32 × Int32
  | 0, _, u, v => (u, v)
  | m + 1, z, u, v => W_dn now n m (W_ds now n 0 z 0).1 (u + (if (W_ds now n 0 z 0).2 = nI n then 1 else 0)) (v + (W_ds now n 0 z 0).2)
theorem lp_d1C {d n N l w : Nat} {hb : Nat → Nat} {L : Law} {now : Nat → Row} {K : Int32 → pmT → Prop} {H : pmT} (hC : CS hb L n now H) (u v : Int32) (R : Int32 × Int32) (kk : pm_RW none (d + 1) M_PW_drawn (pm_i K) 33 [(0, .ref 0), (2, .int (nI N)), (3, .int (nI w)), (4, .int R.1), (5, .int (u + (if R.2 = nI n then 1 else 0))), (6, .int (v + R.2)), (7, .int (nI (l + 1)))] [] H) : ∀ (m b : Nat) (z c : Int32), b + m = n → W_ds now m b z c = R → pm_RW none (d + 1) M_PW_drawn (pm_i K) 45 [(0, .ref 0), (2, .int (nI N)), (3, .int (nI w)), (4, .int z), (5, .int u), (6, .int v), (7, .int (nI l)), (8, .int c), (9, .int (nI b))] [] H
  | 0, b, z, c, hb0, e => by
    have hn12 := hC.2.2.1
    refine b_PW_drawn_45 _ _ _ _ _ _ _ _ ?_
    rw [hC.2.1]
    first | refine bt (nI_le (show n ≤ b by omega) (show b < 2 ^ 31 by omega)) ?_ | refine bf (nI_le (show n ≤ b by omega) (show b < 2 ^ 31 by omega)) ?_ | refine nt (nI_le (show n ≤ b by omega) (show b < 2 ^ 31 by omega)) ?_ | refine nf (nI_le (show n ≤ b by omega) (show b < 2 ^ 31 by omega)) ?_
    rw [← e] at kk
    have kk : pm_RW none (d + 1) M_PW_drawn (pm_i K) 33 [(0, .ref 0), (2, .int (nI N)), (3, .int (nI w)), (4, .int z), (5, .int (u + (if c = nI n then 1 else 0))), (6, .int (v + c)), (7, .int (nI (l + 1)))] [] H := kk
    rw [show nI l + (1 : Int32) = nI (l + 1) from nI_1 l]
    by_cases c0 : c = nI n
    · first | refine bt c0 ?_ | refine bf c0 ?_ | refine nt c0 ?_ | refine nf c0 ?_
      rw [if_pos c0] at kk; exact kk
    · first | refine bt c0 ?_ | refine bf c0 ?_ | refine nt c0 ?_ | refine nf c0 ?_
      rw [if_neg c0] at kk; exact kk
  | m + 1, b, z, c, hb0, e => by
    have hn12 := hC.2.2.1
    refine b_PW_drawn_45 _ _ _ _ _ _ _ _ ?_
    rw [hC.2.1]
    first | refine bt (nI_ge (show b < n by omega) (by omega)) ?_ | refine bf (nI_ge (show b < n by omega) (by omega)) ?_ | refine nt (nI_ge (show b < n by omega) (by omega)) ?_ | refine nf (nI_ge (show b < n by omega) (by omega)) ?_
    obtain ⟨n1, n2, n3⟩ := hC.2.2.2.1 b (by omega)
    refine m_Ha_drawnRight _ _ ?_
    rw [nIc (show b < 2 ^ 31 by omega), n1, n2, show nI b + (1 : Int32) = nI (b + 1) from nI_1 b]
    refine ⟨vp_in_nI (by omega) (by decide), ?_⟩
    have go : ∀ x : Int32, x = W_dr (nI (now b).1) (nI (now b).2.1) (W_nx z) → pm_RW none (d + 1) M_PW_drawn (pm_i K) 45 [(0, .ref 0), (2, .int (nI N)), (3, .int (nI w)), (4, .int (W_nx z)), (5, .int u), (6, .int v), (7, .int (nI l)), (8, .int (c + x)), (9, .int (nI (b + 1)))] [] H := fun x ex => by
      rw [ex]
      exact lp_d1C hC u v R kk m (b + 1) _ _ (by omega) e
    refine ⟨fun x1 => ⟨fun x2 => go 0 ?_, fun x2 => go 1 ?_⟩, fun x1 => ⟨fun x2 => go 0 ?_, fun x2 => go 1 ?_⟩⟩
    · unfold W_dr; rw [if_neg x1]; exact (if_pos x2).symm
    · unfold W_dr; rw [if_neg x1]; exact (if_neg x2).symm
    · unfold W_dr; rw [if_pos x1]; exact (if_pos x2).symm
    · unfold W_dr; rw [if_pos x1]; exact (if_neg x2).symm
theorem lp_d1M {d n N l w : Nat} {hb : Nat → Nat} {L : Law} {now : Nat → Row} {K : Int32 → pmT → Prop} {H : pmT} (hM : MS hb L n now H) (u v : Int32) (R : Int32 × Int32) (kk : pm_RW none (d + 1) M_Mo_drawn (pm_i K) 36 [(0, .ref 55), (2, .int (nI N)), (3, .int (nI w)), (4, .int R.1), (5, .int (u + (if R.2 = nI n then 1 else 0))), (6, .int (v + R.2)), (7, .int (nI (l + 1)))] [] H) : ∀ (m b : Nat) (z c : Int32), b + m = n → W_ds now m b z c = R → pm_RW none (d + 1) M_Mo_drawn (pm_i K) 48 [(0, .ref 55), (2, .int (nI N)), (3, .int (nI w)), (4, .int z), (5, .int u), (6, .int v), (7, .int (nI l)), (8, .int c), (9, .int (nI b))] [] H
  | 0, b, z, c, hb0, e => by
    have hn12 := hM.2.2.1
    refine b_Mo_drawn_48 _ _ _ _ _ _ _ _ ?_
    rw [hM.2.1]
    first | refine bt (nI_le (show n ≤ b by omega) (show b < 2 ^ 31 by omega)) ?_ | refine bf (nI_le (show n ≤ b by omega) (show b < 2 ^ 31 by omega)) ?_ | refine nt (nI_le (show n ≤ b by omega) (show b < 2 ^ 31 by omega)) ?_ | refine nf (nI_le (show n ≤ b by omega) (show b < 2 ^ 31 by omega)) ?_
    rw [← e] at kk
    have kk : pm_RW none (d + 1) M_Mo_drawn (pm_i K) 36 [(0, .ref 55), (2, .int (nI N)), (3, .int (nI w)), (4, .int z), (5, .int (u + (if c = nI n then 1 else 0))), (6, .int (v + c)), (7, .int (nI (l + 1)))] [] H := kk
    rw [show nI l + (1 : Int32) = nI (l + 1) from nI_1 l]
    by_cases c0 : c = nI n
    · first | refine bt c0 ?_ | refine bf c0 ?_ | refine nt c0 ?_ | refine nf c0 ?_
      rw [if_pos c0] at kk; exact kk
    · first | refine bt c0 ?_ | refine bf c0 ?_ | refine nt c0 ?_ | refine nf c0 ?_
      rw [if_neg c0] at kk; exact kk
  | m + 1, b, z, c, hb0, e => by
    have hn12 := hM.2.2.1
    refine b_Mo_drawn_48 _ _ _ _ _ _ _ _ ?_
    rw [hM.2.1]
    first | refine bt (nI_ge (show b < n by omega) (by omega)) ?_ | refine bf (nI_ge (show b < n by omega) (by omega)) ?_ | refine nt (nI_ge (show b < n by omega) (by omega)) ?_ | refine nf (nI_ge (show b < n by omega) (by omega)) ?_
    obtain ⟨n1, n2, n3⟩ := hM.2.2.2.1 b (by omega)
    rw [nI12, nIc (show b < 2 ^ 31 by omega), nIc (show 12 + b < 2 ^ 31 by omega), n1, n2, show nI b + (1 : Int32) = nI (b + 1) from nI_1 b]
    refine ⟨vp_in_nI (by omega) (by decide), vp_in_nI (by omega) (by decide), ?_⟩
    have go : ∀ x : Int32, x = W_dr (nI (now b).1) (nI (now b).2.1) (W_nx z) → pm_RW none (d + 1) M_Mo_drawn (pm_i K) 48 [(0, .ref 55), (2, .int (nI N)), (3, .int (nI w)), (4, .int (W_nx z)), (5, .int u), (6, .int v), (7, .int (nI l)), (8, .int (c + x)), (9, .int (nI (b + 1)))] [] H := fun x ex => by
      rw [ex]
      exact lp_d1M hM u v R kk m (b + 1) _ _ (by omega) e
    refine ⟨fun x1 => ⟨fun x2 => go 0 ?_, fun x2 => go 1 ?_⟩, fun x1 => ⟨fun x2 => go 0 ?_, fun x2 => go 1 ?_⟩⟩
    · unfold W_dr; rw [if_neg x1]; exact (if_pos x2).symm
    · unfold W_dr; rw [if_neg x1]; exact (if_neg x2).symm
    · unfold W_dr; rw [if_pos x1]; exact (if_pos x2).symm
    · unfold W_dr; rw [if_pos x1]; exact (if_neg x2).symm
theorem lp_dnC {d n N w : Nat} {hb : Nat → Nat} {L : Law} {now : Nat → Row} {K : Int32 → pmT → Prop} {H : pmT} (hC : CS hb L n now H) (hw : w ≤ 1) (hN : N ≤ 30) : ∀ (m l : Nat) (z u v : Int32), l + m = N → K (if w = 0 then (W_dn now n m z u v).1 else (W_dn now n m z u v).2) H → pm_RW none (d + 1) M_PW_drawn (pm_i K) 33 [(0, .ref 0), (2, .int (nI N)), (3, .int (nI w)), (4, .int z), (5, .int u), (6, .int v), (7, .int (nI l))] [] H
  | 0, l, z, u, v, hl, kk => by
    refine b_PW_drawn_33 _ _ _ _ _ _ ?_
    first | refine bt (nI_le (show N ≤ l by omega) (show l < 2 ^ 31 by omega)) ?_ | refine bf (nI_le (show N ≤ l by omega) (show l < 2 ^ 31 by omega)) ?_ | refine nt (nI_le (show N ≤ l by omega) (show l < 2 ^ 31 by omega)) ?_ | refine nf (nI_le (show N ≤ l by omega) (show l < 2 ^ 31 by omega)) ?_
    rw [show (nI w = (0 : Int32)) = (w = 0) from i_eq w 0 (by omega) (by decide)]
    by_cases c : w = 0
    · first | refine bt c ?_ | refine bf c ?_ | refine nt c ?_ | refine nf c ?_
      rw [if_pos c] at kk; exact kk
    · first | refine bt c ?_ | refine bf c ?_ | refine nt c ?_ | refine nf c ?_
      rw [if_neg c] at kk; exact kk
  | m + 1, l, z, u, v, hl, kk => by
    refine b_PW_drawn_33 _ _ _ _ _ _ ?_
    first | refine bt (nI_ge (show l < N by omega) (by omega)) ?_ | refine bf (nI_ge (show l < N by omega) (by omega)) ?_ | refine nt (nI_ge (show l < N by omega) (by omega)) ?_ | refine nf (nI_ge (show l < N by omega) (by omega)) ?_
    exact lp_d1C hC u v (W_ds now n 0 z 0) (lp_dnC hC hw hN m (l + 1) _ _ _ (by omega) kk) n 0 z 0 (by omega) rfl
theorem lp_dnM {d n N w : Nat} {hb : Nat → Nat} {L : Law} {now : Nat → Row} {K : Int32 → pmT → Prop} {H : pmT} (hM : MS hb L n now H) (hw : w ≤ 1) (hN : N ≤ 30) : ∀ (m l : Nat) (z u v : Int32), l + m = N → K (if w = 0 then (W_dn now n m z u v).1 else (W_dn now n m z u v).2) H → pm_RW none (d + 1) M_Mo_drawn (pm_i K) 36 [(0, .ref 55), (2, .int (nI N)), (3, .int (nI w)), (4, .int z), (5, .int u), (6, .int v), (7, .int (nI l))] [] H
  | 0, l, z, u, v, hl, kk => by
    refine b_Mo_drawn_36 _ _ _ _ _ _ ?_
    first | refine bt (nI_le (show N ≤ l by omega) (show l < 2 ^ 31 by omega)) ?_ | refine bf (nI_le (show N ≤ l by omega) (show l < 2 ^ 31 by omega)) ?_ | refine nt (nI_le (show N ≤ l by omega) (show l < 2 ^ 31 by omega)) ?_ | refine nf (nI_le (show N ≤ l by omega) (show l < 2 ^ 31 by omega)) ?_
    rw [show (nI w = (0 : Int32)) = (w = 0) from i_eq w 0 (by omega) (by decide)]
    by_cases c : w = 0
    · first | refine bt c ?_ | refine bf c ?_ | refine nt c ?_ | refine nf c ?_
      rw [if_pos c] at kk; exact kk
    · first | refine bt c ?_ | refine bf c ?_ | refine nt c ?_ | refine nf c ?_
      rw [if_neg c] at kk; exact kk
  | m + 1, l, z, u, v, hl, kk => by
    refine b_Mo_drawn_36 _ _ _ _ _ _ ?_
    first | refine bt (nI_ge (show l < N by omega) (by omega)) ?_ | refine bf (nI_ge (show l < N by omega) (by omega)) ?_ | refine nt (nI_ge (show l < N by omega) (by omega)) ?_ | refine nf (nI_ge (show l < N by omega) (by omega)) ?_
    exact lp_d1M hM u v (W_ds now n 0 z 0) (lp_dnM hM hw hN m (l + 1) _ _ _ (by omega) kk) n 0 z 0 (by omega) rfl
theorem p_drawn {D t : Nat} {H : pmT} {K : Int32 → Int32 → pmT → Prop} (a1 a2 a3 : Int32) (hR : Rel t H) (ht : t ≤ 1000) (kk : ∀ x H', Rel (t + 1) H' → K x x H') : pm_R (D + 200) M_PW_drawn [.ref 0, .int a1, .int a2, .int a3] H (pm_i fun x H1 => pm_R (D + 200) M_Mo_drawn [.ref 55, .int a1, .int a2, .int a3] H1 (pm_i fun y H2 => K x y H2)) := by
  obtain ⟨hb, L, n, now, m, hN, hT, hD⟩ := id hR
  have hC := hN.cs ht
  have hM := hN.ms ht
  have hn12 := hC.2.2.1
  have hB := hT.2.2.2.1
  have hSh := hT.2.2.2.2.2.1
  have en : (nI n - (1 : Int32)).toInt = (n : Int) - 1 := nm1_t (by omega)
  have hR1 : Rel (t + 1) H := hR.mono (Nat.le_succ _)
  by_cases hok : (1 ≤ a2.toInt ∧ a2.toInt ≤ 30) ∧ (0 ≤ a3.toInt ∧ a3.toInt ≤ 1)
  · obtain ⟨⟨p1, p2⟩, p3, p4⟩ := hok
    obtain ⟨N, _, rfl, eN⟩ := nI_tI a2 (by omega)
    obtain ⟨w, _, rfl, es⟩ := nI_tI a3 p3
    have w0 : ¬ nI w < (0 : Int32) := nI_pos (by omega)
    have w1 : nI w ≤ (1 : Int32) := nI_le (show w ≤ 1 by omega) (by decide)
    have w2 : ¬ lg_cmp (nI w).toInt64 (0 : Int64) < 0 := l_0 (by omega)
    have w3 : ¬ 0 < lg_cmp (nI w).toInt64 (1 : Int64) := l_c (by omega) (by show (w : Int) ≤ 1; omega)
    have w4 : (nI w).toNatClampNeg = w := nIc (by omega)
    have c1 : ¬ nI N < (1 : Int32) := nI_nlt (show 1 ≤ N by omega) (by omega)
    have c2 : nI N ≤ (30 : Int32) := nI_le (show N ≤ 30 by omega) (by decide)
    have c3 : ¬ lg_cmp (nI N).toInt64 (1 : Int64) < 0 := by
      rw [lgl, i2l_t, eN]
      show ¬ (N : Int) < 1
      omega
    have c4 : ¬ 0 < lg_cmp (nI N).toInt64 (30 : Int64) := l_c (by omega) (by show (N : Int) ≤ 30; omega)
    refine m_PW_drawn _ _ _ ?_
    repeat (first | with_reducible refine bt c1 ?_ | with_reducible refine bf c1 ?_ | with_reducible refine nt c1 ?_ | with_reducible refine nf c1 ?_ | with_reducible refine And.intro c1 ?_ | with_reducible refine bt c2 ?_ | with_reducible refine bf c2 ?_ | with_reducible refine nt c2 ?_ | with_reducible refine nf c2 ?_ | with_reducible refine And.intro c2 ?_ | with_reducible refine bt w0 ?_ | with_reducible refine bf w0 ?_ | with_reducible refine nt w0 ?_ | with_reducible refine nf w0 ?_ | with_reducible refine And.intro w0 ?_ | with_reducible refine bt w1 ?_ | with_reducible refine bf w1 ?_ | with_reducible refine nt w1 ?_ | with_reducible refine nf w1 ?_ | with_reducible refine And.intro w1 ?_)
    refine lp_dnC hC (show w ≤ 1 by omega) (show N ≤ 30 by omega) N 0 a1 0 0 (by omega) ?_
    refine m_Mo_drawn _ _ _ ?_
    repeat (first | with_reducible refine bt c3 ?_ | with_reducible refine bf c3 ?_ | with_reducible refine nt c3 ?_ | with_reducible refine nf c3 ?_ | with_reducible refine And.intro c3 ?_ | with_reducible refine bt c4 ?_ | with_reducible refine bf c4 ?_ | with_reducible refine nt c4 ?_ | with_reducible refine nf c4 ?_ | with_reducible refine And.intro c4 ?_ | with_reducible refine bt w2 ?_ | with_reducible refine bf w2 ?_ | with_reducible refine nt w2 ?_ | with_reducible refine nf w2 ?_ | with_reducible refine And.intro w2 ?_ | with_reducible refine bt w3 ?_ | with_reducible refine bf w3 ?_ | with_reducible refine nt w3 ?_ | with_reducible refine nf w3 ?_ | with_reducible refine And.intro w3 ?_)
    exact lp_dnM hM (show w ≤ 1 by omega) (show N ≤ 30 by omega) N 0 a1 0 0 (by omega) (kk _ _ hR1)
  · have hm : pm_R (D + 200) M_Mo_drawn [.ref 55, .int a1, .int a2, .int a3] H (pm_i fun y H2 => K (-1) y H2) := by
      refine m_Mo_drawn _ _ _ ?_
      try rw [hM.2.1]
      ((try (simp only [lgl, lgg, i2l_t, u32_0, u64_0, u32_1, u64_1, u32_2, u64_2, u32_3, u64_3, u32_4, u64_4, u32_5, u64_5, u32_7, u64_7, u32_12, u64_12, u32_24, u64_24, u32_30, u64_30, u32_49, u64_49, u32_60, u64_60, u32_99, u64_99, u32_255, u64_255, u32_999, u64_999, en])); (try (simp only [t_lt, t_le, u32_0, u64_0, u32_1, u64_1, u32_2, u64_2, u32_3, u64_3, u32_4, u64_4, u32_5, u64_5, u32_7, u64_7, u32_12, u64_12, u32_24, u64_24, u32_30, u64_30, u32_49, u64_49, u32_60, u64_60, u32_99, u64_99, u32_255, u64_255, u32_999, u64_999, en])); repeat' (first | with_reducible intro hh | with_reducible apply And.intro | exact vp_in_iff.mpr (by omega) | (exfalso; omega) | exact kk _ _ hR1))
    refine m_PW_drawn _ _ _ ?_
    try rw [hC.2.1]
    ((try (simp only [lgl, lgg, i2l_t, u32_0, u64_0, u32_1, u64_1, u32_2, u64_2, u32_3, u64_3, u32_4, u64_4, u32_5, u64_5, u32_7, u64_7, u32_12, u64_12, u32_24, u64_24, u32_30, u64_30, u32_49, u64_49, u32_60, u64_60, u32_99, u64_99, u32_255, u64_255, u32_999, u64_999, en])); (try (simp only [t_lt, t_le, u32_0, u64_0, u32_1, u64_1, u32_2, u64_2, u32_3, u64_3, u32_4, u64_4, u32_5, u64_5, u32_7, u64_7, u32_12, u64_12, u32_24, u64_24, u32_30, u64_30, u32_49, u64_49, u32_60, u64_60, u32_99, u64_99, u32_255, u64_255, u32_999, u64_999, en])); repeat' (first | with_reducible intro hh | with_reducible apply And.intro | exact vp_in_iff.mpr (by omega) | (exfalso; omega) | exact hm))
/-! two who hear each other: the reference -/
def TW (H : pmT) (k : Nat) (r : Row) : Prop := H.1 72 k = nI r.1 ∧ H.1 73 k = nI r.2.1 ∧ H.1 74 k = nI r.2.2.2.1 ∧ H.1 75 k = nI r.2.2.2.2
theorem TW.fr {S : List Nat} {H H' : pmT} {k : Nat} {r : Row} (h : TW H k r) (a : fr S H H') (g : nin S [7200, 7300, 7400, 7500] = true) : TW H' k r :=
  ⟨(a.f1.at g (show 7200 ∈ _ by decide)).trans h.1, (a.f1.at g (show 7300 ∈ _ by decide)).trans h.2.1, (a.f1.at g (show 7400 ∈ _ by decide)).trans h.2.2.1, (a.f1.at g (show 7500 ∈ _ by decide)).trans h.2.2.2⟩
abbrev R4c : List Nat := [6500, 6600, 6700, 6800]
theorem loadM {H : pmT} {k b : Nat} {r : Row} (h : TW H k r) (hm : H.1 56 (24 + b) = nI r.2.2.1) : MR (pm_up (pm_up (pm_up (pm_up H.1 65 b (H.1 72 k)) 66 b (H.1 73 k)) 67 b (H.1 74 k)) 68 b (H.1 75 k), H.2) b r ∧ fb [] R4 b H (pm_up (pm_up (pm_up (pm_up H.1 65 b (H.1 72 k)) 66 b (H.1 73 k)) 67 b (H.1 74 k)) 68 b (H.1 75 k), H.2) := by
  have u0 : ∀ (h : Nat → Nat → Int32) (o : Nat) (x : Int32), pm_up h o b x o b = x := fun h o x => by rw [pm_up_self]; exact pk_us
  obtain ⟨h1, h2, h3, h4⟩ := h
  refine ⟨⟨(u0 _ 65 _).trans h1, (u0 _ 66 _).trans h2, hm, (u0 _ 67 _).trans h3, (u0 _ 68 _).trans h4⟩, (((fb.rf.upR (o := 65) rfl).upR (o := 66) rfl).upR (o := 67) rfl).upR (o := 68) rfl⟩
abbrev JH : List Nat := [5514, 5515, 5516, 5517, 5518, 6400, 6500, 6600, 6700, 6800, 7200, 7300, 7400, 7500, 7600, 7700]
/-- told of both: how it came, what it gave -/
def TI (H : pmT) (k : Nat) (c v : Nat) : Prop := H.1 76 k = nI c ∧ H.1 77 k = nI v
theorem TI.fr {S : List Nat} {H H' : pmT} {k c v : Nat} (h : TI H k c v) (a : fr S H H') (g : nin S [7600, 7700] = true) : TI H' k c v :=
  ⟨(a.f1.at g (show 7600 ∈ _ by decide)).trans h.1, (a.f1.at g (show 7700 ∈ _ by decide)).trans h.2⟩
theorem c_hear1 {d b k k0 : Nat} {hb : Nat → Nat} {L : Law} {r : Row} {H : pmT} {C : pmT → Prop} (hX : MX hb L H) (hb12 : b < 12) (hk : k < 2) (hW : TW H k r) (hm : H.1 56 (24 + b) = nI r.2.2.1) (hr : RV k0 r) (hk0 : k0 < 2 ^ 20) (kk : ∀ H', fr JH H H' → TI H' k (W_came hb r 0) (W_give L r 0 (W_came hb r 0)) → (∀ k' r', TW H k' r' → TW H' k' r') → (∀ k' c v, ¬ k' = k → TI H k' c v → TI H' k' c v) → C H') : pm_R (d + 72) M_Mo_comesRight [.ref 55, .int (nI b), .int (0 : Int32)] ((pm_up (pm_up (pm_up (pm_up H.1 65 b (H.1 72 k)) 66 b (H.1 73 k)) 67 b (H.1 74 k)) 68 b (H.1 75 k)), H.2) (pm_i (fun x6 H5 => (x6 = 0 ∨ x6 = 1) ∧ (pm_R (d + 72) M_Mo_addsFor [.ref 55, .int (nI b), .int (0 : Int32), .int ((upd (H5.1 76) k x6) k)] ((pm_up H5.1 76 k x6), H5.2) (pm_i (fun x8 H7 => C ((pm_up H7.1 77 k x8), H7.2)))))) := by
  obtain ⟨hR, f1⟩ := loadM hW hm
  have f1' : fr JH H _ := f1.fr rfl rfl
  have f1q : fr R4c H _ := f1.fr rfl rfl
  have hX1 := hX.fr f1' rfl rfl
  refine c_comesM (s := 0) hX1.1 hX1.2.1 hR hr hb12 (by decide) ?_
  have hcl := W_came_le hb r 0
  have ec01 : nI (W_came hb r 0) = 0 ∨ nI (W_came hb r 0) = 1 := by
    rcases (show W_came hb r 0 = 0 ∨ W_came hb r 0 = 1 by omega) with e | e <;> rw [e]
    · exact Or.inl rfl
    · exact Or.inr rfl
  refine ⟨ec01, ?_⟩
  rw [pk_us]
  generalize hH1 : ((pm_up (pm_up (pm_up (pm_up H.1 65 b (H.1 72 k)) 66 b (H.1 73 k)) 67 b (H.1 74 k)) 68 b (H.1 75 k)), H.2) = H1 at hR f1 f1' f1q hX1
  have f2 : fr [7600] H1 (pm_up H1.1 76 k (nI (W_came hb r 0)), H1.2) := fr.rf.up rfl
  refine c_addsM (s := 0) (d := d + 1) (hX1.fr f2 rfl rfl) (hR.fr f2 rfl) hr hk0 hb12 (by decide) hcl (fun H2 f3 => ?_)
  have f4 : fr [7700] H2 (pm_up H2.1 77 k (nI (W_give L r 0 (W_came hb r 0))), H2.2) := fr.rf.up rfl
  refine kk _ (f1'.tr ((f2.mono rfl).tr ((f3.mono rfl).tr (f4.mono rfl)))) ⟨?_, ?_⟩ (fun k' r' h => (((h.fr f1q rfl).fr f2 rfl).fr f3 rfl).fr f4 rfl) (fun k' c v hne h => ?_)
  · rw [f4.1 76 k rfl, f3.1 76 k rfl]
    show pm_up H1.1 76 k _ 76 k = _
    rw [pm_up_self, pk_us]
  · show pm_up H2.1 77 k _ 77 k = _
    rw [pm_up_self, pk_us]
  · refine ⟨?_, ?_⟩
    · rw [f4.1 76 k' rfl, f3.1 76 k' rfl]
      show pm_up H1.1 76 k _ 76 k' = _
      rw [pm_up_self, pk_un hne, f1q.1 76 k' rfl]
      exact h.1
    · show pm_up H2.1 77 k _ 77 k' = _
      rw [pm_up_self, pk_un hne, f3.1 77 k' rfl, f2.1 77 k' rfl, f1q.1 77 k' rfl]
      exact h.2
theorem c_hear2 {d b k k' k0 c v c2 v2 f : Nat} {hb : Nat → Nat} {L : Law} {r : Row} {H : pmT} {C : pmT → Prop} (hX : MX hb L H) (ef : H.1 55 23 = nI f) (hf12 : f ≤ 12) (hb12 : b < 12) (hk : k < 2) (hk' : k' < 2) (hne : ¬ k' = k) (hW : TW H k r) (hm : H.1 56 (24 + b) = nI r.2.2.1) (hr : RV k0 r) (hk0 : k0 < 2 ^ 19) (hc : c ≤ 1) (hv : v ≤ 99) (hc2 : c2 ≤ 1) (hv2 : v2 ≤ 99) (hI : TI H k c v) (hI2 : TI H k' c2 v2) (kk : ∀ H', fr JH H H' → TW H' k (W_sleep hb (W_learn (W_count (W_learn r c v) c) c2 (v2 / 2)) f) → (∀ r', TW H k' r' → TW H' k' r') → TI H' k c v → TI H' k' c2 v2 → C H') : pm_R (d + 72) M_Mo_gains [.ref 55, .int (nI b), .int (H.1 76 k), .int (H.1 77 k)] ((pm_up (pm_up (pm_up (pm_up H.1 65 b (H.1 72 k)) 66 b (H.1 73 k)) 67 b (H.1 74 k)) 68 b (H.1 75 k)), H.2) (pm_v (fun H6 => ((H6.1 76 k) = 0 → vp_in (nI k') 2 ∧ (pm_R (d + 72) M_Mo_gains [.ref 55, .int (nI b), .int (H6.1 76 k'), .int ((H6.1 77 k') / (2 : Int32))] ((pm_up (pm_up H6.1 67 b ((H6.1 67 b) + (1 : Int32))) 68 b ((H6.1 68 b) + (0 : Int32))), H6.2) (pm_v (fun H7 => pm_R (d + 72) M_Mo_nightOf [.ref 55, .int (nI b)] H7 (pm_v (fun H8 => C ((pm_up (pm_up (pm_up (pm_up H8.1 72 k (H8.1 65 b)) 73 k (H8.1 66 b)) 74 k (H8.1 67 b)) 75 k (H8.1 68 b)), H8.2))))))) ∧ (¬ (H6.1 76 k) = 0 → vp_in (nI k') 2 ∧ (pm_R (d + 72) M_Mo_gains [.ref 55, .int (nI b), .int (H6.1 76 k'), .int ((H6.1 77 k') / (2 : Int32))] ((pm_up (pm_up H6.1 67 b ((H6.1 67 b) + (1 : Int32))) 68 b ((H6.1 68 b) + (1 : Int32))), H6.2) (pm_v (fun H9 => pm_R (d + 72) M_Mo_nightOf [.ref 55, .int (nI b)] H9 (pm_v (fun H10 => C ((pm_up (pm_up (pm_up (pm_up H10.1 72 k (H10.1 65 b)) 73 k (H10.1 66 b)) 74 k (H10.1 67 b)) 75 k (H10.1 68 b)), H10.2))))))))) := by
  obtain ⟨hR, f1⟩ := loadM hW hm
  have f1' : fr JH H _ := f1.fr rfl rfl
  have f1q : fr R4c H _ := f1.fr rfl rfl
  have hX1 := hX.fr f1' rfl rfl
  rw [hI.1, hI.2]
  generalize hH1 : ((pm_up (pm_up (pm_up (pm_up H.1 65 b (H.1 72 k)) 66 b (H.1 73 k)) 67 b (H.1 74 k)) 68 b (H.1 75 k)), H.2) = H1 at hR f1 f1' f1q hX1
  refine c_gainsM hR hr hb12 hc (by omega) (fun H2 f2 hR2 => ?_)
  have f2q : fr R4c H1 H2 := f2.fr rfl rfl
  have hr2 := RV_learn hr c v
  have hI3 := (hI.fr f1q rfl).fr f2q rfl
  have hI4 := (hI2.fr f1q rfl).fr f2q rfl
  obtain ⟨g1, g2, g3, g4, g5⟩ := hR2
  rw [hI3.1, hI4.1, hI4.2, g4, g5, show nI (W_learn r c v).2.2.2.1 + (1 : Int32) = nI ((W_learn r c v).2.2.2.1 + 1) from nI_1 _, show nI v2 / (2 : Int32) = nI (v2 / 2) from pk_div (d := 2) (by omega) (by decide) (by decide)]
  have u0 : ∀ (h : Nat → Nat → Int32) (o : Nat) (x : Int32), pm_up h o b x o b = x := fun h o x => by rw [pm_up_self]; exact pk_us
  have uk : ∀ (h : Nat → Nat → Int32) (o : Nat) (x : Int32), pm_up h o k x o k = x := fun h o x => by rw [pm_up_self]; exact pk_us
  have hX2 := hX1.fr f2q rfl rfl
  have hr3 : RV (k0 + 1) (W_count (W_learn r c v) c) := ⟨hr2.1, hr2.2.1, hr2.2.2.1, Nat.succ_le_succ hr2.2.2.2.1, by have := hr2.2.2.2.2; show _ + _ ≤ _; omega⟩
  have go : ∀ x : Int32, nI (W_learn r c v).2.2.2.2 + x = nI ((W_learn r c v).2.2.2.2 + c) → vp_in (nI k') 2 ∧ (pm_R (d + 72) M_Mo_gains [.ref 55, .int (nI b), .int (nI c2), .int (nI (v2 / 2))] ((pm_up (pm_up H2.1 67 b (nI ((W_learn r c v).2.2.2.1 + 1))) 68 b (nI (W_learn r c v).2.2.2.2 + x)), H2.2) (pm_v (fun H7 => pm_R (d + 72) M_Mo_nightOf [.ref 55, .int (nI b)] H7 (pm_v (fun H8 => C ((pm_up (pm_up (pm_up (pm_up H8.1 72 k (H8.1 65 b)) 73 k (H8.1 66 b)) 74 k (H8.1 67 b)) 75 k (H8.1 68 b)), H8.2)))))) := by
    intro x ex
    rw [ex]
    refine ⟨vp_in_nI hk' (by decide), ?_⟩
    have f3 : fr R4c H2 (pm_up (pm_up H2.1 67 b (nI ((W_learn r c v).2.2.2.1 + 1))) 68 b (nI ((W_learn r c v).2.2.2.2 + c)), H2.2) := (fr.rf.up (o := 67) rfl).up (o := 68) rfl
    have hR3 : MR (pm_up (pm_up H2.1 67 b (nI ((W_learn r c v).2.2.2.1 + 1))) 68 b (nI ((W_learn r c v).2.2.2.2 + c)), H2.2) b (W_count (W_learn r c v) c) := ⟨g1, g2, g3, (u0 H2.1 67 _), u0 _ 68 _⟩
    refine c_gainsM hR3 hr3 hb12 hc2 (by omega) (fun H4 f4 hR4 => ?_)
    have f4q : fr R4c _ H4 := f4.fr rfl rfl
    have hX4 := (hX2.fr f3 rfl rfl).fr f4q rfl rfl
    have hr4 := RV_learn hr3 c2 (v2 / 2)
    have fAll := f1q.tr (f2q.tr (f3.tr f4q))
    refine c_nightM hX4.1 hX4.2.1 ((fAll.1 55 23 rfl).trans ef) hR4 hr4 (by omega) hb12 hf12 (fun H5 f5 hR5 => ?_)
    have f5q : fr R4c H4 H5 := f5.fr rfl rfl
    have fA5 := fAll.tr f5q
    obtain ⟨z1, z2, z3, z4, z5⟩ := hR5
    have f6 : fr [7200, 7300, 7400, 7500] H5 (pm_up (pm_up (pm_up (pm_up H5.1 72 k (H5.1 65 b)) 73 k (H5.1 66 b)) 74 k (H5.1 67 b)) 75 k (H5.1 68 b), H5.2) := (((fr.rf.up (o := 72) rfl).up (o := 73) rfl).up (o := 74) rfl).up (o := 75) rfl
    refine kk _ ((fA5.mono rfl).tr (f6.mono rfl)) ⟨?_, ?_, ?_, ?_⟩ (fun r' h => ?_) ((hI.fr fA5 rfl).fr f6 rfl) ((hI2.fr fA5 rfl).fr f6 rfl)
    · exact (uk _ 72 _).trans z1
    · exact (uk _ 73 _).trans z2
    · exact (uk _ 74 _).trans z4
    · exact (uk _ 75 _).trans z5
    · have h5 := h.fr fA5 rfl
      have un : ∀ (h : Nat → Nat → Int32) (o : Nat) (x : Int32), pm_up h o k x o k' = h o k' := fun h o x => by rw [pm_up_self]; exact pk_un hne
      exact ⟨(un _ 72 _).trans h5.1, (un _ 73 _).trans h5.2.1, (un _ 74 _).trans h5.2.2.1, (un _ 75 _).trans h5.2.2.2⟩
  have ez : (nI c = (0 : Int32)) = (c = 0) := i_eq c 0 (by omega) (by decide)
  rw [ez]
  exact ⟨fun c0 => go 0 (by rw [c0, Int32.add_zero]; rfl), fun c0 => go 1 (by rw [show c = 1 by omega]; exact nI_1 _)⟩
theorem c_hearsDay {D a b k0 : Nat} {hb : Nat → Nat} {L : Law} {ra rb : Row} {H : pmT} {K : pmT → Prop} (hX : MX hb L H) (ef : H.1 55 23 = nI (hb 2)) (ha12 : a < 12) (hb12 : b < 12) (hA : TW H 0 ra) (hB : TW H 1 rb) (ma : H.1 56 (24 + a) = nI ra.2.2.1) (mb : H.1 56 (24 + b) = nI rb.2.2.1) (hra : RV k0 ra) (hrb : RV k0 rb) (hk0 : k0 < 2 ^ 19) (kk : ∀ H', fr JH H H' → TW H' 0 (W_sleep hb (W_learn (W_play hb L ra 0) (W_came hb rb 0) (W_give L rb 0 (W_came hb rb 0) / 2)) (hb 2)) → TW H' 1 (W_sleep hb (W_learn (W_play hb L rb 0) (W_came hb ra 0) (W_give L ra 0 (W_came hb ra 0) / 2)) (hb 2)) → H'.1 76 0 = nI (W_came hb ra 0) → H'.1 76 1 = nI (W_came hb rb 0) → K H') : pm_R (D + 100) M_Mo_hearsDay [.ref 55, .int (nI a), .int (nI b)] H (pm_v K) := by
  refine m_Mo_hearsDay _ _ ?_
  have i0 : vp_in (nI 0) 2 := vp_in_nI (by decide) (by decide)
  have i1 : vp_in (nI 1) 2 := vp_in_nI (by decide) (by decide)
  have ia : vp_in (nI a) 12 := vp_in_nI ha12 (by decide)
  have ib : vp_in (nI b) 12 := vp_in_nI hb12 (by decide)
  have hca := W_came_le hb ra 0
  have hcb := W_came_le hb rb 0
  have hga := W_give_le L ra 0 _ hca
  have hgb := W_give_le L rb 0 _ hcb
  have hf12 := hX.2.1.2.2.1
  refine b_Mo_hearsDay_2 _ _ _ ?_
  first | refine bt (show ¬ (2 : Int32) ≤ 0 by decide) ?_ | refine bf (show ¬ (2 : Int32) ≤ 0 by decide) ?_ | refine nt (show ¬ (2 : Int32) ≤ 0 by decide) ?_ | refine nf (show ¬ (2 : Int32) ≤ 0 by decide) ?_
  first | refine bt (show (0 : Int32) = 0 from rfl) ?_ | refine bf (show (0 : Int32) = 0 from rfl) ?_ | refine nt (show (0 : Int32) = 0 from rfl) ?_ | refine nf (show (0 : Int32) = 0 from rfl) ?_
  refine ⟨i0, ia, ?_⟩
  rw [nIc (show a < 2 ^ 31 by omega)]
  refine c_hear1 (d := D + 27) (k := 0) hX ha12 (by decide) hA ma hra (by omega) (fun H1 f1 t1 w1 _ => ?_)
  have hX1 := hX.fr f1 rfl rfl
  refine b_Mo_hearsDay_2 _ _ _ ?_
  first | refine bt (show ¬ (2 : Int32) ≤ 0 + 1 by decide) ?_ | refine bf (show ¬ (2 : Int32) ≤ 0 + 1 by decide) ?_ | refine nt (show ¬ (2 : Int32) ≤ 0 + 1 by decide) ?_ | refine nf (show ¬ (2 : Int32) ≤ 0 + 1 by decide) ?_
  first | refine bt (show ¬ (0 : Int32) + 1 = 0 by decide) ?_ | refine bf (show ¬ (0 : Int32) + 1 = 0 by decide) ?_ | refine nt (show ¬ (0 : Int32) + 1 = 0 by decide) ?_ | refine nf (show ¬ (0 : Int32) + 1 = 0 by decide) ?_
  refine ⟨i1, ib, ?_⟩
  rw [nIc (show b < 2 ^ 31 by omega)]
  refine c_hear1 (d := D + 27) (k := 1) hX1 hb12 (by decide) (w1 1 rb hB) ((f1.1 56 _ rfl).trans mb) hrb (by omega) (fun H2 f2 t2 w2 s2 => ?_)
  have hX2 := hX1.fr f2 rfl rfl
  have f12 := f1.tr f2
  have t1' := s2 0 _ _ (by decide) t1
  refine b_Mo_hearsDay_2 _ _ _ ?_
  first | refine bt (show (2 : Int32) ≤ 0 + 1 + 1 by decide) ?_ | refine bf (show (2 : Int32) ≤ 0 + 1 + 1 by decide) ?_ | refine nt (show (2 : Int32) ≤ 0 + 1 + 1 by decide) ?_ | refine nf (show (2 : Int32) ≤ 0 + 1 + 1 by decide) ?_
  refine b_Mo_hearsDay_65 _ _ _ ?_
  first | refine bt (show ¬ (2 : Int32) ≤ 0 by decide) ?_ | refine bf (show ¬ (2 : Int32) ≤ 0 by decide) ?_ | refine nt (show ¬ (2 : Int32) ≤ 0 by decide) ?_ | refine nf (show ¬ (2 : Int32) ≤ 0 by decide) ?_
  first | refine bt (show (0 : Int32) = 0 from rfl) ?_ | refine bf (show (0 : Int32) = 0 from rfl) ?_ | refine nt (show (0 : Int32) = 0 from rfl) ?_ | refine nf (show (0 : Int32) = 0 from rfl) ?_
  refine ⟨i0, ia, ?_⟩
  rw [nIc (show a < 2 ^ 31 by omega)]
  refine c_hear2 (d := D + 27) (k := 0) (k' := 1) (C := fun HH => pm_RW none (D + 100) M_Mo_hearsDay (pm_v K) 65 [(0, .ref 55), (1, .int (nI a)), (2, .int (nI b)), (3, .int ((0 : Int32) + (1 : Int32)))] [] HH) hX2 ((f12.1 55 23 rfl).trans ef) hf12 ha12 (by decide) (by decide) (by decide) (w2 0 ra (w1 0 ra hA)) ((f12.1 56 _ rfl).trans ma) hra hk0 hca hga hcb hgb t1' t2 (fun H3 f3 r3 s3 t3 t4 => ?_)
  have hX3 := hX2.fr f3 rfl rfl
  have f123 := f12.tr f3
  refine b_Mo_hearsDay_65 _ _ _ ?_
  first | refine bt (show ¬ (2 : Int32) ≤ 0 + 1 by decide) ?_ | refine bf (show ¬ (2 : Int32) ≤ 0 + 1 by decide) ?_ | refine nt (show ¬ (2 : Int32) ≤ 0 + 1 by decide) ?_ | refine nf (show ¬ (2 : Int32) ≤ 0 + 1 by decide) ?_
  first | refine bt (show ¬ (0 : Int32) + 1 = 0 by decide) ?_ | refine bf (show ¬ (0 : Int32) + 1 = 0 by decide) ?_ | refine nt (show ¬ (0 : Int32) + 1 = 0 by decide) ?_ | refine nf (show ¬ (0 : Int32) + 1 = 0 by decide) ?_
  refine ⟨i1, ib, ?_⟩
  rw [nIc (show b < 2 ^ 31 by omega)]
  refine c_hear2 (d := D + 27) (k := 1) (k' := 0) (C := fun HH => pm_RW none (D + 100) M_Mo_hearsDay (pm_v K) 65 [(0, .ref 55), (1, .int (nI a)), (2, .int (nI b)), (3, .int ((0 : Int32) + (1 : Int32) + (1 : Int32)))] [] HH) hX3 ((f123.1 55 23 rfl).trans ef) hf12 hb12 (by decide) (by decide) (by decide) (s3 rb (w2 1 rb (w1 1 rb hB))) ((f123.1 56 _ rfl).trans mb) hrb hk0 hcb hgb hca hga t4 t3 (fun H4 f4 r4 s4 t5 t6 => ?_)
  refine b_Mo_hearsDay_65 _ _ _ ?_
  first | refine bt (show (2 : Int32) ≤ 0 + 1 + 1 by decide) ?_ | refine bf (show (2 : Int32) ≤ 0 + 1 + 1 by decide) ?_ | refine nt (show (2 : Int32) ≤ 0 + 1 + 1 by decide) ?_ | refine nf (show (2 : Int32) ≤ 0 + 1 + 1 by decide) ?_
  exact kk H4 (f123.tr f4) (s4 _ r3) r4 t6.1 t5.1
theorem lp_hearM {D n a b N w : Nat} {hb : Nat → Nat} {L : Law} {now : Nat → Row} {K : Int32 → pmT → Prop} {H0 : pmT} (hN : N ≤ 30) (hM : MS hb L n now H0) (ef : H0.1 55 23 = nI (hb 2)) (han : a < n) (hbn : b < n) (hw : w ≤ 2) (R : Row × Row × Int32) (kk : ∀ H', fr JQ H0 H' → K (if w = 2 then R.2.2 else if w = 0 then nI R.1.1 - nI R.1.2.1 else nI R.2.1.1 - nI R.2.1.2.1) H') : ∀ (m k k0 : Nat) (ra rb : Row) (fi : Int32) (H : pmT), k + m = N → k0 < 2 ^ 19 → fr JH H0 H → TW H 0 ra → TW H 1 rb → ra.2.2.1 = (now a).2.2.1 → rb.2.2.1 = (now b).2.2.1 → RV k0 ra → RV k0 rb → (fi = -2 ∨ ∃ q, q < 31 ∧ fi = nI q) → W_hear hb L m k ra rb fi = R → pm_RW none (D + 200) M_Mo_hearing (pm_i K) 93 [(0, .ref 55), (2, .int (nI N)), (3, .int (nI w)), (4, .int (nI a)), (5, .int (nI b)), (6, .int fi), (7, .int (nI k))] [] H
  | 0, k, k0, ra, rb, fi, H, hk, hk0, hf, hA, hB, ma, mb, va, vb, hfi, e => by
    refine b_Mo_hearing_93 _ _ _ _ _ _ ?_
    first | refine bt (nI_le (show N ≤ k by omega) (show k < 2 ^ 31 by omega)) ?_ | refine bf (nI_le (show N ≤ k by omega) (show k < 2 ^ 31 by omega)) ?_ | refine nt (nI_le (show N ≤ k by omega) (show k < 2 ^ 31 by omega)) ?_ | refine nf (nI_le (show N ≤ k by omega) (show k < 2 ^ 31 by omega)) ?_
    have k1 := kk H (hf.mono rfl)
    rw [← e] at k1
    have k1 : K (if w = 2 then fi else if w = 0 then nI ra.1 - nI ra.2.1 else nI rb.1 - nI rb.2.1) H := k1
    rw [show (nI w = (2 : Int32)) = (w = 2) from i_eq w 2 (by omega) (by decide), nIc (show w < 2 ^ 31 by omega)]
    by_cases c2 : w = 2
    · first | refine bt c2 ?_ | refine bf c2 ?_ | refine nt c2 ?_ | refine nf c2 ?_
      rw [if_pos c2] at k1; exact k1
    · first | refine bt c2 ?_ | refine bf c2 ?_ | refine nt c2 ?_ | refine nf c2 ?_
      rw [if_neg c2] at k1
      refine ⟨vp_in_nI (by omega) (by decide), ?_⟩
      rcases (show w = 0 ∨ w = 1 by omega) with z | z <;> subst z
      · rw [hA.1, hA.2.1]; exact k1
      · rw [hB.1, hB.2.1]; exact k1
  | m + 1, k, k0, ra, rb, fi, H, hk, hk0, hf, hA, hB, ma, mb, va, vb, hfi, e => by
    have ih := lp_hearM (D := D) (K := K) hN hM ef han hbn hw R kk m
    have hn12 := hM.2.2.1
    refine b_Mo_hearing_93 _ _ _ _ _ _ ?_
    first | refine bt (nI_ge (show k < N by omega) (by omega)) ?_ | refine bf (nI_ge (show k < N by omega) (by omega)) ?_ | refine nt (nI_ge (show k < N by omega) (by omega)) ?_ | refine nf (nI_ge (show k < N by omega) (by omega)) ?_
    have hM1 := hM.fr (hf.mono rfl)
    obtain ⟨pa1, pa2, pa3, pa4⟩ := hM1.2.2.2.1 a han
    obtain ⟨pb1, pb2, pb3, pb4⟩ := hM1.2.2.2.1 b hbn
    refine c_hearsDay (D := D + 99) hM1.1 ((hf.1 55 23 rfl).trans ef) (by omega) (by omega) hA hB (by rw [pa3, ma]) (by rw [pb3, mb]) va vb hk0 (fun H1 f1 r0 r1 e0 e1 => ?_)
    unfold W_hear at e
    have hca := W_came_le hb ra 0
    have hcb := W_came_le hb rb 0
    have va' := RV_sleep hb (RV_learn (RV_play hb L va 0) (W_came hb rb 0) (W_give L rb 0 (W_came hb rb 0) / 2)) (hb 2)
    have vb' := RV_sleep hb (RV_learn (RV_play hb L vb 0) (W_came hb ra 0) (W_give L ra 0 (W_came hb ra 0) / 2)) (hb 2)
    have ml : ∀ (r : Row) (c v : Nat), (W_learn r c v).2.2.1 = r.2.2.1 := fun r c v => by unfold W_learn; split <;> rfl
    have ma' : (W_sleep hb (W_learn (W_play hb L ra 0) (W_came hb rb 0) (W_give L rb 0 (W_came hb rb 0) / 2)) (hb 2)).2.2.1 = (now a).2.2.1 := by
      show (W_learn (W_count (W_learn ra _ _) _) _ _).2.2.1 = _
      rw [ml]
      show (W_learn ra _ _).2.2.1 = _
      rw [ml]; exact ma
    have mb' : (W_sleep hb (W_learn (W_play hb L rb 0) (W_came hb ra 0) (W_give L ra 0 (W_came hb ra 0) / 2)) (hb 2)).2.2.1 = (now b).2.2.1 := by
      show (W_learn (W_count (W_learn rb _ _) _) _ _).2.2.1 = _
      rw [ml]
      show (W_learn rb _ _).2.2.1 = _
      rw [ml]; exact mb
    have go : ∀ fi' : Int32, fi' = (if fi = -2 ∧ W_came hb ra 0 = 1 ∧ W_came hb rb 0 = 1 then nI k else fi) → pm_RW none (D + 200) M_Mo_hearing (pm_i K) 93 [(0, .ref 55), (2, .int (nI N)), (3, .int (nI w)), (4, .int (nI a)), (5, .int (nI b)), (6, .int fi'), (7, .int (nI (k + 1)))] [] H1 := by
      intro fi' efi
      refine ih (k + 1) 0 _ _ fi' H1 (by omega) (by decide) (hf.tr f1) r0 r1 ma' mb' va' vb' ?_ (by rw [efi]; exact e)
      rw [efi]
      split
      · exact Or.inr ⟨k, by omega, rfl⟩
      · exact hfi
    rw [e0, e1, show nI k + (1 : Int32) = nI (k + 1) from nI_1 k, show (nI (W_came hb ra 0) = (0 : Int32)) = (W_came hb ra 0 = 0) from i_eq _ 0 (by omega) (by decide), show (nI (W_came hb rb 0) = (0 : Int32)) = (W_came hb rb 0 = 0) from i_eq _ 0 (by omega) (by decide)]
    have h2 : (0 ≤ fi → ¬ fi = -2) ∧ (¬ 0 ≤ fi → fi = -2) := by
      rcases hfi with z | ⟨q, hq, z⟩
      · rw [z]; exact ⟨fun y => absurd y (by decide), fun _ => rfl⟩
      · rw [z]; exact ⟨fun _ => nI_ne_m2 (by omega), fun y => absurd (nI_pos' (by omega)) y⟩
    refine ⟨fun x1 => go _ (if_neg (fun z => h2.1 x1 z.1)).symm, fun x1 => ⟨fun x2 => go _ (if_neg (fun z => by omega)).symm, fun x2 => ⟨fun x3 => go _ (if_neg (fun z => by omega)).symm, fun x3 => go _ (if_pos ⟨h2.2 x1, by omega, by omega⟩).symm⟩⟩⟩
