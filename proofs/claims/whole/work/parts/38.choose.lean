/-! which bars to play: the cheapest first -/
def W_cheap (c : Nat → Nat) (S : Nat) : Nat → Nat → Option Nat → Option Nat
  | 0, _, best => best
  | m + 1, b, best => if S.testBit b = true then W_cheap c S m (b + 1) best else match best with
    | none => W_cheap c S m (b + 1) (some b)
    | some a => if c a ≤ c b then W_cheap c S m (b + 1) (some a) else W_cheap c S m (b + 1) (some b)
def W_choose (c : Nat → Nat) (n N : Nat) : Nat → Nat → Nat → Nat × Nat
  | 0, S, P => (S, P)
  | m + 1, S, P => match W_cheap c S n 0 none with
    | none => (S, P)
    | some b => if P + c b ≤ N then W_choose c n N m (S ||| 2 ^ b) (P + c b) else (S, P)
def oI (b : Option Nat) : Int32 := match b with
  | none => -1
  | some a => nI a
theorem bit_t {S b : Nat} (hS : S < 4096) (hb : b < 12) : ((nI S >>> (nI b &&& 31)) &&& (1 : Int32) = 0) = (¬ S.testBit b = true) := by
  have hs : ∀ b, b < 12 → ((nI b &&& 31).toBitVec.smod 32).toNat = b := by decide
  have e1 := pk_shrN (n := S) (by omega) (nI b &&& 31) b (hs b hb)
  have hlt : S / 2 ^ b < 2 ^ 32 := Nat.lt_of_le_of_lt (Nat.div_le_self _ _) (by omega)
  have e2 := pk_andN hlt (m := (1 : Int32)) 1 rfl
  rw [e1, e2]
  have e3 := i_eq (S / 2 ^ b % 2 ^ 1) 0 (by omega) (by decide)
  have e4 : (nI (S / 2 ^ b % 2 ^ 1) = 0) = (S / 2 ^ b % 2 ^ 1 = 0) := e3
  rw [e4, Nat.testBit_eq_decide_div_mod_eq]
  apply propext
  rw [decide_eq_true_eq]
  omega
theorem W_cheap_in {c : Nat → Nat} {S n : Nat} : ∀ (m b : Nat) (best : Option Nat), b + m = n → (∀ a, best = some a → a < n) → ∀ a, W_cheap c S m b best = some a → a < n
  | 0, _, best, _, h, a, e => h a e
  | m + 1, b, best, hb, h, a, e => by
    unfold W_cheap at e
    split at e
    · exact W_cheap_in m (b + 1) best (by omega) h a e
    · split at e
      · exact W_cheap_in m (b + 1) _ (by omega) (fun a ha => by cases ha; omega) a e
      · rename_i a0
        split at e
        · exact W_cheap_in m (b + 1) _ (by omega) h a e
        · exact W_cheap_in m (b + 1) _ (by omega) (fun a ha => by cases ha; omega) a e
theorem lp_cheap {d n S : Nat} {c : Nat → Nat} {K : Int32 → pmT → Prop} {H : pmT} (hn12 : n ≤ 12) (hS : S < 4096) (eS : H.1 21 4 = nI S) (hc : ∀ b, b < n → H.1 22 b = nI (c b)) (hcl : ∀ b, b < n → c b ≤ 1000) : ∀ (m b : Nat) (best : Option Nat), b + m = n → (∀ a, best = some a → a < n) → K (oI (W_cheap c S m b best)) H → pm_RW none d M_Pl_cheapestLeft (pm_i K) 4 [(0, .ref 21), (1, .int (nI n)), (2, .int (oI best)), (3, .int (nI b))] [] H
  | 0, b, best, hb, hbest, kk => by
    refine b_Pl_cheapestLeft_4 _ _ _ ?_
    rw [i_le _ _ (by omega) (by omega)]
    first | refine bt (show n ≤ b by omega) ?_ | refine bf (show n ≤ b by omega) ?_ | refine nt (show n ≤ b by omega) ?_ | refine nf (show n ≤ b by omega) ?_
    exact kk
  | m + 1, b, best, hb, hbest, kk => by
    have ih := lp_cheap (d := d) (K := K) hn12 hS eS hc hcl m
    refine b_Pl_cheapestLeft_4 _ _ _ ?_
    have ea : nI b + (1 : Int32) = nI (b + 1) := nI_1 b
    rw [i_le _ _ (by omega) (by omega), eS, bit_t hS (by omega), ea]
    first | refine bt (show ¬ n ≤ b by omega) ?_ | refine bf (show ¬ n ≤ b by omega) ?_ | refine nt (show ¬ n ≤ b by omega) ?_ | refine nf (show ¬ n ≤ b by omega) ?_
    unfold W_cheap at kk
    by_cases ct : S.testBit b = true
    · rw [if_pos ct] at kk
      first | refine bt (fun z : ¬ S.testBit b = true => z ct) ?_ | refine bf (fun z : ¬ S.testBit b = true => z ct) ?_ | refine nt (fun z : ¬ S.testBit b = true => z ct) ?_ | refine nf (fun z : ¬ S.testBit b = true => z ct) ?_
      exact ih (b + 1) best (by omega) hbest kk
    · rw [if_neg ct] at kk
      first | refine bt ct ?_ | refine bf ct ?_ | refine nt ct ?_ | refine nf ct ?_
      cases best with
      | none =>
        have c0 : oI none < 0 := by decide
        first | refine bt c0 ?_ | refine bf c0 ?_ | refine nt c0 ?_ | refine nf c0 ?_
        exact ih (b + 1) (some b) (by omega) (fun a ha => by cases ha; omega) kk
      | some a =>
        have han := hbest a rfl
        have c0 : ¬ oI (some a) < 0 := nI_pos (show a < 2 ^ 31 by omega)
        have hca := hcl a han
        have hcb := hcl b (by omega)
        first | refine bt c0 ?_ | refine bf c0 ?_ | refine nt c0 ?_ | refine nf c0 ?_
        refine ⟨vp_in_nI (by omega) (by decide), vp_in_nI (show a < 12 by omega) (by decide), ?_⟩
        have ea2 : (oI (some a)).toNatClampNeg = a := nIc (show a < 2 ^ 31 by omega)
        rw [ea2, nIc (show b < 2 ^ 31 by omega), hc a han, hc b (by omega), i_le _ _ (by omega) (by omega)]
        dsimp only at kk
        by_cases cc : c a ≤ c b
        · rw [if_pos cc] at kk
          first | refine bt cc ?_ | refine bf cc ?_ | refine nt cc ?_ | refine nf cc ?_
          exact ih (b + 1) (some a) (by omega) hbest kk
        · rw [if_neg cc] at kk
          first | refine bt cc ?_ | refine bf cc ?_ | refine nt cc ?_ | refine nf cc ?_
          exact ih (b + 1) (some b) (by omega) (fun a ha => by cases ha; omega) kk
theorem lp_choose {d n N : Nat} {c : Nat → Nat} {K : pmT → Prop} {H0 : pmT} (hn12 : n ≤ 12) (hN : N ≤ 60) (hn : H0.1 2 0 = nI n) (hc : ∀ b, b < n → H0.1 22 b = nI (c b)) (hcl : ∀ b, b < n → c b ≤ 1000) (R : Nat × Nat) (kk : ∀ H', fr [2105, 2106] H0 H' → H'.1 21 4 = nI R.1 → H'.1 21 5 = nI R.2 → K H') : ∀ (m i S P : Nat) (H : pmT), i + m = n → S < 4096 → P ≤ 60 → fr [2105, 2106] H0 H → H.1 21 4 = nI S → H.1 21 5 = nI P → W_choose c n N m S P = R → pm_RW none (d + 1) M_Pl_choose (pm_v K) 43 [(0, .ref 21), (1, .ref 1), (2, .int (nI N)), (3, .int (nI i))] [] H
  | 0, i, S, P, H, hi, hS, hP, hf, e4, e5, e => by
    refine b_Pl_choose_43 _ _ ?_
    rw [(hf.1 2 0 rfl).trans hn, i_le _ _ (by omega) (by omega)]
    first | refine bt (show n ≤ i by omega) ?_ | refine bf (show n ≤ i by omega) ?_ | refine nt (show n ≤ i by omega) ?_ | refine nf (show n ≤ i by omega) ?_
    exact kk H hf (by rw [← e]; exact e4) (by rw [← e]; exact e5)
  | m + 1, i, S, P, H, hi, hS, hP, hf, e4, e5, e => by
    have ih := lp_choose (d := d) hn12 hN hn hc hcl R kk m
    refine b_Pl_choose_43 _ _ ?_
    have ea : nI i + (1 : Int32) = nI (i + 1) := nI_1 i
    rw [(hf.1 2 0 rfl).trans hn, i_le _ _ (by omega) (by omega), ea]
    first | refine bt (show ¬ n ≤ i by omega) ?_ | refine bf (show ¬ n ≤ i by omega) ?_ | refine nt (show ¬ n ≤ i by omega) ?_ | refine nf (show ¬ n ≤ i by omega) ?_
    refine m_Pl_cheapestLeft _ ?_
    refine lp_cheap hn12 hS e4 (fun b hb => (hf.1 22 b rfl).trans (hc b hb)) hcl n 0 none (by omega) (fun a ha => by cases ha) ?_
    unfold W_choose at e
    cases hw : W_cheap c S n 0 none with
    | none =>
      rw [hw] at e
      have c0 : oI none < 0 := by decide
      first | refine bt c0 ?_ | refine bf c0 ?_ | refine nt c0 ?_ | refine nf c0 ?_
      exact kk H hf (by rw [← e]; exact e4) (by rw [← e]; exact e5)
    | some b =>
      rw [hw] at e
      dsimp only at e
      have hbn := W_cheap_in (n := n) n 0 none (by omega) (fun a ha => by cases ha) b hw
      have c0 : ¬ oI (some b) < 0 := nI_pos (show b < 2 ^ 31 by omega)
      have hcb := hcl b hbn
      first | refine bt c0 ?_ | refine bf c0 ?_ | refine nt c0 ?_ | refine nf c0 ?_
      have eb : (oI (some b)).toNatClampNeg = b := nIc (show b < 2 ^ 31 by omega)
      have eo : oI (some b) = nI b := rfl
      rw [eb, e4, e5, (hf.1 22 b rfl).trans (hc b hbn), nI_add, i_le _ _ (by omega) (by omega), eo, one_shl b (by omega), nI_or]
      refine ⟨vp_in_nI (show b < 12 by omega) (by decide), ?_⟩
      by_cases cp : P + c b ≤ N
      · rw [if_pos cp] at e
        first | refine bt cp ?_ | refine bf cp ?_ | refine nt cp ?_ | refine nf cp ?_
        have hS2 : S ||| 2 ^ b < 4096 := Nat.or_lt_two_pow (n := 12) hS (Nat.pow_lt_pow_right (by decide) (by omega))
        exact ih (i + 1) _ _ _ (by omega) hS2 (by omega) ((hf.up (o := 21) (k := 4) rfl).up (o := 21) (k := 5) rfl) rfl rfl e
      · rw [if_neg cp] at e
        first | refine bt cp ?_ | refine bf cp ?_ | refine nt cp ?_ | refine nf cp ?_
        exact kk H hf (by rw [← e]; exact e4) (by rw [← e]; exact e5)
theorem lp_costs {d n N : Nat} {hb : Nat → Nat} {L : Law} {now : Nat → Row} {K : pmT → Prop} {H0 : pmT} (hC : CS hb L n now H0) (kk : ∀ H', fr JC H0 H' → (∀ b, b < n → H'.1 22 b = nI (W_cost hb L 61 0 (now b))) → pm_RW none (d + 6) M_Pl_choose (pm_v K) 43 [(0, .ref 21), (1, .ref 1), (2, .int (nI N)), (3, .int (nI 0))] [] (pm_up (pm_up H'.1 21 4 (0 : Int32)) 21 5 (0 : Int32), H'.2)) : ∀ (m b : Nat) (H : pmT), b + m = n → fr JC H0 H → (∀ b', b' < b → H.1 22 b' = nI (W_cost hb L 61 0 (now b'))) → pm_RW none (d + 6) M_Pl_choose (pm_v K) 2 [(0, .ref 21), (1, .ref 1), (2, .int (nI N)), (3, .int (nI b))] [] H
  | 0, b, H, hb0, hf, hc => by
    have hn12 := hC.2.2.1
    refine b_Pl_choose_2 _ _ ?_
    rw [(hC.fr hf).2.1, i_le _ _ (by omega) (by omega)]
    first | refine bt (show n ≤ b by omega) ?_ | refine bf (show n ≤ b by omega) ?_ | refine nt (show n ≤ b by omega) ?_ | refine nf (show n ≤ b by omega) ?_
    exact kk H hf (by rw [show n = b by omega]; exact hc)
  | m + 1, b, H, hb0, hf, hc => by
    have ih := lp_costs (d := d) (N := N) hC kk m
    have hn12 := hC.2.2.1
    have hC1 := hC.fr hf
    refine b_Pl_choose_2 _ _ ?_
    have ea : nI b + (1 : Int32) = nI (b + 1) := nI_1 b
    rw [hC1.2.1, i_le _ _ (by omega) (by omega), ea]
    first | refine bt (show ¬ n ≤ b by omega) ?_ | refine bf (show ¬ n ≤ b by omega) ?_ | refine nt (show ¬ n ≤ b by omega) ?_ | refine nf (show ¬ n ≤ b by omega) ?_
    refine c_cost hC1 (by omega) (fun H1 f1 => ?_)
    refine ⟨vp_in_nI (by omega) (by decide), ?_⟩
    rw [nIc (by omega)]
    have hf1 : fr JC H0 H1 := hf.tr (f1.mono rfl)
    refine ih (b + 1) _ (by omega) (hf1.up (o := 22) (k := b) rfl) (fun b' hb' => ?_)
    show pm_up H1.1 22 b _ 22 b' = _
    rw [pm_up_self]
    unfold upd
    split
    · rename_i e; rw [e]
    · exact (f1.1 22 b' rfl).trans (hc b' (by omega))
def W_costs (hb : Nat → Nat) (L : Law) (now : Nat → Row) : Nat → Nat := fun b => W_cost hb L 61 0 (now b)
theorem c_choose {d n N : Nat} {hb : Nat → Nat} {L : Law} {now : Nat → Row} {K : pmT → Prop} {H : pmT} (hC : CS hb L n now H) (hN : N ≤ 60) (kk : ∀ H', fr JC H H' → H'.1 21 4 = nI (W_choose (W_costs hb L now) n N n 0 0).1 → H'.1 21 5 = nI (W_choose (W_costs hb L now) n N n 0 0).2 → K H') : pm_R (d + 6) M_Pl_choose [.ref 21, .ref 1, .int (nI N)] H (pm_v K) := by
  refine m_Pl_choose _ ?_
  refine lp_costs (d := d) hC (fun H1 f1 hc => ?_) n 0 H (by omega) fr.rf (fun b' hb' => by omega)
  have hC1 := hC.fr f1
  have f2 : fr JC H (pm_up (pm_up H1.1 21 4 (0 : Int32)) 21 5 (0 : Int32), H1.2) := (f1.up (o := 21) (k := 4) rfl).up (o := 21) (k := 5) rfl
  refine lp_choose (c := W_costs hb L now) hC.2.2.1 hN hC1.2.1 hc (fun b hb0 => ?_) _ (fun H' f h4 h5 => kk H' (f1.tr (f.mono rfl)) h4 h5) n 0 0 0 _ (by omega) (by decide) (by decide) ((fr.rf.up (o := 21) (k := 4) rfl).up (o := 21) (k := 5) rfl) rfl rfl rfl
  rcases W_cost_le (hb := hb) (L := L) 61 0 (now b) rfl with z | z <;> (show W_cost hb L 61 0 (now b) ≤ 1000; omega)
