/-! the law that the class works out: codes on a stack -/
def joinV (w a b : Int32) : Int32 :=
  if w = -10 then (if b = 0 then 0 else a - a / b * b) else if w = -9 then (if b = 0 then 0 else a / b) else if w = -8 then a * b else if w = -7 then a - b else if w = -6 then a + b
  else if w = -5 then (if a ≤ b then 0 else 1) else if w = -4 then (if a = b then 1 else 0) else if w = -3 then (if b ≤ a then 0 else 1)
  else if w = -2 then (if a = 0 then 0 else if b = 0 then 0 else 1) else if w = -1 then (if a = 0 then (if b = 0 then 0 else 1) else 1) else 0
theorem c_joined {d : Nat} {H : pmT} {K : Int32 → pmT → Prop} (w a b : Int32) (k : K (joinV w a b) H) : pm_R d M_La_joined [.int w, .int a, .int b] H (pm_i K) := by
  refine m_La_joined _ _ _ ?_
  unfold joinV at k
  repeat' (first | intro hh | apply And.intro)
  all_goals (simpa [*] using k)
/-- the codes from place at on, with so many numbers on the stack; ps: the line is passed by -/
def evC (cd nm : Nat → Int32) : Nat → Nat → Nat → (Nat → Int32) → Bool → Int32
  | 0, _, _, _, _ => 0
  | m + 1, p, top, st, ps =>
    if ps = true then evC cd nm m (p + 1) top st (decide (¬ cd p = -14))
    else if cd p = -14 then (if top ≤ 0 then 0 else st (top - 1))
    else if cd p = -13 then evC cd nm m (p + 1) 0 st (decide (st 0 = 0))
    else if cd p < 0 ∨ 64 ≤ top then
      (if cd p = -11 ∧ ¬ top ≤ 0 then evC cd nm m (p + 1) top (upd st (top - 1) (if st (top - 1) = 0 then 1 else 0)) false
      else if cd p = -12 ∧ ¬ top ≤ 0 then evC cd nm m (p + 1) top (upd st (top - 1) (-(st (top - 1)))) false
      else if top ≤ 1 then evC cd nm m (p + 1) top st false
      else evC cd nm m (p + 1) (top - 1) (upd st (top - 2) (joinV (cd p) (st (top - 2)) (st (top - 1)))) false)
    else evC cd nm m (p + 1) (top + 1) (upd st top (if 10000 ≤ cd p then nm (cd p - 10000).toNatClampNeg else cd p)) false
theorem i_s1 {t : Nat} (h : 1 ≤ t) : nI t - 1 = nI (t - 1) := pk_sub h
theorem i_a1 (t : Nat) : nI t + 1 = nI (t + 1) := nI_1 t
theorem i_le (a b : Nat) (ha : a < 2 ^ 31) (hb : b < 2 ^ 31) : (nI a ≤ nI b) = (a ≤ b) := propext (nI_leI ha hb)
def bI (b : Bool) : Int32 := if b = true then 1 else 0
theorem bI_decide (p : Prop) [Decidable p] : bI (decide p) = if p then 1 else 0 := by
  unfold bI
  by_cases h : p <;> simp [h]
theorem lp_workOut {d : Nat} {H : pmT} {K : Int32 → pmT → Prop} (h2 : H.2.2.2 = 16 ∨ H.2.2.2 = 17) (nm : Nat → Int32) (hnm : ∀ j, j < 6 → H.1 19 j = nm j) (len : Nat) (hlen : H.1 14 6 = nI len) (hl : len ≤ 124) (hcd : ∀ j, j < len → 10000 ≤ H.1 H.2.2.2 j → ∃ q, q < 6 ∧ H.1 H.2.2.2 j - 10000 = nI q) :
    ∀ (m p top : Nat) (st : Nat → Int32) (ps : Bool) (H' : pmT), p + m = len → top ≤ 64 → fr [1800] H H' → (∀ j, H'.1 18 j = st j) → (∀ H'', fr [1800] H H'' → K (evC (H.1 H.2.2.2) nm m p top st ps) H'') →
      pm_RW none (d + 1) M_La_workOut (pm_i K) 6 [(0, .ref 14), (1, .int (nI top)), (2, .int (bI ps)), (3, .int (nI p))] [] H'
  | 0, p, top, st, ps, H', hp, ht, hf, hst, k => by
    have e6 : H'.1 14 6 = nI len := (hf.1 14 6 rfl).trans hlen
    refine bc_La_workOut_6 _ _ _ (by rw [hf.2]; exact h2) ⟨fun c => k H' hf, fun c => ?_⟩
    rw [e6, i_le _ _ (by omega) (by omega)] at c
    omega
  | m + 1, p, top, st, ps, H', hp, ht, hf, hst, k => by
    have ih := lp_workOut (d := d) (K := K) h2 nm hnm len hlen hl hcd m
    have e6 : H'.1 14 6 = nI len := (hf.1 14 6 rfl).trans hlen
    have ew : H'.1 H'.2.2.2 (nI p).toNatClampNeg = H.1 H.2.2.2 p := by
      rw [hf.2, nIc (by omega)]
      rcases h2 with e | e <;> rw [e] <;> exact hf.1 _ _ rfl
    have hcp := hcd p (by omega)
    unfold evC at k
    generalize hw : H.1 H.2.2.2 p = w at ew hcp k
    have hf2 : ∀ j v, fr [1800] H (pm_up H'.1 18 j v, H'.2) := fun j v => hf.up rfl
    have hs2 : ∀ (j : Nat) (v : Int32) (i : Nat), (pm_up H'.1 18 j v, H'.2).1 18 i = upd st j v i := fun j v i => by
      show pm_up H'.1 18 j v 18 i = _
      rw [pm_up_self]
      unfold upd
      split
      · rfl
      · exact hst i
    have ea : nI p + (1 : Int32) = nI (p + 1) := nI_1 p
    have hin0 : vp_in (nI p) 124 := vp_in_nI (by omega) (by decide)
    have i0 : (nI top ≤ 0) = (top ≤ 0) := i_le top 0 (by omega) (by decide)
    have i1 : (nI top ≤ (1 : Int32)) = (top ≤ 1) := i_le top 1 (by omega) (by decide)
    have i64 : ((64 : Int32) ≤ nI top) = (64 ≤ top) := i_le 64 top (by decide) (by omega)
    have et1 : 1 ≤ top → nI top - (1 : Int32) = nI (top - 1) := fun h => i_s1 h
    have etm : 1 ≤ top → nI top + (-1 : Int32) = nI (top - 1) := fun h => sb_m1 h
    have et2 : 2 ≤ top → nI top + (-1 : Int32) - (1 : Int32) = nI (top - 2) := fun h => by rw [sb_m1 (by omega), i_s1 (by omega)]; congr 1
    have hJ : ∀ (H1 : pmT), ¬ top ≤ 1 → fr [1800] H H1 → (∀ j, H1.1 18 j = st j) → ps = false → (∀ H'', fr [1800] H H'' → K (evC (H.1 H.2.2.2) nm m (p + 1) (top - 1) (upd st (top - 2) (joinV w (st (top - 2)) (st (top - 1)))) false) H'') →
        pm_R d M_La_joined [.int w, .int (H1.1 18 (nI (top - 2)).toNatClampNeg), .int (H1.1 18 (nI (top - 1)).toNatClampNeg)] H1 (pm_i fun x H1 => pm_RW none (d + 1) M_La_workOut (pm_i K) 6 [(0, .ref 14), (1, .int (nI (top - 1))), (2, .int (bI ps)), (3, .int (nI (p + 1)))] [] (pm_up H1.1 18 (nI (top - 2)).toNatClampNeg x, H1.2)) := by
      intro H1 hT hf1 hs1 hps kk
      refine c_joined _ _ _ ?_
      rw [nIc (by omega), nIc (by omega), hs1, hs1, hps]
      refine ih (p + 1) (top - 1) _ false _ (by omega) (by omega) (hf1.up rfl) (fun i => ?_) kk
      show pm_up H1.1 18 _ _ 18 i = _
      rw [pm_up_self]
      unfold upd
      split
      · rfl
      · exact hs1 i
    refine bc_La_workOut_6 _ _ _ (by rw [hf.2]; exact h2) ⟨fun c => ?_, fun c => ?_⟩
    · rw [e6, i_le _ _ (by omega) (by omega)] at c
      omega
    · rw [ew, ea]
      refine ⟨hin0, fun hv2 => ?_, fun hv2 => ?_⟩
      · have hps : ps = false := by
          cases ps with
          | false => rfl
          | true => exact absurd hv2 (by decide)
        subst hps
        rw [if_neg (by decide)] at k
        by_cases c14 : w = -14
        · first | refine bt c14 ?_ | refine bf c14 ?_ | refine nt c14 ?_ | refine nf c14 ?_
          rw [if_pos c14] at k
          by_cases c0 : top ≤ 0
          · rw [if_pos c0] at k
            first | refine bt (i0.mpr c0) ?_ | refine bf (i0.mpr c0) ?_ | refine nt (i0.mpr c0) ?_ | refine nf (i0.mpr c0) ?_
            exact k H' hf
          · rw [if_neg c0] at k
            first | refine bt (fun z => c0 (i0.mp z)) ?_ | refine bf (fun z => c0 (i0.mp z)) ?_ | refine nt (fun z => c0 (i0.mp z)) ?_ | refine nf (fun z => c0 (i0.mp z)) ?_
            rw [et1 (by omega)]
            refine ⟨vp_in_nI (by omega) (by decide), ?_⟩
            rw [nIc (by omega), hst]
            exact k H' hf
        · first | refine bt c14 ?_ | refine bf c14 ?_ | refine nt c14 ?_ | refine nf c14 ?_
          rw [if_neg c14] at k
          by_cases c13 : w = -13
          · first | refine bt c13 ?_ | refine bf c13 ?_ | refine nt c13 ?_ | refine nf c13 ?_
            rw [if_pos c13] at k
            have e0 : H'.1 18 0 = st 0 := hst 0
            by_cases cs : st 0 = 0
            · have cs' : H'.1 18 0 = 0 := by rw [e0]; exact cs
              first | refine bt cs' ?_ | refine bf cs' ?_ | refine nt cs' ?_ | refine nf cs' ?_
              rw [decide_eq_true cs] at k
              exact ih (p + 1) 0 st true H' (by omega) (by omega) hf hst k
            · have cs' : ¬ H'.1 18 0 = 0 := by rw [e0]; exact cs
              first | refine bt cs' ?_ | refine bf cs' ?_ | refine nt cs' ?_ | refine nf cs' ?_
              rw [decide_eq_false cs] at k
              exact ih (p + 1) 0 st false H' (by omega) (by omega) hf hst k
          · first | refine bt c13 ?_ | refine bf c13 ?_ | refine nt c13 ?_ | refine nf c13 ?_
            rw [if_neg c13] at k
            have kk : w < 0 ∨ 64 ≤ top → (w = -11 ∧ ¬ top ≤ 0 → ∀ H'', fr [1800] H H'' → K (evC (H.1 H.2.2.2) nm m (p + 1) top (upd st (top - 1) (if st (top - 1) = 0 then 1 else 0)) false) H'') ∧ (¬ (w = -11 ∧ ¬ top ≤ 0) → (w = -12 ∧ ¬ top ≤ 0 → ∀ H'', fr [1800] H H'' → K (evC (H.1 H.2.2.2) nm m (p + 1) top (upd st (top - 1) (-(st (top - 1)))) false) H'') ∧ (¬ (w = -12 ∧ ¬ top ≤ 0) → (top ≤ 1 → ∀ H'', fr [1800] H H'' → K (evC (H.1 H.2.2.2) nm m (p + 1) top st false) H'') ∧ (¬ top ≤ 1 → ∀ H'', fr [1800] H H'' → K (evC (H.1 H.2.2.2) nm m (p + 1) (top - 1) (upd st (top - 2) (joinV w (st (top - 2)) (st (top - 1)))) false) H''))) := by
              intro hc
              rw [if_pos hc] at k
              refine ⟨fun h => by rw [if_pos h] at k; exact k, fun h => ?_⟩
              rw [if_neg h] at k
              refine ⟨fun h => by rw [if_pos h] at k; exact k, fun h => ?_⟩
              rw [if_neg h] at k
              exact ⟨fun h => by rw [if_pos h] at k; exact k, fun h => by rw [if_neg h] at k; exact k⟩
            by_cases cw : w < 0
            · have kk := kk (Or.inl cw)
              first | refine bt cw ?_ | refine bf cw ?_ | refine nt cw ?_ | refine nf cw ?_
              by_cases c11 : w = -11
              · first | refine bt c11 ?_ | refine bf c11 ?_ | refine nt c11 ?_ | refine nf c11 ?_
                by_cases c0 : top ≤ 0
                · first | refine bt (i0.mpr c0) ?_ | refine bf (i0.mpr c0) ?_ | refine nt (i0.mpr c0) ?_ | refine nf (i0.mpr c0) ?_
                  have k2 := (kk.2 (fun z => z.2 c0)).2 (fun z => z.2 c0)
                  by_cases c1 : top ≤ 1
                  · first | refine bt (i1.mpr c1) ?_ | refine bf (i1.mpr c1) ?_ | refine nt (i1.mpr c1) ?_ | refine nf (i1.mpr c1) ?_
                    exact ih (p + 1) top st false H' (by omega) ht hf hst (k2.1 c1)
                  · first | refine bt (fun z => c1 (i1.mp z)) ?_ | refine bf (fun z => c1 (i1.mp z)) ?_ | refine nt (fun z => c1 (i1.mp z)) ?_ | refine nf (fun z => c1 (i1.mp z)) ?_
                    rw [et2 (by omega), etm (by omega)]
                    exact ⟨vp_in_nI (by omega) (by decide), vp_in_nI (by omega) (by decide), hJ H' c1 hf hst rfl (k2.2 c1)⟩
                · first | refine bt (fun z => c0 (i0.mp z)) ?_ | refine bf (fun z => c0 (i0.mp z)) ?_ | refine nt (fun z => c0 (i0.mp z)) ?_ | refine nf (fun z => c0 (i0.mp z)) ?_
                  rw [et1 (by omega)]
                  refine ⟨vp_in_nI (by omega) (by decide), ?_⟩
                  have k2 := kk.1 ⟨c11, c0⟩
                  rw [nIc (by omega), hst]
                  by_cases cz : st (top - 1) = 0
                  · first | refine bt cz ?_ | refine bf cz ?_ | refine nt cz ?_ | refine nf cz ?_
                    rw [if_pos cz] at k2
                    exact ih (p + 1) top _ false _ (by omega) ht (hf2 _ _) (hs2 _ _) k2
                  · first | refine bt cz ?_ | refine bf cz ?_ | refine nt cz ?_ | refine nf cz ?_
                    rw [if_neg cz] at k2
                    exact ih (p + 1) top _ false _ (by omega) ht (hf2 _ _) (hs2 _ _) k2
              · first | refine bt c11 ?_ | refine bf c11 ?_ | refine nt c11 ?_ | refine nf c11 ?_
                by_cases c12 : w = -12
                · first | refine bt c12 ?_ | refine bf c12 ?_ | refine nt c12 ?_ | refine nf c12 ?_
                  by_cases c0 : top ≤ 0
                  · first | refine bt (i0.mpr c0) ?_ | refine bf (i0.mpr c0) ?_ | refine nt (i0.mpr c0) ?_ | refine nf (i0.mpr c0) ?_
                    have k2 := (kk.2 (fun z => z.2 c0)).2 (fun z => z.2 c0)
                    by_cases c1 : top ≤ 1
                    · first | refine bt (i1.mpr c1) ?_ | refine bf (i1.mpr c1) ?_ | refine nt (i1.mpr c1) ?_ | refine nf (i1.mpr c1) ?_
                      exact ih (p + 1) top st false H' (by omega) ht hf hst (k2.1 c1)
                    · first | refine bt (fun z => c1 (i1.mp z)) ?_ | refine bf (fun z => c1 (i1.mp z)) ?_ | refine nt (fun z => c1 (i1.mp z)) ?_ | refine nf (fun z => c1 (i1.mp z)) ?_
                      rw [et2 (by omega), etm (by omega)]
                      exact ⟨vp_in_nI (by omega) (by decide), vp_in_nI (by omega) (by decide), hJ H' c1 hf hst rfl (k2.2 c1)⟩
                  · first | refine bt (fun z => c0 (i0.mp z)) ?_ | refine bf (fun z => c0 (i0.mp z)) ?_ | refine nt (fun z => c0 (i0.mp z)) ?_ | refine nf (fun z => c0 (i0.mp z)) ?_
                    rw [et1 (by omega)]
                    refine ⟨vp_in_nI (by omega) (by decide), ?_⟩
                    have k2 := (kk.2 (fun z => c11 z.1)).1 ⟨c12, c0⟩
                    rw [nIc (by omega), hst]
                    exact ih (p + 1) top _ false _ (by omega) ht (hf2 _ _) (hs2 _ _) k2
                · first | refine bt c12 ?_ | refine bf c12 ?_ | refine nt c12 ?_ | refine nf c12 ?_
                  have k2 := (kk.2 (fun z => c11 z.1)).2 (fun z => c12 z.1)
                  by_cases c1 : top ≤ 1
                  · first | refine bt (i1.mpr c1) ?_ | refine bf (i1.mpr c1) ?_ | refine nt (i1.mpr c1) ?_ | refine nf (i1.mpr c1) ?_
                    exact ih (p + 1) top st false H' (by omega) ht hf hst (k2.1 c1)
                  · first | refine bt (fun z => c1 (i1.mp z)) ?_ | refine bf (fun z => c1 (i1.mp z)) ?_ | refine nt (fun z => c1 (i1.mp z)) ?_ | refine nf (fun z => c1 (i1.mp z)) ?_
                    rw [et2 (by omega), etm (by omega)]
                    exact ⟨vp_in_nI (by omega) (by decide), vp_in_nI (by omega) (by decide), hJ H' c1 hf hst rfl (k2.2 c1)⟩
            · first | refine bt cw ?_ | refine bf cw ?_ | refine nt cw ?_ | refine nf cw ?_
              by_cases ct : 64 ≤ top
              · have kk := kk (Or.inr ct)
                first | refine bt (i64.mpr ct) ?_ | refine bf (i64.mpr ct) ?_ | refine nt (i64.mpr ct) ?_ | refine nf (i64.mpr ct) ?_
                by_cases c11 : w = -11
                · first | refine bt c11 ?_ | refine bf c11 ?_ | refine nt c11 ?_ | refine nf c11 ?_
                  by_cases c0 : top ≤ 0
                  · first | refine bt (i0.mpr c0) ?_ | refine bf (i0.mpr c0) ?_ | refine nt (i0.mpr c0) ?_ | refine nf (i0.mpr c0) ?_
                    have k2 := (kk.2 (fun z => z.2 c0)).2 (fun z => z.2 c0)
                    by_cases c1 : top ≤ 1
                    · first | refine bt (i1.mpr c1) ?_ | refine bf (i1.mpr c1) ?_ | refine nt (i1.mpr c1) ?_ | refine nf (i1.mpr c1) ?_
                      exact ih (p + 1) top st false H' (by omega) ht hf hst (k2.1 c1)
                    · first | refine bt (fun z => c1 (i1.mp z)) ?_ | refine bf (fun z => c1 (i1.mp z)) ?_ | refine nt (fun z => c1 (i1.mp z)) ?_ | refine nf (fun z => c1 (i1.mp z)) ?_
                      rw [et2 (by omega), etm (by omega)]
                      exact ⟨vp_in_nI (by omega) (by decide), vp_in_nI (by omega) (by decide), hJ H' c1 hf hst rfl (k2.2 c1)⟩
                  · first | refine bt (fun z => c0 (i0.mp z)) ?_ | refine bf (fun z => c0 (i0.mp z)) ?_ | refine nt (fun z => c0 (i0.mp z)) ?_ | refine nf (fun z => c0 (i0.mp z)) ?_
                    rw [et1 (by omega)]
                    refine ⟨vp_in_nI (by omega) (by decide), ?_⟩
                    have k2 := kk.1 ⟨c11, c0⟩
                    rw [nIc (by omega), hst]
                    by_cases cz : st (top - 1) = 0
                    · first | refine bt cz ?_ | refine bf cz ?_ | refine nt cz ?_ | refine nf cz ?_
                      rw [if_pos cz] at k2
                      exact ih (p + 1) top _ false _ (by omega) ht (hf2 _ _) (hs2 _ _) k2
                    · first | refine bt cz ?_ | refine bf cz ?_ | refine nt cz ?_ | refine nf cz ?_
                      rw [if_neg cz] at k2
                      exact ih (p + 1) top _ false _ (by omega) ht (hf2 _ _) (hs2 _ _) k2
                · first | refine bt c11 ?_ | refine bf c11 ?_ | refine nt c11 ?_ | refine nf c11 ?_
                  by_cases c12 : w = -12
                  · first | refine bt c12 ?_ | refine bf c12 ?_ | refine nt c12 ?_ | refine nf c12 ?_
                    by_cases c0 : top ≤ 0
                    · first | refine bt (i0.mpr c0) ?_ | refine bf (i0.mpr c0) ?_ | refine nt (i0.mpr c0) ?_ | refine nf (i0.mpr c0) ?_
                      have k2 := (kk.2 (fun z => z.2 c0)).2 (fun z => z.2 c0)
                      by_cases c1 : top ≤ 1
                      · first | refine bt (i1.mpr c1) ?_ | refine bf (i1.mpr c1) ?_ | refine nt (i1.mpr c1) ?_ | refine nf (i1.mpr c1) ?_
                        exact ih (p + 1) top st false H' (by omega) ht hf hst (k2.1 c1)
                      · first | refine bt (fun z => c1 (i1.mp z)) ?_ | refine bf (fun z => c1 (i1.mp z)) ?_ | refine nt (fun z => c1 (i1.mp z)) ?_ | refine nf (fun z => c1 (i1.mp z)) ?_
                        rw [et2 (by omega), etm (by omega)]
                        exact ⟨vp_in_nI (by omega) (by decide), vp_in_nI (by omega) (by decide), hJ H' c1 hf hst rfl (k2.2 c1)⟩
                    · first | refine bt (fun z => c0 (i0.mp z)) ?_ | refine bf (fun z => c0 (i0.mp z)) ?_ | refine nt (fun z => c0 (i0.mp z)) ?_ | refine nf (fun z => c0 (i0.mp z)) ?_
                      rw [et1 (by omega)]
                      refine ⟨vp_in_nI (by omega) (by decide), ?_⟩
                      have k2 := (kk.2 (fun z => c11 z.1)).1 ⟨c12, c0⟩
                      rw [nIc (by omega), hst]
                      exact ih (p + 1) top _ false _ (by omega) ht (hf2 _ _) (hs2 _ _) k2
                  · first | refine bt c12 ?_ | refine bf c12 ?_ | refine nt c12 ?_ | refine nf c12 ?_
                    have k2 := (kk.2 (fun z => c11 z.1)).2 (fun z => c12 z.1)
                    by_cases c1 : top ≤ 1
                    · first | refine bt (i1.mpr c1) ?_ | refine bf (i1.mpr c1) ?_ | refine nt (i1.mpr c1) ?_ | refine nf (i1.mpr c1) ?_
                      exact ih (p + 1) top st false H' (by omega) ht hf hst (k2.1 c1)
                    · first | refine bt (fun z => c1 (i1.mp z)) ?_ | refine bf (fun z => c1 (i1.mp z)) ?_ | refine nt (fun z => c1 (i1.mp z)) ?_ | refine nf (fun z => c1 (i1.mp z)) ?_
                      rw [et2 (by omega), etm (by omega)]
                      exact ⟨vp_in_nI (by omega) (by decide), vp_in_nI (by omega) (by decide), hJ H' c1 hf hst rfl (k2.2 c1)⟩
              · first | refine bt (fun z => ct (i64.mp z)) ?_ | refine bf (fun z => ct (i64.mp z)) ?_ | refine nt (fun z => ct (i64.mp z)) ?_ | refine nf (fun z => ct (i64.mp z)) ?_
                rw [if_neg (fun z => z.elim cw ct)] at k
                have ein : vp_in (nI top) 64 := vp_in_nI (by omega) (by decide)
                have et : (nI top).toNatClampNeg = top := nIc (by omega)
                have eta : nI top + (1 : Int32) = nI (top + 1) := nI_1 top
                by_cases cb : 10000 ≤ w
                · first | refine bt cb ?_ | refine bf cb ?_ | refine nt cb ?_ | refine nf cb ?_
                  rw [if_pos cb] at k
                  obtain ⟨q, hq, eq⟩ := hcp cb
                  have en : H'.1 19 (nI q).toNatClampNeg = nm q := by rw [nIc (by omega)]; exact (hf.1 19 q rfl).trans (hnm q hq)
                  have eq' : w - (10000 : Int32) = nI q := eq
                  rw [eq', nIc (by omega)] at k
                  rw [et, eta, eq', en]
                  exact ⟨vp_in_nI hq (by decide), ein, ih (p + 1) (top + 1) _ false _ (by omega) (by omega) (hf2 _ _) (hs2 _ _) k⟩
                · first | refine bt cb ?_ | refine bf cb ?_ | refine nt cb ?_ | refine nf cb ?_
                  rw [if_neg cb] at k
                  rw [et, eta]
                  exact ⟨ein, ih (p + 1) (top + 1) _ false _ (by omega) (by omega) (hf2 _ _) (hs2 _ _) k⟩
      · have hps : ps = true := by
          cases ps with
          | true => rfl
          | false => exact absurd rfl hv2
        subst hps
        rw [if_pos rfl] at k
        by_cases c14 : w = -14
        · first | refine bt c14 ?_ | refine bf c14 ?_ | refine nt c14 ?_ | refine nf c14 ?_
          rw [decide_eq_false (fun z => z c14)] at k
          exact ih (p + 1) top st false H' (by omega) ht hf hst k
        · first | refine bt c14 ?_ | refine bf c14 ?_ | refine nt c14 ?_ | refine nf c14 ?_
          rw [decide_eq_true c14] at k
          exact ih (p + 1) top st true H' (by omega) ht hf hst k
/-- what the class holds as its law -/
def LawC (L : Law) (H : pmT) : Prop := (H.2.2.2 = 16 ∨ H.2.2.2 = 17) ∧ match L with
  | none => H.1 14 6 = nI 0
  | some f => ∃ len, 0 < len ∧ len ≤ 124 ∧ H.1 14 6 = nI len ∧ (∀ j, j < len → 10000 ≤ H.1 H.2.2.2 j → ∃ q, q < 6 ∧ H.1 H.2.2.2 j - 10000 = nI q) ∧ (∀ st nm nm', (∀ j, j < 6 → nm j = nm' j) → evC (H.1 H.2.2.2) nm len 0 0 st false = f nm')
theorem c_workOut {d : Nat} {H : pmT} {K : Int32 → pmT → Prop} {f : (Nat → Int32) → Int32} (hL : LawC (some f) H) (nm : Nat → Int32) (hnm : ∀ j, j < 6 → H.1 19 j = nm j) (k : ∀ H', fr [1800] H H' → K (f nm) H') : pm_R (d + 1) M_La_workOut [.ref 14] H (pm_i K) := by
  obtain ⟨h2, len, h0, hl, hlen, hcd, hev⟩ := hL
  refine m_La_workOut ?_
  exact lp_workOut h2 nm hnm len hlen hl hcd len 0 0 (H.1 18) false H (by omega) (by omega) fr.rf (fun _ => rfl) (fun H'' hf => by rw [hev _ nm nm (fun _ _ => rfl)]; exact k H'' hf)
