/-! the class reads a text -/
theorem pm_Rc {d d' y : Nat} {av : List Value} {H : pmT} {Q : pmQ} (e : d = d') (h : pm_R d y av H Q) : pm_R d' y av H Q := e ▸ h
/-- what reading changes: the place, the draft -/
def pf (H H' : pmT) : Prop := (∀ o k, ¬ o = H.2.2.1 → (o = 14 → ¬ k = 2 ∧ ¬ k = 4) → H'.1 o k = H.1 o k) ∧ H'.2 = H.2
theorem pf.rf {H : pmT} : pf H H := ⟨fun _ _ _ _ => rfl, rfl⟩
theorem pf.tr {H H1 H2 : pmT} (a : pf H H1) (b : pf H1 H2) : pf H H2 := ⟨fun o k h g => (b.1 o k (by rw [a.2]; exact h) g).trans (a.1 o k h g), b.2.trans a.2⟩
def ReadS (t : Nat → Int32) (n p : Nat) (ds : List Int32) (H : pmT) : Prop := H.1 14 1 = nI n ∧ (∀ j, j < n → H.1 15 j = t j) ∧ H.1 14 2 = nI p ∧ H.1 14 4 = nI ds.length ∧ Cds (H.1 H.2.2.1) 0 ds ∧ (H.2.2.1 = 16 ∨ H.2.2.1 = 17) ∧ n ≤ 120
def RLq (t : Nat → Int32) (n : Nat) (ds : List Int32) (x : PT) (H : pmT) (K : Int32 → pmT → Prop) : Prop := match x with
  | .inl q => ∀ H', pf H H' → H'.1 14 2 = nI q → K 0 H'
  | .inr r => ∀ H', pf H H' → ReadS t n r.1 (ds ++ r.2.2) H' → K 1 H'
theorem ReadS.step {t : Nat → Int32} {n p p' : Nat} {ds : List Int32} {H : pmT} (h : ReadS t n p ds H) : ReadS t n p' ds (pm_up H.1 14 2 (nI p'), H.2) ∧ pf H (pm_up H.1 14 2 (nI p'), H.2) := by
  obtain ⟨h1, h2, h3, h4, h5, h6, h7⟩ := h
  have e14 : ∀ k, ¬ k = 2 → pm_up H.1 14 2 (nI p') 14 k = H.1 14 k := fun k hk => by rw [pm_up_self, pk_un hk]
  have eo : ∀ o k, ¬ o = 14 → pm_up H.1 14 2 (nI p') o k = H.1 o k := fun o k ho => by rw [pm_up_ne _ _ _ ho]
  refine ⟨⟨(e14 1 (by decide)).trans h1, fun j hj => (eo 15 j (by decide)).trans (h2 j hj), ?_, (e14 4 (by decide)).trans h4, ?_, h6, h7⟩, fun o k ho hk => ?_, rfl⟩
  · show pm_up H.1 14 2 (nI p') 14 2 = _
    rw [pm_up_self, pk_us]
  · refine Cds_ge ds 0 (fun j _ _ => ?_) h5
    exact eo _ j (by rcases h6 with e | e <;> (show ¬ H.2.2.1 = 14; rw [e]; decide))
  · by_cases e : o = 14
    · subst e; exact e14 k (hk rfl).1
    · exact eo o k e
theorem c_emit {d n p : Nat} {t : Nat → Int32} {ds : List Int32} {w : Int32} {H : pmT} {K : pmT → Prop} (h : ReadS t n p ds H) (hl : ds.length < 124) (kk : ∀ H', pf H H' → ReadS t n p (ds ++ [w]) H' → K H') : pm_R d M_La_emit [.ref 14, .int w] H (pm_v K) := by
  obtain ⟨h1, h2, h3, h4, h5, h6, h7⟩ := h
  refine m_La_emit _ ?_
  have c : ¬ (124 : Int32) ≤ H.1 14 4 := by
    rw [h4]
    intro z
    have := (nI_leI (a := 124) (b := ds.length) (by decide) (by omega)).mp z
    omega
  first | refine bt c ?_ | refine bf c ?_ | refine nt c ?_ | refine nf c ?_
  have esh : pm_SH[H.2.2.1]? = some (.inr (0, 124)) := by rcases h6 with e | e <;> rw [e] <;> rfl
  have hne : ¬ H.2.2.1 = 14 := by rcases h6 with e | e <;> rw [e] <;> decide
  have hne5 : ¬ H.2.2.1 = 15 := by rcases h6 with e | e <;> rw [e] <;> decide
  refine pm_mkA esh ?_
  have e4 : pm_up H.1 H.2.2.1 (H.1 14 4).toNatClampNeg w 14 4 = nI ds.length := by rw [pm_up_ne _ _ _ (fun z => hne z.symm)]; exact h4
  rw [e4]
  rw [h4, nIc (by omega), show nI ds.length + (1 : Int32) = nI (ds.length + 1) from nI_1 _]
  refine ⟨vp_in_nI hl (by decide), ?_⟩
  have eo : ∀ o k, ¬ o = 14 → ¬ o = H.2.2.1 → pm_up (pm_up H.1 H.2.2.1 ds.length w) 14 4 (nI (ds.length + 1)) o k = H.1 o k := fun o k ho ho2 => by rw [pm_up_ne _ _ _ ho, pm_up_ne _ _ _ ho2]
  have e14 : ∀ k, ¬ k = 4 → pm_up (pm_up H.1 H.2.2.1 ds.length w) 14 4 (nI (ds.length + 1)) 14 k = H.1 14 k := fun k hk => by rw [pm_up_self, pk_un hk, pm_up_ne _ _ _ (fun z => hne z.symm)]
  have ed : ∀ k, pm_up (pm_up H.1 H.2.2.1 ds.length w) 14 4 (nI (ds.length + 1)) H.2.2.1 k = upd (H.1 H.2.2.1) ds.length w k := fun k => by rw [pm_up_ne _ _ _ hne, pm_up_self]
  refine kk _ ⟨fun o k ho hk => ?_, rfl⟩ ⟨(e14 1 (by decide)).trans h1, fun j hj => (eo 15 j (by decide) (fun z => hne5 z.symm)).trans (h2 j hj), (e14 2 (by decide)).trans h3, ?_, ?_, h6, h7⟩
  · by_cases e : o = 14
    · subst e; exact e14 k (hk rfl).2
    · exact eo o k e ho
  · show pm_up (pm_up H.1 H.2.2.1 ds.length w) 14 4 (nI (ds.length + 1)) 14 4 = _
    rw [pm_up_self, pk_us, List.length_append]
    rfl
  · refine Cds_snoc ds 0 (Cds_ge ds 0 (fun j _ hj => ?_) h5) ?_
    · show pm_up (pm_up H.1 H.2.2.1 ds.length w) 14 4 (nI (ds.length + 1)) H.2.2.1 j = _
      rw [ed]
      exact pk_un (by omega)
    · show pm_up (pm_up H.1 H.2.2.1 ds.length w) 14 4 (nI (ds.length + 1)) H.2.2.1 (0 + ds.length) = _
      rw [ed, Nat.zero_add]
      exact pk_us
def nmI (x : Option Nat) : Int32 := match x with
  | some k => nI k
  | none => -1
theorem c_nameOf {d : Nat} {b : Int32} {H : pmT} {K : Int32 → pmT → Prop} (kk : K (nmI (nmOf b)) H) : pm_R d M_La_nameOf [.int b] H (pm_i K) := by
  refine m_La_nameOf _ ?_
  unfold nmOf at kk
  repeat' (first | intro hh | apply And.intro)
  all_goals first
    | (simpa [*, nmI] using kk)
    | (subst b; exact kk)
theorem c_opOf {d lv : Nat} {b : Int32} {H : pmT} {K : Int32 → pmT → Prop} (hl : lv < 5) (kk : K (opOf lv b) H) : pm_R d M_La_operationOf [.int (nI lv), .int b] H (pm_i K) := by
  refine m_La_operationOf _ _ ?_
  have el : ∀ j : Nat, j < 5 → (nI lv = nI j) = (lv = j) := fun j hj => i_eq lv j (by omega) (by omega)
  rw [show (nI lv = (0 : Int32)) = (lv = 0) from el 0 (by decide), show (nI lv = (4 : Int32)) = (lv = 4) from el 4 (by decide), show (nI lv = (1 : Int32)) = (lv = 1) from el 1 (by decide), show (nI lv = (3 : Int32)) = (lv = 3) from el 3 (by decide), show (nI lv = (2 : Int32)) = (lv = 2) from el 2 (by decide)]
  unfold opOf at kk
  rcases (show lv = 0 ∨ lv = 1 ∨ lv = 2 ∨ lv = 3 ∨ lv = 4 by omega) with e | e | e | e | e <;> subst e
  all_goals repeat' (first | intro hh | apply And.intro)
  all_goals first
    | (exfalso; omega)
    | (subst b; simpa using kk)
    | (simpa [*] using kk)
/-- what stands at the place -/
theorem ReadS.at {t : Nat → Int32} {n p : Nat} {ds : List Int32} {H : pmT} (h : ReadS t n p ds H) (hp : p < n) : H.1 15 (H.1 14 2).toNatClampNeg = bT t n p ∧ vp_in (H.1 14 2) 120 := by
  obtain ⟨h1, h2, h3, h4, h5, h6, h7⟩ := h
  rw [h3, nIc (by omega)]
  exact ⟨(h2 p hp).trans (if_pos hp).symm, vp_in_nI (by omega) (by decide)⟩
theorem ReadS.ends {t : Nat → Int32} {n p : Nat} {ds : List Int32} {H : pmT} (h : ReadS t n p ds H) (hp : p ≤ n) : (H.1 14 1 ≤ H.1 14 2) = (n ≤ p) := by
  obtain ⟨h1, h2, h3, h4, h5, h6, h7⟩ := h
  rw [h1, h3]
  exact i_le _ _ (by omega) (by omega)
theorem ReadS.inc {t : Nat → Int32} {n p : Nat} {ds : List Int32} {H : pmT} (h : ReadS t n p ds H) : H.1 14 2 + (1 : Int32) = nI (p + 1) := by
  rw [h.2.2.1]; exact nI_1 p
/-- digits -/
theorem lp_num {d n : Nat} {t : Nat → Int32} {ds : List Int32} {K : pmT → Prop} {H0 : pmT} (hl : ds.length < 124) : ∀ (m j p : Nat) (v : Int32) (H : pmT), j + m = 4 → p ≤ n → pf H0 H → ReadS t n p ds H → (∀ H', pf H0 H' → ReadS t n (numL (bT t n) m p v).1 (ds ++ [(numL (bT t n) m p v).2]) H' → K H') → pm_RW none (d + 1) M_La_readNumber (pm_v K) 4 [(0, .ref 14), (1, .int v), (2, .int (nI j))] [] H
  | 0, j, p, v, H, hj, hp, hf, hS, kk => by
    refine b_La_readNumber_4 _ _ ?_
    have c : (4 : Int32) ≤ nI j := by rw [show j = 4 by omega]; decide
    first | refine bt c ?_ | refine bf c ?_ | refine nt c ?_ | refine nf c ?_
    exact c_emit hS hl (fun H' f h => kk H' (hf.tr f) h)
  | m + 1, j, p, v, H, hj, hp, hf, hS, kk => by
    have ih := lp_num (d := d) (n := n) (t := t) (K := K) (H0 := H0) hl m
    have hn120 := hS.2.2.2.2.2.2
    refine b_La_readNumber_4 _ _ ?_
    have c : ¬ (4 : Int32) ≤ nI j := fun z => by
      have := (nI_leI (a := 4) (b := j) (by decide) (by omega)).mp z
      omega
    first | refine bt c ?_ | refine bf c ?_ | refine nt c ?_ | refine nf c ?_
    rw [hS.ends hp]
    unfold numL at kk
    by_cases cn : n ≤ p
    · first | refine bt cn ?_ | refine bf cn ?_ | refine nt cn ?_ | refine nf cn ?_
      rw [bT_out p cn, if_pos (Or.inl (by decide))] at kk
      exact c_emit hS hl (fun H' f h => kk H' (hf.tr f) h)
    · first | refine bt cn ?_ | refine bf cn ?_ | refine nt cn ?_ | refine nf cn ?_
      obtain ⟨eb, hin⟩ := hS.at (by omega)
      rw [eb]
      refine ⟨hin, ?_⟩
      by_cases c1 : bT t n p < 48
      · first | refine bt c1 ?_ | refine bf c1 ?_ | refine nt c1 ?_ | refine nf c1 ?_
        rw [if_pos (Or.inl c1)] at kk
        exact c_emit hS hl (fun H' f h => kk H' (hf.tr f) h)
      · first | refine bt c1 ?_ | refine bf c1 ?_ | refine nt c1 ?_ | refine nf c1 ?_
        by_cases c2 : 57 < bT t n p
        · first | refine bt c2 ?_ | refine bf c2 ?_ | refine nt c2 ?_ | refine nf c2 ?_
          rw [if_pos (Or.inr c2)] at kk
          exact c_emit hS hl (fun H' f h => kk H' (hf.tr f) h)
        · first | refine bt c2 ?_ | refine bf c2 ?_ | refine nt c2 ?_ | refine nf c2 ?_
          rw [if_neg (fun z => z.elim c1 c2)] at kk
          rw [hS.inc, show nI j + (1 : Int32) = nI (j + 1) from nI_1 j]
          obtain ⟨s1, s2⟩ := hS.step (p' := p + 1)
          exact ih (j + 1) (p + 1) _ _ (by omega) (by omega) (hf.tr s2) s1 kk
theorem c_read {t : Nat → Int32} {n : Nat} : ∀ (F : Nat), (∀ {d : Nat} {K : Int32 → pmT → Prop} (o p : Nat) (ds : List Int32) (H : pmT), o ≤ 6 → p ≤ n → 7 * (6 - o) + 1 ≤ F → ds.length ≤ p → ReadS t n p ds H → RLq t n ds (pP (bT t n) F 5 o p) H K → pm_R (d + 3 * F + 2) M_La_readOperand [.ref 14, .int (nI o)] H (pm_i K)) ∧ (∀ {d : Nat} {K : Int32 → pmT → Prop} (lv o p : Nat) (ds : List Int32) (H : pmT), lv ≤ 5 → o ≤ 6 → p ≤ n → 7 * (6 - o) + (6 - lv) ≤ F → ds.length ≤ p → ReadS t n p ds H → RLq t n ds (pP (bT t n) F lv o p) H K → pm_R (d + 3 * F + 3) M_La_readLevel [.ref 14, .int (nI lv), .int (nI o)] H (pm_i K))
  | 0 => ⟨fun o p ds H ho hp hF => by omega, fun lv o p ds H hlv ho hp hF => by omega⟩
  | F + 1 => by
    obtain ⟨ihA, ihB⟩ := c_read (t := t) (n := n) F
    have A : ∀ {d : Nat} {K : Int32 → pmT → Prop} (o p : Nat) (ds : List Int32) (H : pmT), o ≤ 6 → p ≤ n → 7 * (6 - o) + 1 ≤ F + 1 → ds.length ≤ p → ReadS t n p ds H → RLq t n ds (pP (bT t n) (F + 1) 5 o p) H K → pm_R (d + 3 * (F + 1) + 2) M_La_readOperand [.ref 14, .int (nI o)] H (pm_i K) := by
      intro d K o p ds H ho hp hF hd hS kk
      rw [show d + 3 * (F + 1) + 2 = d + 3 * F + 4 + 1 by omega]
      refine m_La_readOperand _ ?_
      have hn120 := hS.2.2.2.2.2.2
      unfold pP at kk
      rw [if_neg (by decide)] at kk
      rw [hS.ends hp]
      by_cases cn : n ≤ p
      · first | refine bt cn ?_ | refine bf cn ?_ | refine nt cn ?_ | refine nf cn ?_
        have e0 : bT t n p = 0 := bT_out p cn
        have kk0 : K 0 H := by
          rw [e0, if_pos (Or.inl (by decide)), show nmOf 0 = none from rfl] at kk
          simp only at kk
          by_cases c6 : 6 ≤ o
          · rw [if_pos c6] at kk; exact kk H pf.rf hS.2.2.1
          · rw [if_neg c6, if_neg (by decide), if_neg (by decide), if_neg (by decide)] at kk; exact kk H pf.rf hS.2.2.1
        refine c_nameOf ?_
        have ck : nmI (nmOf (-1)) < 0 := by decide
        first | refine bt ck ?_ | refine bf ck ?_ | refine nt ck ?_ | refine nf ck ?_
        by_cases c6 : nI o < (6 : Int32)
        · first | refine bt c6 ?_ | refine bf c6 ?_ | refine nt c6 ?_ | refine nf c6 ?_
          exact kk0
        · first | refine bt c6 ?_ | refine bf c6 ?_ | refine nt c6 ?_ | refine nf c6 ?_
          exact kk0
      · first | refine bt cn ?_ | refine bf cn ?_ | refine nt cn ?_ | refine nf cn ?_
        obtain ⟨eb, hin⟩ := hS.at (by omega)
        rw [eb]
        refine ⟨hin, ?_⟩
        by_cases c1 : bT t n p < 48
        · first | refine bt c1 ?_ | refine bf c1 ?_ | refine nt c1 ?_ | refine nf c1 ?_
          have cd : bT t n p < 48 ∨ 57 < bT t n p := Or.inl c1
          have kn : pm_R (d + 3 * F + 4) M_La_nameOf [.int (bT t n p)] H (pm_i (fun x44 H43 => (x44 < 0 → (nI o < (6 : Int32) → (¬ bT t n p = (40 : Int32) → (bT t n p = (33 : Int32) → pm_R (d + 3 * F + 4) M_La_readOperand [.ref 14, .int (nI o + (1 : Int32))] ((pm_up H43.1 14 2 ((H43.1 14 2) + (1 : Int32))), H43.2) (pm_i (fun x46 H45 => (¬ x46 = 0 → pm_R (d + 3 * F + 4) M_La_emit [.ref 14, .int (-11 : Int32)] H45 (pm_v (fun H48 => pm_i K (some (.int (1 : Int32))) H48))) ∧ (x46 = 0 → pm_i K (some (.int (0 : Int32))) H45)))) ∧ (¬ bT t n p = (33 : Int32) → (bT t n p = (45 : Int32) → pm_R (d + 3 * F + 4) M_La_readOperand [.ref 14, .int (nI o + (1 : Int32))] ((pm_up H43.1 14 2 ((H43.1 14 2) + (1 : Int32))), H43.2) (pm_i (fun x50 H49 => (¬ x50 = 0 → pm_R (d + 3 * F + 4) M_La_emit [.ref 14, .int (-12 : Int32)] H49 (pm_v (fun H51 => pm_i K (some (.int (1 : Int32))) H51))) ∧ (x50 = 0 → pm_i K (some (.int (0 : Int32))) H49)))) ∧ (¬ bT t n p = (45 : Int32) → pm_i K (some (.int (0 : Int32))) H43))) ∧ (bT t n p = (40 : Int32) → pm_R (d + 3 * F + 4) M_La_readBracket [.ref 14, .int (nI o + (1 : Int32))] H43 (pm_i (fun x54 H53 => (x54 = 0 ∨ x54 = 1) ∧ (pm_i K (some (.int x54)) H53))))) ∧ (¬ nI o < (6 : Int32) → pm_i K (some (.int (0 : Int32))) H43)) ∧ (¬ x44 < 0 → pm_R (d + 3 * F + 4) M_La_emit [.ref 14, .int ((10000 : Int32) + x44)] ((pm_up H43.1 14 2 ((H43.1 14 2) + (1 : Int32))), H43.2) (pm_v (fun H55 => pm_i K (some (.int (1 : Int32))) H55))))) := by
            rw [if_pos cd] at kk
            refine c_nameOf ?_
            cases hn : nmOf (bT t n p) with
            | some k =>
              rw [hn] at kk
              have ck : ¬ nmI (some k) < 0 := nI_pos (by have := nmOf_lt hn; omega)
              first | refine bt ck ?_ | refine bf ck ?_ | refine nt ck ?_ | refine nf ck ?_
              rw [hS.inc]
              obtain ⟨s1, s2⟩ := hS.step (p' := p + 1)
              exact c_emit s1 (by omega) (fun H' f h => kk H' (s2.tr f) h)
            | none =>
              rw [hn] at kk
              simp only at kk
              have ck : nmI none < 0 := by decide
              first | refine bt ck ?_ | refine bf ck ?_ | refine nt ck ?_ | refine nf ck ?_
              by_cases c6 : 6 ≤ o
              · rw [if_pos c6] at kk
                first | refine bt (fun z => by have := (nI_ltI (a := o) (b := 6) (by omega) (by decide)).mp z; omega) ?_ | refine bf (fun z => by have := (nI_ltI (a := o) (b := 6) (by omega) (by decide)).mp z; omega) ?_ | refine nt (fun z => by have := (nI_ltI (a := o) (b := 6) (by omega) (by decide)).mp z; omega) ?_ | refine nf (fun z => by have := (nI_ltI (a := o) (b := 6) (by omega) (by decide)).mp z; omega) ?_
                exact kk H pf.rf hS.2.2.1
              · rw [if_neg c6] at kk
                first | refine bt ((nI_ltI (a := o) (b := 6) (by omega) (by decide)).mpr (by omega)) ?_ | refine bf ((nI_ltI (a := o) (b := 6) (by omega) (by decide)).mpr (by omega)) ?_ | refine nt ((nI_ltI (a := o) (b := 6) (by omega) (by decide)).mpr (by omega)) ?_ | refine nf ((nI_ltI (a := o) (b := 6) (by omega) (by decide)).mpr (by omega)) ?_
                rw [show nI o + (1 : Int32) = nI (o + 1) from nI_1 o]
                by_cases c40 : bT t n p = 40
                · first | refine bt c40 ?_ | refine bf c40 ?_ | refine nt c40 ?_ | refine nf c40 ?_
                  rw [if_pos c40] at kk
                  refine m_La_readBracket _ ?_
                  rw [hS.inc]
                  obtain ⟨s1, s2⟩ := hS.step (p' := p + 1)
                  refine ihB 0 (o + 1) (p + 1) ds _ (by decide) (by omega) (by omega) (by omega) (by omega) s1 ?_
                  generalize hx : pP (bT t n) F 0 (o + 1) (p + 1) = x at kk
                  have hk := PTok_pP (bT_out (t := t)) F 0 (o + 1) (p + 1) (show p + 1 ≤ n by omega)
                  rw [hx] at hk
                  match x, kk, hk with
                  | .inl q, kk, hk =>
                    intro H' f e
                    first | refine bt (show (0 : Int32) = 0 from rfl) ?_ | refine bf (show (0 : Int32) = 0 from rfl) ?_ | refine nt (show (0 : Int32) = 0 from rfl) ?_ | refine nf (show (0 : Int32) = 0 from rfl) ?_
                    exact ⟨Or.inl rfl, kk H' (s2.tr f) e⟩
                  | .inr r, kk, hk =>
                    intro H' f h
                    first | refine bt (show ¬ (1 : Int32) = 0 by decide) ?_ | refine bf (show ¬ (1 : Int32) = 0 by decide) ?_ | refine nt (show ¬ (1 : Int32) = 0 by decide) ?_ | refine nf (show ¬ (1 : Int32) = 0 by decide) ?_
                    simp only at kk
                    rw [h.ends hk.2.1]
                    by_cases cn2 : n ≤ r.1
                    · first | refine bt cn2 ?_ | refine bf cn2 ?_ | refine nt cn2 ?_ | refine nf cn2 ?_
                      rw [bT_out _ cn2, if_neg (by decide)] at kk
                      exact ⟨Or.inl rfl, kk H' (s2.tr f) h.2.2.1⟩
                    · first | refine bt cn2 ?_ | refine bf cn2 ?_ | refine nt cn2 ?_ | refine nf cn2 ?_
                      obtain ⟨eb2, hin2⟩ := h.at (by omega)
                      rw [eb2]
                      refine ⟨hin2, ?_⟩
                      by_cases c41 : bT t n r.1 = 41
                      · first | refine bt c41 ?_ | refine bf c41 ?_ | refine nt c41 ?_ | refine nf c41 ?_
                        rw [if_pos c41] at kk
                        rw [h.inc]
                        obtain ⟨s3, s4⟩ := h.step (p' := r.1 + 1)
                        exact ⟨Or.inr rfl, kk _ ((s2.tr f).tr s4) s3⟩
                      · first | refine bt c41 ?_ | refine bf c41 ?_ | refine nt c41 ?_ | refine nf c41 ?_
                        rw [if_neg c41] at kk
                        exact ⟨Or.inl rfl, kk H' (s2.tr f) h.2.2.1⟩
                · first | refine bt c40 ?_ | refine bf c40 ?_ | refine nt c40 ?_ | refine nf c40 ?_
                  rw [if_neg c40] at kk
                  by_cases c33 : bT t n p = 33
                  · first | refine bt c33 ?_ | refine bf c33 ?_ | refine nt c33 ?_ | refine nf c33 ?_
                    rw [if_pos c33] at kk
                    rw [hS.inc]
                    obtain ⟨s1, s2⟩ := hS.step (p' := p + 1)
                    refine pm_Rc (show d + 2 + 3 * F + 2 = d + 3 * F + 4 by omega) (ihA (o + 1) (p + 1) ds _ (by omega) (by omega) (by omega) (by omega) s1 ?_)
                    generalize hx : pP (bT t n) F 5 (o + 1) (p + 1) = x at kk
                    have hk := PTok_pP (bT_out (t := t)) F 5 (o + 1) (p + 1) (show p + 1 ≤ n by omega)
                    rw [hx] at hk
                    match x, kk, hk with
                    | .inl q, kk, hk =>
                      intro H' f e
                      first | refine bt (show (0 : Int32) = 0 from rfl) ?_ | refine bf (show (0 : Int32) = 0 from rfl) ?_ | refine nt (show (0 : Int32) = 0 from rfl) ?_ | refine nf (show (0 : Int32) = 0 from rfl) ?_
                      exact kk H' (s2.tr f) e
                    | .inr r, kk, hk =>
                      intro H' f h
                      first | refine bt (show ¬ (1 : Int32) = 0 by decide) ?_ | refine bf (show ¬ (1 : Int32) = 0 by decide) ?_ | refine nt (show ¬ (1 : Int32) = 0 by decide) ?_ | refine nf (show ¬ (1 : Int32) = 0 by decide) ?_
                      refine c_emit h (by obtain ⟨g1, g2, g3, g4, g5⟩ := hk; have := h.2.2.2.2.2.2; rw [List.length_append]; omega) (fun H'' f' h' => kk H'' ((s2.tr f).tr f') ?_)
                      rw [List.append_assoc] at h'
                      exact h'
                  · first | refine bt c33 ?_ | refine bf c33 ?_ | refine nt c33 ?_ | refine nf c33 ?_
                    rw [if_neg c33] at kk
                    by_cases c45 : bT t n p = 45
                    · first | refine bt c45 ?_ | refine bf c45 ?_ | refine nt c45 ?_ | refine nf c45 ?_
                      rw [if_pos c45] at kk
                      rw [hS.inc]
                      obtain ⟨s1, s2⟩ := hS.step (p' := p + 1)
                      refine pm_Rc (show d + 2 + 3 * F + 2 = d + 3 * F + 4 by omega) (ihA (o + 1) (p + 1) ds _ (by omega) (by omega) (by omega) (by omega) s1 ?_)
                      generalize hx : pP (bT t n) F 5 (o + 1) (p + 1) = x at kk
                      have hk := PTok_pP (bT_out (t := t)) F 5 (o + 1) (p + 1) (show p + 1 ≤ n by omega)
                      rw [hx] at hk
                      match x, kk, hk with
                      | .inl q, kk, hk =>
                        intro H' f e
                        first | refine bt (show (0 : Int32) = 0 from rfl) ?_ | refine bf (show (0 : Int32) = 0 from rfl) ?_ | refine nt (show (0 : Int32) = 0 from rfl) ?_ | refine nf (show (0 : Int32) = 0 from rfl) ?_
                        exact kk H' (s2.tr f) e
                      | .inr r, kk, hk =>
                        intro H' f h
                        first | refine bt (show ¬ (1 : Int32) = 0 by decide) ?_ | refine bf (show ¬ (1 : Int32) = 0 by decide) ?_ | refine nt (show ¬ (1 : Int32) = 0 by decide) ?_ | refine nf (show ¬ (1 : Int32) = 0 by decide) ?_
                        refine c_emit h (by obtain ⟨g1, g2, g3, g4, g5⟩ := hk; have := h.2.2.2.2.2.2; rw [List.length_append]; omega) (fun H'' f' h' => kk H'' ((s2.tr f).tr f') ?_)
                        rw [List.append_assoc] at h'
                        exact h'
                    · first | refine bt c45 ?_ | refine bf c45 ?_ | refine nt c45 ?_ | refine nf c45 ?_
                      rw [if_neg c45] at kk
                      exact kk H pf.rf hS.2.2.1
          exact kn
        · first | refine bt c1 ?_ | refine bf c1 ?_ | refine nt c1 ?_ | refine nf c1 ?_
          by_cases c2 : 57 < bT t n p
          · first | refine bt c2 ?_ | refine bf c2 ?_ | refine nt c2 ?_ | refine nf c2 ?_
            have cd : bT t n p < 48 ∨ 57 < bT t n p := Or.inr c2
            have kn : pm_R (d + 3 * F + 4) M_La_nameOf [.int (bT t n p)] H (pm_i (fun x44 H43 => (x44 < 0 → (nI o < (6 : Int32) → (¬ bT t n p = (40 : Int32) → (bT t n p = (33 : Int32) → pm_R (d + 3 * F + 4) M_La_readOperand [.ref 14, .int (nI o + (1 : Int32))] ((pm_up H43.1 14 2 ((H43.1 14 2) + (1 : Int32))), H43.2) (pm_i (fun x46 H45 => (¬ x46 = 0 → pm_R (d + 3 * F + 4) M_La_emit [.ref 14, .int (-11 : Int32)] H45 (pm_v (fun H48 => pm_i K (some (.int (1 : Int32))) H48))) ∧ (x46 = 0 → pm_i K (some (.int (0 : Int32))) H45)))) ∧ (¬ bT t n p = (33 : Int32) → (bT t n p = (45 : Int32) → pm_R (d + 3 * F + 4) M_La_readOperand [.ref 14, .int (nI o + (1 : Int32))] ((pm_up H43.1 14 2 ((H43.1 14 2) + (1 : Int32))), H43.2) (pm_i (fun x50 H49 => (¬ x50 = 0 → pm_R (d + 3 * F + 4) M_La_emit [.ref 14, .int (-12 : Int32)] H49 (pm_v (fun H51 => pm_i K (some (.int (1 : Int32))) H51))) ∧ (x50 = 0 → pm_i K (some (.int (0 : Int32))) H49)))) ∧ (¬ bT t n p = (45 : Int32) → pm_i K (some (.int (0 : Int32))) H43))) ∧ (bT t n p = (40 : Int32) → pm_R (d + 3 * F + 4) M_La_readBracket [.ref 14, .int (nI o + (1 : Int32))] H43 (pm_i (fun x54 H53 => (x54 = 0 ∨ x54 = 1) ∧ (pm_i K (some (.int x54)) H53))))) ∧ (¬ nI o < (6 : Int32) → pm_i K (some (.int (0 : Int32))) H43)) ∧ (¬ x44 < 0 → pm_R (d + 3 * F + 4) M_La_emit [.ref 14, .int ((10000 : Int32) + x44)] ((pm_up H43.1 14 2 ((H43.1 14 2) + (1 : Int32))), H43.2) (pm_v (fun H55 => pm_i K (some (.int (1 : Int32))) H55))))) := by
              rw [if_pos cd] at kk
              refine c_nameOf ?_
              cases hn : nmOf (bT t n p) with
              | some k =>
                rw [hn] at kk
                have ck : ¬ nmI (some k) < 0 := nI_pos (by have := nmOf_lt hn; omega)
                first | refine bt ck ?_ | refine bf ck ?_ | refine nt ck ?_ | refine nf ck ?_
                rw [hS.inc]
                obtain ⟨s1, s2⟩ := hS.step (p' := p + 1)
                exact c_emit s1 (by omega) (fun H' f h => kk H' (s2.tr f) h)
              | none =>
                rw [hn] at kk
                simp only at kk
                have ck : nmI none < 0 := by decide
                first | refine bt ck ?_ | refine bf ck ?_ | refine nt ck ?_ | refine nf ck ?_
                by_cases c6 : 6 ≤ o
                · rw [if_pos c6] at kk
                  first | refine bt (fun z => by have := (nI_ltI (a := o) (b := 6) (by omega) (by decide)).mp z; omega) ?_ | refine bf (fun z => by have := (nI_ltI (a := o) (b := 6) (by omega) (by decide)).mp z; omega) ?_ | refine nt (fun z => by have := (nI_ltI (a := o) (b := 6) (by omega) (by decide)).mp z; omega) ?_ | refine nf (fun z => by have := (nI_ltI (a := o) (b := 6) (by omega) (by decide)).mp z; omega) ?_
                  exact kk H pf.rf hS.2.2.1
                · rw [if_neg c6] at kk
                  first | refine bt ((nI_ltI (a := o) (b := 6) (by omega) (by decide)).mpr (by omega)) ?_ | refine bf ((nI_ltI (a := o) (b := 6) (by omega) (by decide)).mpr (by omega)) ?_ | refine nt ((nI_ltI (a := o) (b := 6) (by omega) (by decide)).mpr (by omega)) ?_ | refine nf ((nI_ltI (a := o) (b := 6) (by omega) (by decide)).mpr (by omega)) ?_
                  rw [show nI o + (1 : Int32) = nI (o + 1) from nI_1 o]
                  by_cases c40 : bT t n p = 40
                  · first | refine bt c40 ?_ | refine bf c40 ?_ | refine nt c40 ?_ | refine nf c40 ?_
                    rw [if_pos c40] at kk
                    refine m_La_readBracket _ ?_
                    rw [hS.inc]
                    obtain ⟨s1, s2⟩ := hS.step (p' := p + 1)
                    refine ihB 0 (o + 1) (p + 1) ds _ (by decide) (by omega) (by omega) (by omega) (by omega) s1 ?_
                    generalize hx : pP (bT t n) F 0 (o + 1) (p + 1) = x at kk
                    have hk := PTok_pP (bT_out (t := t)) F 0 (o + 1) (p + 1) (show p + 1 ≤ n by omega)
                    rw [hx] at hk
                    match x, kk, hk with
                    | .inl q, kk, hk =>
                      intro H' f e
                      first | refine bt (show (0 : Int32) = 0 from rfl) ?_ | refine bf (show (0 : Int32) = 0 from rfl) ?_ | refine nt (show (0 : Int32) = 0 from rfl) ?_ | refine nf (show (0 : Int32) = 0 from rfl) ?_
                      exact ⟨Or.inl rfl, kk H' (s2.tr f) e⟩
                    | .inr r, kk, hk =>
                      intro H' f h
                      first | refine bt (show ¬ (1 : Int32) = 0 by decide) ?_ | refine bf (show ¬ (1 : Int32) = 0 by decide) ?_ | refine nt (show ¬ (1 : Int32) = 0 by decide) ?_ | refine nf (show ¬ (1 : Int32) = 0 by decide) ?_
                      simp only at kk
                      rw [h.ends hk.2.1]
                      by_cases cn2 : n ≤ r.1
                      · first | refine bt cn2 ?_ | refine bf cn2 ?_ | refine nt cn2 ?_ | refine nf cn2 ?_
                        rw [bT_out _ cn2, if_neg (by decide)] at kk
                        exact ⟨Or.inl rfl, kk H' (s2.tr f) h.2.2.1⟩
                      · first | refine bt cn2 ?_ | refine bf cn2 ?_ | refine nt cn2 ?_ | refine nf cn2 ?_
                        obtain ⟨eb2, hin2⟩ := h.at (by omega)
                        rw [eb2]
                        refine ⟨hin2, ?_⟩
                        by_cases c41 : bT t n r.1 = 41
                        · first | refine bt c41 ?_ | refine bf c41 ?_ | refine nt c41 ?_ | refine nf c41 ?_
                          rw [if_pos c41] at kk
                          rw [h.inc]
                          obtain ⟨s3, s4⟩ := h.step (p' := r.1 + 1)
                          exact ⟨Or.inr rfl, kk _ ((s2.tr f).tr s4) s3⟩
                        · first | refine bt c41 ?_ | refine bf c41 ?_ | refine nt c41 ?_ | refine nf c41 ?_
                          rw [if_neg c41] at kk
                          exact ⟨Or.inl rfl, kk H' (s2.tr f) h.2.2.1⟩
                  · first | refine bt c40 ?_ | refine bf c40 ?_ | refine nt c40 ?_ | refine nf c40 ?_
                    rw [if_neg c40] at kk
                    by_cases c33 : bT t n p = 33
                    · first | refine bt c33 ?_ | refine bf c33 ?_ | refine nt c33 ?_ | refine nf c33 ?_
                      rw [if_pos c33] at kk
                      rw [hS.inc]
                      obtain ⟨s1, s2⟩ := hS.step (p' := p + 1)
                      refine pm_Rc (show d + 2 + 3 * F + 2 = d + 3 * F + 4 by omega) (ihA (o + 1) (p + 1) ds _ (by omega) (by omega) (by omega) (by omega) s1 ?_)
                      generalize hx : pP (bT t n) F 5 (o + 1) (p + 1) = x at kk
                      have hk := PTok_pP (bT_out (t := t)) F 5 (o + 1) (p + 1) (show p + 1 ≤ n by omega)
                      rw [hx] at hk
                      match x, kk, hk with
                      | .inl q, kk, hk =>
                        intro H' f e
                        first | refine bt (show (0 : Int32) = 0 from rfl) ?_ | refine bf (show (0 : Int32) = 0 from rfl) ?_ | refine nt (show (0 : Int32) = 0 from rfl) ?_ | refine nf (show (0 : Int32) = 0 from rfl) ?_
                        exact kk H' (s2.tr f) e
                      | .inr r, kk, hk =>
                        intro H' f h
                        first | refine bt (show ¬ (1 : Int32) = 0 by decide) ?_ | refine bf (show ¬ (1 : Int32) = 0 by decide) ?_ | refine nt (show ¬ (1 : Int32) = 0 by decide) ?_ | refine nf (show ¬ (1 : Int32) = 0 by decide) ?_
                        refine c_emit h (by obtain ⟨g1, g2, g3, g4, g5⟩ := hk; have := h.2.2.2.2.2.2; rw [List.length_append]; omega) (fun H'' f' h' => kk H'' ((s2.tr f).tr f') ?_)
                        rw [List.append_assoc] at h'
                        exact h'
                    · first | refine bt c33 ?_ | refine bf c33 ?_ | refine nt c33 ?_ | refine nf c33 ?_
                      rw [if_neg c33] at kk
                      by_cases c45 : bT t n p = 45
                      · first | refine bt c45 ?_ | refine bf c45 ?_ | refine nt c45 ?_ | refine nf c45 ?_
                        rw [if_pos c45] at kk
                        rw [hS.inc]
                        obtain ⟨s1, s2⟩ := hS.step (p' := p + 1)
                        refine pm_Rc (show d + 2 + 3 * F + 2 = d + 3 * F + 4 by omega) (ihA (o + 1) (p + 1) ds _ (by omega) (by omega) (by omega) (by omega) s1 ?_)
                        generalize hx : pP (bT t n) F 5 (o + 1) (p + 1) = x at kk
                        have hk := PTok_pP (bT_out (t := t)) F 5 (o + 1) (p + 1) (show p + 1 ≤ n by omega)
                        rw [hx] at hk
                        match x, kk, hk with
                        | .inl q, kk, hk =>
                          intro H' f e
                          first | refine bt (show (0 : Int32) = 0 from rfl) ?_ | refine bf (show (0 : Int32) = 0 from rfl) ?_ | refine nt (show (0 : Int32) = 0 from rfl) ?_ | refine nf (show (0 : Int32) = 0 from rfl) ?_
                          exact kk H' (s2.tr f) e
                        | .inr r, kk, hk =>
                          intro H' f h
                          first | refine bt (show ¬ (1 : Int32) = 0 by decide) ?_ | refine bf (show ¬ (1 : Int32) = 0 by decide) ?_ | refine nt (show ¬ (1 : Int32) = 0 by decide) ?_ | refine nf (show ¬ (1 : Int32) = 0 by decide) ?_
                          refine c_emit h (by obtain ⟨g1, g2, g3, g4, g5⟩ := hk; have := h.2.2.2.2.2.2; rw [List.length_append]; omega) (fun H'' f' h' => kk H'' ((s2.tr f).tr f') ?_)
                          rw [List.append_assoc] at h'
                          exact h'
                      · first | refine bt c45 ?_ | refine bf c45 ?_ | refine nt c45 ?_ | refine nf c45 ?_
                        rw [if_neg c45] at kk
                        exact kk H pf.rf hS.2.2.1
            exact kn
          · first | refine bt c2 ?_ | refine bf c2 ?_ | refine nt c2 ?_ | refine nf c2 ?_
            rw [if_neg (fun z => z.elim c1 c2)] at kk
            refine m_La_readNumber ?_
            exact lp_num (by omega) 4 0 p 0 H rfl hp pf.rf hS (fun H' f h => kk H' f h)
    refine ⟨A, fun {d K} lv o p ds H hlv ho hp hF hd hS kk => ?_⟩
    rw [show d + 3 * (F + 1) + 3 = d + 3 * F + 5 + 1 by omega]
    refine m_La_readLevel _ _ ?_
    have hn120 := hS.2.2.2.2.2.2
    have e5 : (nI lv < (5 : Int32)) = (lv < 5) := i_lt lv 5 (by omega) (by decide)
    rw [e5]
    by_cases c5 : lv < 5
    · first | refine bt c5 ?_ | refine bf c5 ?_ | refine nt c5 ?_ | refine nf c5 ?_
      rw [show nI lv + (1 : Int32) = nI (lv + 1) from nI_1 lv]
      unfold pP at kk
      rw [if_pos c5] at kk
      refine pm_Rc (show d + 2 + 3 * F + 3 = d + 3 * F + 5 by omega) (ihB (lv + 1) o p ds H (by omega) ho hp (by omega) hd hS ?_)
      have hk := PTok_pP (bT_out (t := t)) F (lv + 1) o p hp
      generalize hx : pP (bT t n) F (lv + 1) o p = x at kk hk
      match x, kk, hk with
      | .inl q, kk, hk =>
        intro H' f e
        first | refine bt (show (0 : Int32) = 0 from rfl) ?_ | refine bf (show (0 : Int32) = 0 from rfl) ?_ | refine nt (show (0 : Int32) = 0 from rfl) ?_ | refine nf (show (0 : Int32) = 0 from rfl) ?_
        exact kk H' f e
      | .inr r, kk, hk =>
        intro H' f h
        first | refine bt (show ¬ (1 : Int32) = 0 by decide) ?_ | refine bf (show ¬ (1 : Int32) = 0 by decide) ?_ | refine nt (show ¬ (1 : Int32) = 0 by decide) ?_ | refine nf (show ¬ (1 : Int32) = 0 by decide) ?_
        simp only at kk
        obtain ⟨g1, g2, g3, g4, g5⟩ := hk
        have lp : ∀ (M m j p2 : Nat) (e2 : Den) (cs2 : List Int32) (H2 : pmT), M ≤ 120 → j + m = M → p2 ≤ n → (ds ++ cs2).length ≤ p2 → pf H H2 → ReadS t n p2 (ds ++ cs2) H2 → RLq t n ds (opL (bT t n) lv (pP (bT t n) F (lv + 1) o) m p2 e2 cs2) H K → pm_RW none (d + 3 * F + 5 + 1) M_La_readLevel (pm_i K) 39 [(0, .ref 14), (1, .int (nI lv)), (2, .int (nI o)), (3, .int (nI M)), (4, .int (nI j))] [] H2 := by
          intro M m
          induction m with
          | zero =>
            intro j p2 e2 cs2 H2 hM hj hp2 hl2 hf2 hS2 k2
            refine b_La_readLevel_39 _ _ _ _ ?_
            first | refine bt (nI_le (show M ≤ j by omega) (by omega)) ?_ | refine bf (nI_le (show M ≤ j by omega) (by omega)) ?_ | refine nt (nI_le (show M ≤ j by omega) (by omega)) ?_ | refine nf (nI_le (show M ≤ j by omega) (by omega)) ?_
            exact k2 H2 hf2 hS2
          | succ m ih =>
            intro j p2 e2 cs2 H2 hM hj hp2 hl2 hf2 hS2 k2
            refine b_La_readLevel_39 _ _ _ _ ?_
            first | refine bt (fun z => by have := (nI_leI (a := M) (b := j) (by omega) (by omega)).mp z; omega) ?_ | refine bf (fun z => by have := (nI_leI (a := M) (b := j) (by omega) (by omega)).mp z; omega) ?_ | refine nt (fun z => by have := (nI_leI (a := M) (b := j) (by omega) (by omega)).mp z; omega) ?_ | refine nf (fun z => by have := (nI_leI (a := M) (b := j) (by omega) (by omega)).mp z; omega) ?_
            unfold opL at k2
            rw [hS2.ends hp2]
            by_cases cn : n ≤ p2
            · first | refine bt cn ?_ | refine bf cn ?_ | refine nt cn ?_ | refine nf cn ?_
              have e0 : bT t n p2 = 0 := bT_out p2 cn
              rw [e0, if_pos (opOf_z lv)] at k2
              refine c_opOf c5 ?_
              have ez : opOf lv (-1) = 0 := by
                unfold opOf
                repeat' split
                all_goals first | rfl | (rename_i h; exact absurd h (by decide))
              first | refine bt ez ?_ | refine bf ez ?_ | refine nt ez ?_ | refine nf ez ?_
              exact k2 H2 hf2 hS2
            · first | refine bt cn ?_ | refine bf cn ?_ | refine nt cn ?_ | refine nf cn ?_
              obtain ⟨eb, hin⟩ := hS2.at (by omega)
              rw [eb]
              refine ⟨hin, c_opOf c5 ?_⟩
              by_cases co : opOf lv (bT t n p2) = 0
              · first | refine bt co ?_ | refine bf co ?_ | refine nt co ?_ | refine nf co ?_
                rw [if_pos co] at k2
                exact k2 H2 hf2 hS2
              · first | refine bt co ?_ | refine bf co ?_ | refine nt co ?_ | refine nf co ?_
                rw [if_neg co] at k2
                rw [hS2.inc, show nI lv + (1 : Int32) = nI (lv + 1) from nI_1 lv]
                obtain ⟨s1, s2⟩ := hS2.step (p' := p2 + 1)
                refine pm_Rc (show d + 2 + 3 * F + 3 = d + 3 * F + 5 by omega) (ihB (lv + 1) o (p2 + 1) (ds ++ cs2) _ (by omega) ho (by omega) (by omega) (by omega) s1 ?_)
                have hk2 := PTok_pP (bT_out (t := t)) F (lv + 1) o (p2 + 1) (show p2 + 1 ≤ n by omega)
                generalize pP (bT t n) F (lv + 1) o (p2 + 1) = y at k2 hk2
                match y, k2, hk2 with
                | .inl q, k2, hk2 =>
                  intro H3 f3 e3
                  first | refine bt (show (0 : Int32) = 0 from rfl) ?_ | refine bf (show (0 : Int32) = 0 from rfl) ?_ | refine nt (show (0 : Int32) = 0 from rfl) ?_ | refine nf (show (0 : Int32) = 0 from rfl) ?_
                  exact k2 H3 (hf2.tr (s2.tr f3)) e3
                | .inr u, k2, hk2 =>
                  intro H3 f3 h3
                  first | refine bt (show ¬ (1 : Int32) = 0 by decide) ?_ | refine bf (show ¬ (1 : Int32) = 0 by decide) ?_ | refine nt (show ¬ (1 : Int32) = 0 by decide) ?_ | refine nf (show ¬ (1 : Int32) = 0 by decide) ?_
                  obtain ⟨w1, w2, w3, w4, w5⟩ := hk2
                  rw [show nI j + (1 : Int32) = nI (j + 1) from nI_1 j]
                  refine c_emit h3 (by rw [List.length_append]; omega) (fun H4 f4 h4 => ?_)
                  rw [List.append_assoc, List.append_assoc, ← List.append_assoc cs2] at h4
                  refine ih (j + 1) u.1 _ _ H4 hM (by omega) w2 ?_ (hf2.tr ((s2.tr f3).tr f4)) h4 k2
                  simp only [List.length_append, List.length_cons, List.length_nil] at hl2 ⊢
                  omega
        have e2 : (nI lv = (2 : Int32)) = (lv = 2) := i_eq lv 2 (by omega) (by decide)
        rw [e2]
        by_cases c2 : lv = 2
        · first | refine bt c2 ?_ | refine bf c2 ?_ | refine nt c2 ?_ | refine nf c2 ?_
          rw [if_pos c2] at kk
          exact lp 1 1 0 r.1 r.2.1 r.2.2 H' (by decide) rfl g2 (by rw [List.length_append]; omega) f h kk
        · first | refine bt c2 ?_ | refine bf c2 ?_ | refine nt c2 ?_ | refine nf c2 ?_
          rw [if_neg c2] at kk
          exact lp 120 120 0 r.1 r.2.1 r.2.2 H' (by decide) rfl g2 (by rw [List.length_append]; omega) f h kk
    · first | refine bt c5 ?_ | refine bf c5 ?_ | refine nt c5 ?_ | refine nf c5 ?_
      have e : lv = 5 := by omega
      subst e
      refine A o p ds H ho hp (by omega) hd hS ?_
      have hb : ∀ x : PT, RLq t n ds x H K → RLq t n ds x H (fun x4 H3 => (x4 = 0 ∨ x4 = 1) ∧ pm_i K (some (.int x4)) H3) := fun x => by
        match x with
        | .inl q => exact fun h H' f e => ⟨Or.inl rfl, h H' f e⟩
        | .inr r => exact fun h H' f e => ⟨Or.inr rfl, h H' f e⟩
      exact hb _ kk
