/-! the class takes a text for its law -/
theorem c_line {d n p : Nat} {t : Nat → Int32} {ds : List Int32} {H : pmT} {K : Int32 → pmT → Prop} (hp : p ≤ n) (hd : ds.length ≤ p) (hS : ReadS t n p ds H) (k1 : ∀ q, pLn (bT t n) p = .inl q → ∀ H', pf H H' → H'.1 14 2 = nI q → K 0 H') (k2 : ∀ r, pLn (bT t n) p = .inr r → ∀ H', pf H H' → ReadS t n r.1 (ds ++ r.2.2.2) H' → K 1 H') : pm_R (d + 184) M_La_readLine [.ref 14] H (pm_i K) := by
  refine m_La_readLine ?_
  have hn120 := hS.2.2.2.2.2.2
  unfold pLn at k1 k2
  refine (c_read 60).2 (d := d) 0 0 p ds H (by decide) (by decide) hp (by decide) hd hS ?_
  have hk := PTok_pP (bT_out (t := t)) 60 0 0 p hp
  generalize pP (bT t n) 60 0 0 p = x at k1 k2 hk
  match x, k1, k2, hk with
  | .inl q, k1, _, hk =>
    intro H' f e
    first | refine bt (show (0 : Int32) = 0 from rfl) ?_ | refine bf (show (0 : Int32) = 0 from rfl) ?_ | refine nt (show (0 : Int32) = 0 from rfl) ?_ | refine nf (show (0 : Int32) = 0 from rfl) ?_
    exact k1 q rfl H' f e
  | .inr r, k1, k2, hk =>
    intro H' f h
    first | refine bt (show ¬ (1 : Int32) = 0 by decide) ?_ | refine bf (show ¬ (1 : Int32) = 0 by decide) ?_ | refine nt (show ¬ (1 : Int32) = 0 by decide) ?_ | refine nf (show ¬ (1 : Int32) = 0 by decide) ?_
    simp only at k1 k2
    obtain ⟨g1, g2, g3, g4, g5⟩ := hk
    rw [h.ends g2]
    have hlen : (ds ++ r.2.2).length ≤ r.1 := by rw [List.length_append]; omega
    by_cases cn : n ≤ r.1
    · first | refine bt cn ?_ | refine bf cn ?_ | refine nt cn ?_ | refine nf cn ?_
      rw [bT_out _ cn, if_neg (by decide)] at k2
      refine c_emit h (by omega) (fun H2 f2 h2 => ?_)
      rw [List.append_assoc] at h2
      exact k2 _ rfl H2 (f.tr f2) h2
    · first | refine bt cn ?_ | refine bf cn ?_ | refine nt cn ?_ | refine nf cn ?_
      obtain ⟨eb, hin⟩ := h.at (by omega)
      rw [eb]
      refine ⟨hin, ?_⟩
      by_cases c63 : bT t n r.1 = 63
      · first | refine bt c63 ?_ | refine bf c63 ?_ | refine nt c63 ?_ | refine nf c63 ?_
        rw [if_pos c63] at k1 k2
        rw [h.inc]
        obtain ⟨s1, s2⟩ := h.step (p' := r.1 + 1)
        refine c_emit s1 (by omega) (fun H2 f2 h2 => ?_)
        refine (c_read 60).2 (d := d) 0 0 (r.1 + 1) _ H2 (by decide) (by decide) (by omega) (by decide) (by simp only [List.length_append, List.length_cons, List.length_nil] at hlen ⊢; omega) h2 ?_
        have hk2 := PTok_pP (bT_out (t := t)) 60 0 0 (r.1 + 1) (show r.1 + 1 ≤ n by omega)
        generalize pP (bT t n) 60 0 0 (r.1 + 1) = y at k1 k2 hk2
        match y, k1, k2, hk2 with
        | .inl q, k1, _, hk2 =>
          intro H3 f3 e
          first | refine bt (show (0 : Int32) = 0 from rfl) ?_ | refine bf (show (0 : Int32) = 0 from rfl) ?_ | refine nt (show (0 : Int32) = 0 from rfl) ?_ | refine nf (show (0 : Int32) = 0 from rfl) ?_
          exact k1 q rfl H3 (f.tr (s2.tr (f2.tr f3))) e
        | .inr u, k1, k2, hk2 =>
          intro H3 f3 h3
          first | refine bt (show ¬ (1 : Int32) = 0 by decide) ?_ | refine bf (show ¬ (1 : Int32) = 0 by decide) ?_ | refine nt (show ¬ (1 : Int32) = 0 by decide) ?_ | refine nf (show ¬ (1 : Int32) = 0 by decide) ?_
          obtain ⟨w1, w2, w3, w4, w5⟩ := hk2
          refine c_emit h3 (by simp only [List.length_append, List.length_cons, List.length_nil] at hlen ⊢; omega) (fun H4 f4 h4 => ?_)
          refine k2 _ rfl H4 (f.tr (s2.tr (f2.tr (f3.tr f4)))) ?_
          simp only [List.append_assoc] at h4 ⊢
          exact h4
      · first | refine bt c63 ?_ | refine bf c63 ?_ | refine nt c63 ?_ | refine nf c63 ?_
        rw [if_neg c63] at k2
        refine c_emit h (by omega) (fun H2 f2 h2 => ?_)
        rw [List.append_assoc] at h2
        exact k2 _ rfl H2 (f.tr f2) h2
theorem lp_lines {d n : Nat} {t : Nat → Int32} {K : Int32 → pmT → Prop} {H0 : pmT} : ∀ (m j p : Nat) (ds : List Int32) (H : pmT), j + m = 121 → p ≤ n → j ≤ p → ds.length ≤ p → pf H0 H → ReadS t n p ds H → (∀ q, pTx (bT t n) n m p = .inl q → ∀ H', pf H0 H' → H'.1 14 2 = nI q → K 0 H') → (∀ r, pTx (bT t n) n m p = .inr r → ∀ H', pf H0 H' → (∃ p', ReadS t n p' (ds ++ r.2) H') → K 1 H') → pm_RW none (d + 185) M_La_readLines (pm_i K) 12 [(0, .ref 14), (1, .int (nI j))] [] H
  | 0, j, p, ds, H, hj, hp, hjp, hd, hf, hS, k1, k2 => by
    have := hS.2.2.2.2.2.2
    omega
  | m + 1, j, p, ds, H, hj, hp, hjp, hd, hf, hS, k1, k2 => by
    have ih := lp_lines (d := d) (t := t) (n := n) (K := K) (H0 := H0) m
    have hn120 := hS.2.2.2.2.2.2
    refine b_La_readLines_12 _ ?_
    first | refine bt (show ¬ (120 : Int32) < nI j from fun z => by have := (nI_ltI (a := 120) (b := j) (by decide) (by omega)).mp z; omega) ?_ | refine bf (show ¬ (120 : Int32) < nI j from fun z => by have := (nI_ltI (a := 120) (b := j) (by decide) (by omega)).mp z; omega) ?_ | refine nt (show ¬ (120 : Int32) < nI j from fun z => by have := (nI_ltI (a := 120) (b := j) (by decide) (by omega)).mp z; omega) ?_ | refine nf (show ¬ (120 : Int32) < nI j from fun z => by have := (nI_ltI (a := 120) (b := j) (by decide) (by omega)).mp z; omega) ?_
    unfold pTx at k1 k2
    refine c_line hp hd hS (fun q eq H' f e => ?_) (fun r er H' f h => ?_)
    · first | refine bt (show (0 : Int32) = 0 from rfl) ?_ | refine bf (show (0 : Int32) = 0 from rfl) ?_ | refine nt (show (0 : Int32) = 0 from rfl) ?_ | refine nf (show (0 : Int32) = 0 from rfl) ?_
      rw [eq] at k1
      exact k1 q rfl H' (hf.tr f) e
    · first | refine bt (show ¬ (1 : Int32) = 0 by decide) ?_ | refine bf (show ¬ (1 : Int32) = 0 by decide) ?_ | refine nt (show ¬ (1 : Int32) = 0 by decide) ?_ | refine nf (show ¬ (1 : Int32) = 0 by decide) ?_
      rw [er] at k1 k2
      simp only at k1 k2
      obtain ⟨h1, h2, h3, h4, h5, h6⟩ := Ev_pLn bT_out hp r er
      have elt : (H'.1 14 2 < H'.1 14 1) = ¬ n ≤ r.1 := by
        rw [h.1, h.2.2.1]
        exact propext ((nI_ltI (by omega) (by omega)).trans (by omega))
      rw [elt, h.ends h3]
      by_cases cn : n ≤ r.1
      · first | refine bt (show ¬ ¬ n ≤ r.1 from fun z => z cn) ?_ | refine bf (show ¬ ¬ n ≤ r.1 from fun z => z cn) ?_ | refine nt (show ¬ ¬ n ≤ r.1 from fun z => z cn) ?_ | refine nf (show ¬ ¬ n ≤ r.1 from fun z => z cn) ?_
        rw [if_pos cn] at k2
        exact k2 _ rfl H' (hf.tr f) ⟨_, h⟩
      · first | refine bt cn ?_ | refine bf cn ?_ | refine nt cn ?_ | refine nf cn ?_
        first | refine bt cn ?_ | refine bf cn ?_ | refine nt cn ?_ | refine nf cn ?_
        rw [if_neg cn] at k1 k2
        obtain ⟨eb, hin⟩ := h.at (by omega)
        rw [eb]
        refine ⟨hin, ?_⟩
        by_cases c59 : bT t n r.1 = 59
        · first | refine bt c59 ?_ | refine bf c59 ?_ | refine nt c59 ?_ | refine nf c59 ?_
          rw [if_pos c59] at k1 k2
          rw [h.inc, show nI j + (1 : Int32) = nI (j + 1) from nI_1 j]
          obtain ⟨s1, s2⟩ := h.step (p' := r.1 + 1)
          refine ih (j + 1) (r.1 + 1) _ _ (by omega) (by omega) (by omega) (by rw [List.length_append]; omega) (hf.tr (f.tr s2)) s1 ?_ ?_
          · intro q eq H2 f2 e2
            rw [eq] at k1
            exact k1 q rfl H2 f2 e2
          · intro u eu H2 f2 e2
            rw [eu] at k2
            obtain ⟨p2, e2⟩ := e2
            rw [List.append_assoc] at e2
            exact k2 _ rfl H2 f2 ⟨p2, e2⟩
        · first | refine bt c59 ?_ | refine bf c59 ?_ | refine nt c59 ?_ | refine nf c59 ?_
          rw [if_neg c59] at k1
          exact k1 _ rfl H' (hf.tr f) h.2.2.1
/-- what the class holds of its tape; a place of draft and code each -/
def TapC (t : Nat → Int32) (n : Nat) (H : pmT) : Prop := H.1 14 1 = nI n ∧ n ≤ 120 ∧ (∀ j, j < n → H.1 15 j = t j) ∧ ((H.2.2.1 = 16 ∧ H.2.2.2 = 17) ∨ (H.2.2.1 = 17 ∧ H.2.2.2 = 16))
/-- all but the law's own cells -/
def lf (H H' : pmT) : Prop := (∀ o k, ¬ (15 ≤ o ∧ o ≤ 17) → (o = 14 → ¬ k = 1 ∧ ¬ k = 2 ∧ ¬ k = 4 ∧ ¬ k = 6) → H'.1 o k = H.1 o k) ∧ H'.2.1 = H.2.1
theorem c_enact {d n : Nat} {t : Nat → Int32} {L : Law} {H : pmT} {K : Int32 → pmT → Prop} (hT : TapC t n H) (hL : LawC L H) (k1 : ∀ q, pTx (bT t n) n 121 0 = .inl q → ∀ H', lf H H' → TapC t 0 H' → LawC L H' → K (-100 - nI q) H') (k2 : ∀ r, pTx (bT t n) n 121 0 = .inr r → ∀ H', lf H H' → TapC t 0 H' → LawC (some r.1) H' → K 1 H') : pm_R (d + 186) M_La_enact [.ref 14] H (pm_i K) := by
  obtain ⟨t1, t2, t3, t4⟩ := hT
  refine m_La_enact ?_
  refine m_La_readLines ?_
  have hd16 : H.2.2.1 = 16 ∨ H.2.2.1 = 17 := t4.elim (fun z => Or.inl z.1) (fun z => Or.inr z.1)
  have e0 : ∀ o k, ¬ o = 14 → pm_up (pm_up H.1 14 2 (0 : Int32)) 14 4 (0 : Int32) o k = H.1 o k := fun o k ho => by rw [pm_up_ne _ _ _ ho, pm_up_ne _ _ _ ho]
  have e14 : ∀ k, ¬ k = 2 → ¬ k = 4 → pm_up (pm_up H.1 14 2 (0 : Int32)) 14 4 (0 : Int32) 14 k = H.1 14 k := fun k h2 h4 => by rw [pm_up_self, pk_un h4, pm_up_self, pk_un h2]
  have f0 : pf H (pm_up (pm_up H.1 14 2 (0 : Int32)) 14 4 (0 : Int32), H.2) := ⟨fun o k ho hk => by
    by_cases e : o = 14
    · subst e; exact e14 k (hk rfl).1 (hk rfl).2
    · exact e0 o k e, rfl⟩
  have hS0 : ReadS t n 0 [] (pm_up (pm_up H.1 14 2 (0 : Int32)) 14 4 (0 : Int32), H.2) := ⟨(e14 1 (by decide) (by decide)).trans t1, fun j hj => (e0 15 j (by decide)).trans (t3 j hj), by
    show pm_up (pm_up H.1 14 2 (0 : Int32)) 14 4 (0 : Int32) 14 2 = _
    rw [pm_up_self, pk_un (by decide), pm_up_self, pk_us]; rfl, by
    show pm_up (pm_up H.1 14 2 (0 : Int32)) 14 4 (0 : Int32) 14 4 = _
    rw [pm_up_self, pk_us]; rfl, trivial, hd16, t2⟩
  have fin : ∀ (H' : pmT) (v : Int32), pf H H' → LawC L (pm_up H'.1 14 1 v, H'.2) := by
    intro H' v f
    have eC : H'.2.2.2 = H.2.2.2 := by rw [f.2]
    have ne : ¬ H.2.2.2 = H.2.2.1 := by rcases t4 with z | z <;> rw [z.1, z.2] <;> decide
    have ne14 : ¬ H.2.2.2 = 14 := by rcases t4 with z | z <;> rw [z.2] <;> decide
    have ec : pm_up H'.1 14 1 v H.2.2.2 = H.1 H.2.2.2 := by
      funext j
      rw [pm_up_ne _ _ _ ne14]
      exact f.1 _ j ne (fun z => absurd z ne14)
    have e6 : pm_up H'.1 14 1 v 14 6 = H.1 14 6 := by
      rw [pm_up_self, pk_un (by decide)]
      exact f.1 14 6 (by rcases hd16 with z | z <;> rw [z] <;> decide) (fun _ => ⟨by decide, by decide⟩)
    obtain ⟨l1, l2⟩ := hL
    refine ⟨by show H'.2.2.2 = 16 ∨ H'.2.2.2 = 17; rw [eC]; exact l1, ?_⟩
    cases L with
    | none => exact e6.trans l2
    | some f' =>
      obtain ⟨len, q1, q2, q3, q4, q5⟩ := l2
      have ec' : (pm_up H'.1 14 1 v, H'.2).1 (pm_up H'.1 14 1 v, H'.2).2.2.2 = H.1 H.2.2.2 := by
        show pm_up H'.1 14 1 v H'.2.2.2 = _
        rw [eC]; exact ec
      exact ⟨len, q1, q2, e6.trans q3, by rw [ec']; exact q4, by rw [ec']; exact q5⟩
  have flf : ∀ (H' : pmT), pf H H' → ∀ o k, ¬ (15 ≤ o ∧ o ≤ 17) → (o = 14 → ¬ k = 1 ∧ ¬ k = 2 ∧ ¬ k = 4 ∧ ¬ k = 6) → H'.1 o k = H.1 o k := fun H' f o k ho hk => f.1 o k (by rcases hd16 with z | z <;> rw [z] <;> omega) (fun z => ⟨(hk z).2.1, (hk z).2.2.1⟩)
  refine lp_lines (d := d) 121 0 0 [] _ rfl (Nat.zero_le _) (Nat.le_refl _) (Nat.le_refl _) f0 hS0 (fun q eq H' f e => ?_) (fun r er H' f h => ?_)
  · first | refine bt (show (0 : Int32) = 0 from rfl) ?_ | refine bf (show (0 : Int32) = 0 from rfl) ?_ | refine nt (show (0 : Int32) = 0 from rfl) ?_ | refine nf (show (0 : Int32) = 0 from rfl) ?_
    rw [e]
    refine k1 q eq _ ⟨fun o k ho hk => ?_, by rw [f.2]⟩ ⟨?_, by decide, fun j hj => absurd hj (Nat.not_lt_zero _), by rw [f.2]; exact t4⟩ (fin H' _ f)
    · show pm_up H'.1 14 1 (0 : Int32) o k = _
      by_cases e14 : o = 14
      · subst e14
        rw [pm_up_self, pk_un (hk rfl).1]
        exact flf H' f 14 k ho hk
      · rw [pm_up_ne _ _ _ e14]
        exact flf H' f o k ho hk
    · show pm_up H'.1 14 1 (0 : Int32) 14 1 = _
      rw [pm_up_self, pk_us]; rfl
  · first | refine bt (show ¬ (1 : Int32) = 0 by decide) ?_ | refine bf (show ¬ (1 : Int32) = 0 by decide) ?_ | refine nt (show ¬ (1 : Int32) = 0 by decide) ?_ | refine nf (show ¬ (1 : Int32) = 0 by decide) ?_
    obtain ⟨p', h⟩ := h
    rw [List.nil_append] at h
    have eD : H'.2.2.1 = H.2.2.1 := by rw [f.2]
    have neD : ¬ H'.2.2.1 = 14 := by rw [eD]; rcases hd16 with z | z <;> rw [z] <;> decide
    refine k2 r er _ ⟨fun o k ho hk => ?_, by show H'.2.1 = _; rw [f.2]⟩ ⟨?_, by decide, fun j hj => absurd hj (Nat.not_lt_zero _), ?_⟩ (LawC_of t2 er ?_ ?_ ?_)
    · show pm_up (pm_up H'.1 14 1 (0 : Int32)) 14 6 (H'.1 14 4) o k = _
      by_cases e14 : o = 14
      · subst e14
        rw [pm_up_self, pk_un (hk rfl).2.2.2, pm_up_self, pk_un (hk rfl).1]
        exact flf H' f 14 k ho hk
      · rw [pm_up_ne _ _ _ e14, pm_up_ne _ _ _ e14]
        exact flf H' f o k ho hk
    · show pm_up (pm_up H'.1 14 1 (0 : Int32)) 14 6 (H'.1 14 4) 14 1 = _
      rw [pm_up_self, pk_un (by decide), pm_up_self, pk_us]; rfl
    · show (H'.2.2.2 = 16 ∧ H'.2.2.1 = 17) ∨ (H'.2.2.2 = 17 ∧ H'.2.2.1 = 16)
      rw [f.2]
      exact t4.elim (fun z => Or.inr ⟨z.2, z.1⟩) (fun z => Or.inl ⟨z.2, z.1⟩)
    · show H'.2.2.1 = 16 ∨ H'.2.2.1 = 17
      rw [eD]; exact hd16
    · show pm_up (pm_up H'.1 14 1 (0 : Int32)) 14 6 (H'.1 14 4) 14 6 = _
      rw [pm_up_self, pk_us]
      exact h.2.2.2.1
    · refine Cds_ge r.2 0 (fun j _ _ => ?_) h.2.2.2.2.1
      show pm_up (pm_up H'.1 14 1 (0 : Int32)) 14 6 (H'.1 14 4) H'.2.2.1 j = _
      rw [pm_up_ne _ _ _ neD, pm_up_ne _ _ _ neD]
