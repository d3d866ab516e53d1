/-! the reference works a text out -/
theorem c_comparedM {d n o : Nat} {t nm : Nat → Int32} {sub : Nat → PT} (hs : ∀ (p : Nat) (H : pmT) {K : Int32 → pmT → Prop}, p ≤ n → MT t n nm H → MP p o H → RMq n o nm (sub p) H K → pm_R (d + 1) M_Mo_sums [.ref 55] H (pm_i K)) (hk : ∀ p, p ≤ n → PTok n p (sub p)) (p : Nat) (H : pmT) {K : Int32 → pmT → Prop} (hp : p ≤ n) (hT : MT t n nm H) (hP : MP p o H) (kk : RMq n o nm (match sub p with
      | .inl q => .inl q
      | .inr r => opL (bT t n) 2 sub 1 r.1 r.2.1 r.2.2) H K) : pm_R (d + 2) M_Mo_compared [.ref 55] H (pm_i K) := by
  refine m_Mo_compared ?_
  refine hs p H hp hT hP ?_
  have hkp := hk p hp
  generalize sub p = x at kk hkp
  match x, kk, hkp with
  | .inl q, kk, hkp =>
    intro v H2 f2 e1 e2
    have hq : q < 2 ^ 31 := by have := hT.2.1; have := hkp.2; omega
    refine c_byteM (hT.fr f2) hkp.2 e1 ?_
    rw [e2]
    first | refine bt (nI_pos' hq) ?_ | refine bf (nI_pos' hq) ?_ | refine nt (nI_pos' hq) ?_ | refine nf (nI_pos' hq) ?_
    exact kk v H2 f2 e1 e2
  | .inr r, kk, hkp =>
    intro H2 f2 hP2
    simp only at kk
    obtain ⟨g1, g2, g3⟩ := hkp
    have hT2 := hT.fr f2
    refine c_byteM hT2 g2 hP2.1 ?_
    rw [hP2.2.1]
    first | refine bt (show ¬ (0 : Int32) ≤ -1 by decide) ?_ | refine bf (show ¬ (0 : Int32) ≤ -1 by decide) ?_ | refine nt (show ¬ (0 : Int32) ≤ -1 by decide) ?_ | refine nf (show ¬ (0 : Int32) ≤ -1 by decide) ?_
    have hlt : ¬ bT t n r.1 = 0 → r.1 < n := fun c => Nat.lt_of_not_le (fun z => c (bT_out _ z))
    unfold opL opL at kk
    obtain ⟨hP3, f3⟩ := hP2.step (r.1 + 1)
    rw [hP2.inc]
    have go : ∀ (w : Int32), ¬ w = 0 → opOf 2 (bT t n r.1) = w → r.1 < n → (∀ (u : Nat × Den × List Int32) H4, fr JM H H4 → MP u.1 o H4 → sub (r.1 + 1) = .inr u → K (joinV w (r.2.1 nm) (u.2.1 nm)) H4) ∧ (∀ q, sub (r.1 + 1) = .inl q → ∀ v H4, fr JM H H4 → H4.1 55 14 = nI q → H4.1 55 16 = nI q → K v H4) := by
      intro w hw ew hrn
      rw [ew, if_neg hw] at kk
      refine ⟨fun u H4 f4 h4 es => ?_, fun q es v H4 f4 e1 e2 => ?_⟩
      · rw [es] at kk
        exact kk H4 f4 h4
      · rw [es] at kk
        exact kk v H4 f4 e1 e2
    have ex : ∀ (w : Int32) (C : Int32 → pmT → Prop), ¬ w = 0 → opOf 2 (bT t n r.1) = w → r.1 < n → (∀ (y : Int32) H4, K (joinV w (r.2.1 nm) y) H4 → C y H4) → (∀ v H4, (∀ z, K z H4) → C v H4) → pm_R (d + 1) M_Mo_sums [.ref 55] (pm_up H2.1 55 14 (nI (r.1 + 1)), H2.2) (pm_i C) := by
      intro w C hw ew hrn c1 c2
      obtain ⟨q1, q2⟩ := go w hw ew hrn
      refine hs (r.1 + 1) _ hrn (hT2.fr f3) hP3 ?_
      generalize sub (r.1 + 1) = y at q1 q2
      match y, q1, q2 with
      | .inl q, _, q2 => exact fun v H4 f4 e1 e2 => c2 v H4 (fun z => q2 q rfl z H4 (f2.tr (f3.tr f4)) e1 e2)
      | .inr u, q1, _ => exact fun H4 f4 h4 => c1 _ H4 (q1 u H4 (f2.tr (f3.tr f4)) h4 rfl)
    by_cases c60 : bT t n r.1 = 60
    · first | refine bt c60 ?_ | refine bf c60 ?_ | refine nt c60 ?_ | refine nf c60 ?_
      refine ex (-3) _ (by decide) (if_pos c60) (hlt (by rw [c60]; decide)) (fun y H4 k4 => ?_) (fun v H4 k4 => ⟨fun _ => k4 0, fun _ => k4 1⟩)
      have ej : joinV (-3) (r.2.1 nm) y = if y ≤ r.2.1 nm then 0 else 1 := rfl
      rw [ej] at k4
      by_cases cz : y ≤ r.2.1 nm
      · first | refine bt cz ?_ | refine bf cz ?_ | refine nt cz ?_ | refine nf cz ?_
        rw [if_pos cz] at k4; exact k4
      · first | refine bt cz ?_ | refine bf cz ?_ | refine nt cz ?_ | refine nf cz ?_
        rw [if_neg cz] at k4; exact k4
    · first | refine bt c60 ?_ | refine bf c60 ?_ | refine nt c60 ?_ | refine nf c60 ?_
      by_cases c61 : bT t n r.1 = 61
      · first | refine bt c61 ?_ | refine bf c61 ?_ | refine nt c61 ?_ | refine nf c61 ?_
        refine ex (-4) _ (by decide) ((if_neg c60).trans (if_pos c61)) (hlt (by rw [c61]; decide)) (fun y H4 k4 => ?_) (fun v H4 k4 => ⟨fun _ => k4 0, fun _ => k4 1⟩)
        have ej : joinV (-4) (r.2.1 nm) y = if r.2.1 nm = y then 1 else 0 := rfl
        rw [ej] at k4
        by_cases cz : r.2.1 nm = y
        · first | refine bt cz ?_ | refine bf cz ?_ | refine nt cz ?_ | refine nf cz ?_
          rw [if_pos cz] at k4; exact k4
        · first | refine bt cz ?_ | refine bf cz ?_ | refine nt cz ?_ | refine nf cz ?_
          rw [if_neg cz] at k4; exact k4
      · first | refine bt c61 ?_ | refine bf c61 ?_ | refine nt c61 ?_ | refine nf c61 ?_
        by_cases c62 : bT t n r.1 = 62
        · first | refine bt c62 ?_ | refine bf c62 ?_ | refine nt c62 ?_ | refine nf c62 ?_
          refine ex (-5) _ (by decide) ((if_neg c60).trans ((if_neg c61).trans (if_pos c62))) (hlt (by rw [c62]; decide)) (fun y H4 k4 => ?_) (fun v H4 k4 => ⟨fun _ => k4 0, fun _ => k4 1⟩)
          have ej : joinV (-5) (r.2.1 nm) y = if r.2.1 nm ≤ y then 0 else 1 := rfl
          rw [ej] at k4
          by_cases cz : r.2.1 nm ≤ y
          · first | refine bt cz ?_ | refine bf cz ?_ | refine nt cz ?_ | refine nf cz ?_
            rw [if_pos cz] at k4; exact k4
          · first | refine bt cz ?_ | refine bf cz ?_ | refine nt cz ?_ | refine nf cz ?_
            rw [if_neg cz] at k4; exact k4
        · first | refine bt c62 ?_ | refine bf c62 ?_ | refine nt c62 ?_ | refine nf c62 ?_
          rw [show opOf 2 (bT t n r.1) = 0 from (if_neg c60).trans ((if_neg c61).trans (if_neg c62)), if_pos rfl] at kk
          exact kk H2 f2 hP2
def MoL (lv : Nat) : Nat := match lv with
  | 0 => M_Mo_either
  | 1 => M_Mo_both
  | 2 => M_Mo_compared
  | 3 => M_Mo_sums
  | 4 => M_Mo_product
  | _ => M_Mo_one
theorem MP.opn {p o o' : Nat} {H : pmT} (h : MP p o H) : MP p o' (pm_up H.1 55 17 (nI o'), H.2) ∧ fr JM H (pm_up H.1 55 17 (nI o'), H.2) := by
  obtain ⟨h1, h2, h3⟩ := h
  have e : ∀ k, ¬ k = 17 → pm_up H.1 55 17 (nI o') 55 k = H.1 55 k := fun k hk => by rw [pm_up_self, pk_un hk]
  refine ⟨⟨(e 14 (by decide)).trans h1, (e 16 (by decide)).trans h2, ?_⟩, fr.rf.up rfl⟩
  show pm_up H.1 55 17 (nI o') 55 17 = _
  rw [pm_up_self, pk_us]
/-- a fault here -/
theorem MP.flt {p o n : Nat} {nm : Nat → Int32} {H H0 : pmT} {K : Int32 → pmT → Prop} (h : MP p o H) (a : fr JM H0 H) (kk : RMq n o nm (.inl p) H0 K) : (0 ≤ H.1 55 16 → pm_i K (some (.int (0 : Int32))) (pm_up H.1 55 16 (H.1 55 16), H.2)) ∧ (¬ 0 ≤ H.1 55 16 → pm_i K (some (.int (0 : Int32))) (pm_up H.1 55 16 (H.1 55 14), H.2)) := by
  obtain ⟨h1, h2, h3⟩ := h
  rw [h2]
  first | refine bt (show ¬ (0 : Int32) ≤ -1 by decide) ?_ | refine bf (show ¬ (0 : Int32) ≤ -1 by decide) ?_ | refine nt (show ¬ (0 : Int32) ≤ -1 by decide) ?_ | refine nf (show ¬ (0 : Int32) ≤ -1 by decide) ?_
  refine kk 0 _ (a.tr (fr.rf.up rfl)) ?_ ?_
  · show pm_up H.1 55 16 (H.1 55 14) 55 14 = _
    rw [pm_up_self, pk_un (by decide)]; exact h1
  · show pm_up H.1 55 16 (H.1 55 14) 55 16 = _
    rw [pm_up_self, pk_us]; exact h1
theorem c_readM {t nm : Nat → Int32} {n : Nat} : ∀ (F lv o p : Nat) {d : Nat} (H : pmT) {K : Int32 → pmT → Prop}, lv ≤ 5 → o ≤ 6 → p ≤ n → 7 * (6 - o) + (6 - lv) ≤ F → MT t n nm H → MP p o H → RMq n o nm (pP (bT t n) F lv o p) H K → pm_R (F + (d + 3)) (MoL lv) [.ref 55] H (pm_i K)
  | 0, lv, o, p, d, H, K, hlv, ho, hp, hF, hT, hP, kk => by omega
  | F + 1, lv, o, p, d, H, K, hlv, ho, hp, hF, hT, hP, kk => by
    have ih := fun lv o p => c_readM (t := t) (nm := nm) (n := n) F lv o p (d := d)
    have hn120 := hT.2.1
    unfold pP at kk
    rw [show F + 1 + (d + 3) = F + (d + 2) + 2 by omega]
    have ih' : ∀ lv o p (H : pmT) {K : Int32 → pmT → Prop}, lv ≤ 5 → o ≤ 6 → p ≤ n → 7 * (6 - o) + (6 - lv) ≤ F → MT t n nm H → MP p o H → RMq n o nm (pP (bT t n) F lv o p) H K → pm_R (F + (d + 2) + 1) (MoL lv) [.ref 55] H (pm_i K) := fun lv o p H K h1 h2 h3 h4 h5 h6 h7 => pm_Rc (show F + (d + 3) = _ by omega) (ih lv o p H h1 h2 h3 h4 h5 h6 h7)
    by_cases c5 : lv < 5
    · rw [if_pos c5] at kk
      have hs := fun p (H : pmT) (K : Int32 → pmT → Prop) (hp : p ≤ n) => ih' (lv + 1) o p H (K := K) (by omega) ho hp (by omega)
      have hk := fun p (hp : p ≤ n) => PTok_pP (bT_out (t := t)) F (lv + 1) o p hp
      generalize pP (bT t n) F (lv + 1) o = sub at kk hs hk
      rcases (show lv = 0 ∨ lv = 1 ∨ lv = 2 ∨ lv = 3 ∨ lv = 4 by omega) with e | e | e | e | e <;> subst e
      · have hs' : ∀ (p : Nat) (H : pmT) {K : Int32 → pmT → Prop}, p ≤ n → MT t n nm H → MP p o H → RMq n o nm (sub p) H K → pm_R (F + (d + 2) + 1) M_Mo_both [.ref 55] H (pm_i K) := fun p H K h1 h2 h3 h4 => hs p H K h1 h2 h3 h4
        refine m_Mo_either ?_
        refine hs' p H hp hT hP ?_
        have hkp := hk p hp
        generalize sub p = x at kk hkp
        match x, kk, hkp with
        | .inl q, kk, hkp =>
          intro v H2 f2 e1 e2
          refine b_Mo_either_5 _ ?_
          refine c_takesF (by have := hkp.2; omega) e2 _ ?_
          first | refine bt (show (0 : Int32) = 0 from rfl) ?_ | refine bf (show (0 : Int32) = 0 from rfl) ?_ | refine nt (show (0 : Int32) = 0 from rfl) ?_ | refine nf (show (0 : Int32) = 0 from rfl) ?_
          exact kk v H2 f2 e1 e2
        | .inr r, kk, hkp =>
          intro H2 f2 hP2
          obtain ⟨g1, g2, g3⟩ := hkp
          exact lp_eitherM hs' hk 120 r.1 r.2.1 r.2.2 H2 (by omega) g2 (hT.fr f2) hP2 (RMq.fr kk f2)
      · have hs' : ∀ (p : Nat) (H : pmT) {K : Int32 → pmT → Prop}, p ≤ n → MT t n nm H → MP p o H → RMq n o nm (sub p) H K → pm_R (F + (d + 2) + 1) M_Mo_compared [.ref 55] H (pm_i K) := fun p H K h1 h2 h3 h4 => hs p H K h1 h2 h3 h4
        refine m_Mo_both ?_
        refine hs' p H hp hT hP ?_
        have hkp := hk p hp
        generalize sub p = x at kk hkp
        match x, kk, hkp with
        | .inl q, kk, hkp =>
          intro v H2 f2 e1 e2
          refine b_Mo_both_5 _ ?_
          refine c_takesF (by have := hkp.2; omega) e2 _ ?_
          first | refine bt (show (0 : Int32) = 0 from rfl) ?_ | refine bf (show (0 : Int32) = 0 from rfl) ?_ | refine nt (show (0 : Int32) = 0 from rfl) ?_ | refine nf (show (0 : Int32) = 0 from rfl) ?_
          exact kk v H2 f2 e1 e2
        | .inr r, kk, hkp =>
          intro H2 f2 hP2
          obtain ⟨g1, g2, g3⟩ := hkp
          exact lp_bothM hs' hk 120 r.1 r.2.1 r.2.2 H2 (by omega) g2 (hT.fr f2) hP2 (RMq.fr kk f2)
      · have hs' : ∀ (p : Nat) (H : pmT) {K : Int32 → pmT → Prop}, p ≤ n → MT t n nm H → MP p o H → RMq n o nm (sub p) H K → pm_R (F + (d + 2) + 1) M_Mo_sums [.ref 55] H (pm_i K) := fun p H K h1 h2 h3 h4 => hs p H K h1 h2 h3 h4
        exact c_comparedM hs' hk p H hp hT hP kk
      · have hs' : ∀ (p : Nat) (H : pmT) {K : Int32 → pmT → Prop}, p ≤ n → MT t n nm H → MP p o H → RMq n o nm (sub p) H K → pm_R (F + (d + 2) + 1) M_Mo_product [.ref 55] H (pm_i K) := fun p H K h1 h2 h3 h4 => hs p H K h1 h2 h3 h4
        refine m_Mo_sums ?_
        refine hs' p H hp hT hP ?_
        have hkp := hk p hp
        generalize sub p = x at kk hkp
        match x, kk, hkp with
        | .inl q, kk, hkp =>
          intro v H2 f2 e1 e2
          refine b_Mo_sums_5 _ ?_
          rw [e2]
          first | refine bt (nI_pos' (show q < 2 ^ 31 by have := hkp.2; omega)) ?_ | refine bf (nI_pos' (show q < 2 ^ 31 by have := hkp.2; omega)) ?_ | refine nt (nI_pos' (show q < 2 ^ 31 by have := hkp.2; omega)) ?_ | refine nf (nI_pos' (show q < 2 ^ 31 by have := hkp.2; omega)) ?_
          exact kk v H2 f2 e1 e2
        | .inr r, kk, hkp =>
          intro H2 f2 hP2
          obtain ⟨g1, g2, g3⟩ := hkp
          exact lp_sumsM hs' hk 120 r.1 r.2.1 r.2.2 H2 (by omega) g2 (hT.fr f2) hP2 (RMq.fr kk f2)
      · have hs' : ∀ (p : Nat) (H : pmT) {K : Int32 → pmT → Prop}, p ≤ n → MT t n nm H → MP p o H → RMq n o nm (sub p) H K → pm_R (F + (d + 2) + 1) M_Mo_one [.ref 55] H (pm_i K) := fun p H K h1 h2 h3 h4 => hs p H K h1 h2 h3 h4
        refine m_Mo_product ?_
        refine hs' p H hp hT hP ?_
        have hkp := hk p hp
        generalize sub p = x at kk hkp
        match x, kk, hkp with
        | .inl q, kk, hkp =>
          intro v H2 f2 e1 e2
          refine c_byteM (hT.fr f2) hkp.2 e1 ?_
          refine b_Mo_product_10 _ _ ?_
          rw [e2]
          first | refine bt (nI_pos' (show q < 2 ^ 31 by have := hkp.2; omega)) ?_ | refine bf (nI_pos' (show q < 2 ^ 31 by have := hkp.2; omega)) ?_ | refine nt (nI_pos' (show q < 2 ^ 31 by have := hkp.2; omega)) ?_ | refine nf (nI_pos' (show q < 2 ^ 31 by have := hkp.2; omega)) ?_
          exact kk v H2 f2 e1 e2
        | .inr r, kk, hkp =>
          intro H2 f2 hP2
          obtain ⟨g1, g2, g3⟩ := hkp
          refine c_byteM (hT.fr f2) g2 hP2.1 ?_
          exact lp_prodM hs' hk 120 r.1 r.2.1 r.2.2 H2 (by omega) g2 (hT.fr f2) hP2 (RMq.fr kk f2)
    · rw [if_neg c5] at kk
      have e : lv = 5 := by omega
      subst e
      show pm_R (F + (d + 2) + 1 + 1) M_Mo_one [.ref 55] H (pm_i K)
      refine m_Mo_one ?_
      first | refine bt (show H.1 55 16 < 0 by rw [hP.2.1]; decide) ?_ | refine bf (show H.1 55 16 < 0 by rw [hP.2.1]; decide) ?_ | refine nt (show H.1 55 16 < 0 by rw [hP.2.1]; decide) ?_ | refine nf (show H.1 55 16 < 0 by rw [hP.2.1]; decide) ?_
      refine c_byteM hT hp hP.1 ?_
      have hlt : ¬ bT t n p = 0 → p < n := fun c => Nat.lt_of_not_le (fun z => c (bT_out p z))
      have hcl : ∀ (o' : Nat) (H2 : pmT), o' = o → H2.1 55 17 = nI (o + 1) → H2.1 55 17 - (1 : Int32) = nI o := fun o' H2 _ e => by rw [e, show (1 : Int32) = nI 1 from rfl, pk_sub (by omega), Nat.add_sub_cancel]
      by_cases c33 : bT t n p = 33
      · first | refine bt c33 ?_ | refine bf c33 ?_ | refine nt c33 ?_ | refine nf c33 ?_
        rw [if_pos (Or.inl (by rw [c33]; decide)), show nmOf (bT t n p) = none by rw [c33]; rfl] at kk
        simp only at kk
        by_cases c6 : 6 ≤ o
        · rw [if_pos c6] at kk
          have e6 : H.1 55 17 = 6 := by rw [hP.2.2, show o = 6 by omega]; rfl
          first | refine bt e6 ?_ | refine bf e6 ?_ | refine nt e6 ?_ | refine nf e6 ?_
          exact hP.flt fr.rf kk
        · rw [if_neg c6] at kk
          have e6 : ¬ H.1 55 17 = 6 := by
            rw [hP.2.2]
            exact fun z => c6 (by have := (nI_eq (a := o) (b := 6) (by omega) (by decide)).mp z; omega)
          first | refine bt e6 ?_ | refine bf e6 ?_ | refine nt e6 ?_ | refine nf e6 ?_
          rw [show H.1 55 17 + (1 : Int32) = nI (o + 1) by rw [hP.2.2]; exact nI_1 o]
          rw [hP.inc]
          obtain ⟨hP1, f1⟩ := hP.opn (o' := o + 1)
          obtain ⟨hP2, f2⟩ := hP1.step (p + 1)
          have hT2 := hT.fr (f1.tr f2)
          rw [if_neg (by rw [c33]; decide), if_pos c33] at kk
          have hpn := hlt (by rw [c33]; decide)
          refine ih' 5 (o + 1) (p + 1) _ (by decide) (by omega) hpn (by omega) hT2 hP2 ?_
          generalize pP (bT t n) F 5 (o + 1) (p + 1) = x at kk
          match x, kk with
          | .inl q, kk =>
            intro v H3 f3 e1 e2
            have f4 : fr JM H (pm_up H3.1 55 17 (H3.1 55 17 - (1 : Int32)), H3.2) := (f1.tr (f2.tr f3)).up rfl
            have q1 : pm_up H3.1 55 17 (H3.1 55 17 - (1 : Int32)) 55 14 = nI q := by rw [pm_up_self, pk_un (by decide)]; exact e1
            have q2 : pm_up H3.1 55 17 (H3.1 55 17 - (1 : Int32)) 55 16 = nI q := by rw [pm_up_self, pk_un (by decide)]; exact e2
            exact ⟨fun _ => kk _ _ f4 q1 q2, fun _ => kk _ _ f4 q1 q2⟩
          | .inr r, kk =>
            intro H3 f3 h3
            rw [hcl o H3 rfl h3.2.2]
            obtain ⟨h4, f4⟩ := h3.opn (o' := o)
            have k4 := kk _ (f1.tr (f2.tr (f3.tr f4))) h4
            by_cases cz : r.2.1 nm = 0
            · first | refine bt cz ?_ | refine bf cz ?_ | refine nt cz ?_ | refine nf cz ?_
              simp only [if_pos cz] at k4
              exact k4
            · first | refine bt cz ?_ | refine bf cz ?_ | refine nt cz ?_ | refine nf cz ?_
              simp only [if_neg cz] at k4
              exact k4
      · first | refine bt c33 ?_ | refine bf c33 ?_ | refine nt c33 ?_ | refine nf c33 ?_
        by_cases c45 : bT t n p = 45
        · first | refine bt c45 ?_ | refine bf c45 ?_ | refine nt c45 ?_ | refine nf c45 ?_
          rw [if_pos (Or.inl (by rw [c45]; decide)), show nmOf (bT t n p) = none by rw [c45]; rfl] at kk
          simp only at kk
          by_cases c6 : 6 ≤ o
          · rw [if_pos c6] at kk
            have e6 : H.1 55 17 = 6 := by rw [hP.2.2, show o = 6 by omega]; rfl
            first | refine bt e6 ?_ | refine bf e6 ?_ | refine nt e6 ?_ | refine nf e6 ?_
            exact hP.flt fr.rf kk
          · rw [if_neg c6] at kk
            have e6 : ¬ H.1 55 17 = 6 := by
              rw [hP.2.2]
              exact fun z => c6 (by have := (nI_eq (a := o) (b := 6) (by omega) (by decide)).mp z; omega)
            first | refine bt e6 ?_ | refine bf e6 ?_ | refine nt e6 ?_ | refine nf e6 ?_
            rw [show H.1 55 17 + (1 : Int32) = nI (o + 1) by rw [hP.2.2]; exact nI_1 o]
            rw [hP.inc]
            obtain ⟨hP1, f1⟩ := hP.opn (o' := o + 1)
            obtain ⟨hP2, f2⟩ := hP1.step (p + 1)
            have hT2 := hT.fr (f1.tr f2)
            rw [if_neg (by rw [c45]; decide), if_neg c33, if_pos c45] at kk
            have hpn := hlt (by rw [c45]; decide)
            refine ih' 5 (o + 1) (p + 1) _ (by decide) (by omega) hpn (by omega) hT2 hP2 ?_
            generalize pP (bT t n) F 5 (o + 1) (p + 1) = x at kk
            match x, kk with
            | .inl q, kk =>
              intro v H3 f3 e1 e2
              have f4 : fr JM H (pm_up H3.1 55 17 (H3.1 55 17 - (1 : Int32)), H3.2) := (f1.tr (f2.tr f3)).up rfl
              have q1 : pm_up H3.1 55 17 (H3.1 55 17 - (1 : Int32)) 55 14 = nI q := by rw [pm_up_self, pk_un (by decide)]; exact e1
              have q2 : pm_up H3.1 55 17 (H3.1 55 17 - (1 : Int32)) 55 16 = nI q := by rw [pm_up_self, pk_un (by decide)]; exact e2
              exact kk _ _ f4 q1 q2
            | .inr r, kk =>
              intro H3 f3 h3
              rw [hcl o H3 rfl h3.2.2]
              obtain ⟨h4, f4⟩ := h3.opn (o' := o)
              exact kk _ (f1.tr (f2.tr (f3.tr f4))) h4
        · first | refine bt c45 ?_ | refine bf c45 ?_ | refine nt c45 ?_ | refine nf c45 ?_
          by_cases c40 : bT t n p = 40
          · first | refine bt c40 ?_ | refine bf c40 ?_ | refine nt c40 ?_ | refine nf c40 ?_
            rw [if_pos (Or.inl (by rw [c40]; decide)), show nmOf (bT t n p) = none by rw [c40]; rfl] at kk
            simp only at kk
            by_cases c6 : 6 ≤ o
            · rw [if_pos c6] at kk
              have e6 : H.1 55 17 = 6 := by rw [hP.2.2, show o = 6 by omega]; rfl
              first | refine bt e6 ?_ | refine bf e6 ?_ | refine nt e6 ?_ | refine nf e6 ?_
              exact hP.flt fr.rf kk
            · rw [if_neg c6] at kk
              have e6 : ¬ H.1 55 17 = 6 := by
                rw [hP.2.2]
                exact fun z => c6 (by have := (nI_eq (a := o) (b := 6) (by omega) (by decide)).mp z; omega)
              first | refine bt e6 ?_ | refine bf e6 ?_ | refine nt e6 ?_ | refine nf e6 ?_
              rw [show H.1 55 17 + (1 : Int32) = nI (o + 1) by rw [hP.2.2]; exact nI_1 o]
              rw [hP.inc]
              obtain ⟨hP1, f1⟩ := hP.opn (o' := o + 1)
              obtain ⟨hP2, f2⟩ := hP1.step (p + 1)
              have hT2 := hT.fr (f1.tr f2)
              rw [if_pos c40] at kk
              have hpn := hlt (by rw [c40]; decide)
              refine ih' 0 (o + 1) (p + 1) _ (by decide) (by omega) hpn (by omega) hT2 hP2 ?_
              have hkp := PTok_pP (bT_out (t := t)) F 0 (o + 1) (p + 1) hpn
              generalize pP (bT t n) F 0 (o + 1) (p + 1) = x at kk hkp
              match x, kk, hkp with
              | .inl q, kk, hkp =>
                intro v H3 f3 e1 e2
                have hq : q < 2 ^ 31 := by have := hkp.2; omega
                refine c_takesF hq e2 _ ?_
                first | refine bt (show (0 : Int32) = 0 from rfl) ?_ | refine bf (show (0 : Int32) = 0 from rfl) ?_ | refine nt (show (0 : Int32) = 0 from rfl) ?_ | refine nf (show (0 : Int32) = 0 from rfl) ?_
                rw [e2]
                first | refine bt (nI_pos' hq) ?_ | refine bf (nI_pos' hq) ?_ | refine nt (nI_pos' hq) ?_ | refine nf (nI_pos' hq) ?_
                refine kk _ _ ((f1.tr (f2.tr f3)).up rfl) ?_ ?_
                · show pm_up H3.1 55 16 (nI q) 55 14 = _
                  rw [pm_up_self, pk_un (by decide)]; exact e1
                · show pm_up H3.1 55 16 (nI q) 55 16 = _
                  rw [pm_up_self, pk_us]
              | .inr r, kk, hkp =>
                intro H3 f3 h3
                simp only at kk
                refine c_takes (hT2.fr f3) hkp.2.1 h3 _ (fun c41 => ?_) (fun c41 H4 f4 h4 => ?_)
                · first | refine bt (show (0 : Int32) = 0 from rfl) ?_ | refine bf (show (0 : Int32) = 0 from rfl) ?_ | refine nt (show (0 : Int32) = 0 from rfl) ?_ | refine nf (show (0 : Int32) = 0 from rfl) ?_
                  rw [if_neg c41] at kk
                  obtain ⟨a1, a2, a3⟩ := h3
                  rw [a2]
                  first | refine bt (show ¬ (0 : Int32) ≤ -1 by decide) ?_ | refine bf (show ¬ (0 : Int32) ≤ -1 by decide) ?_ | refine nt (show ¬ (0 : Int32) ≤ -1 by decide) ?_ | refine nf (show ¬ (0 : Int32) ≤ -1 by decide) ?_
                  refine kk 0 _ ((f1.tr (f2.tr f3)).up rfl) ?_ ?_
                  · show pm_up H3.1 55 16 (H3.1 55 14) 55 14 = _
                    rw [pm_up_self, pk_un (by decide)]; exact a1
                  · show pm_up H3.1 55 16 (H3.1 55 14) 55 16 = _
                    rw [pm_up_self, pk_us]; exact a1
                · first | refine bt (show ¬ (1 : Int32) = 0 by decide) ?_ | refine bf (show ¬ (1 : Int32) = 0 by decide) ?_ | refine nt (show ¬ (1 : Int32) = 0 by decide) ?_ | refine nf (show ¬ (1 : Int32) = 0 by decide) ?_
                  rw [if_pos c41] at kk
                  rw [hcl o H4 rfl h4.2.2]
                  obtain ⟨h5, f5⟩ := h4.opn (o' := o)
                  exact kk _ (f1.tr (f2.tr (f3.tr (f4.tr f5)))) h5
          · first | refine bt c40 ?_ | refine bf c40 ?_ | refine nt c40 ?_ | refine nf c40 ?_
            refine c_nameM ?_
            by_cases cd : bT t n p < 48 ∨ 57 < bT t n p
            · rw [if_pos cd] at kk
              cases hn : nmOf (bT t n p) with
              | some k =>
                rw [hn] at kk
                have hk6 := nmOf_lt hn
                first | refine bt (show ¬ nmI (some k) < 0 from nI_pos (by omega)) ?_ | refine bf (show ¬ nmI (some k) < 0 from nI_pos (by omega)) ?_ | refine nt (show ¬ nmI (some k) < 0 from nI_pos (by omega)) ?_ | refine nf (show ¬ nmI (some k) < 0 from nI_pos (by omega)) ?_
                have e64 : H.1 64 (nmI (some k)).toNatClampNeg = nm k := by
                  show H.1 64 (nI k).toNatClampNeg = _
                  rw [nIc (by omega)]
                  exact hT.2.2.2 k hk6
                rw [hP.inc, e64]
                exact ⟨vp_in_nI hk6 (by decide), kk _ (hP.step (p + 1)).2 (hP.step (p + 1)).1⟩
              | none =>
                rw [hn] at kk
                simp only at kk
                rw [if_neg c40, if_neg c33, if_neg c45] at kk
                have kk : RMq n o nm (.inl p) H K := by
                  by_cases c6 : 6 ≤ o
                  · rw [if_pos c6] at kk; exact kk
                  · rw [if_neg c6] at kk; exact kk
                first | refine bt (show nmI none < 0 by decide) ?_ | refine bf (show nmI none < 0 by decide) ?_ | refine nt (show nmI none < 0 by decide) ?_ | refine nf (show nmI none < 0 by decide) ?_
                refine b_Mo_one_176 _ _ ?_
                first | refine bt (show ¬ (4 : Int32) ≤ 0 by decide) ?_ | refine bf (show ¬ (4 : Int32) ≤ 0 by decide) ?_ | refine nt (show ¬ (4 : Int32) ≤ 0 by decide) ?_ | refine nf (show ¬ (4 : Int32) ≤ 0 by decide) ?_
                refine c_byteM hT hp hP.1 ?_
                by_cases c1 : bT t n p < 48
                · first | refine bt c1 ?_ | refine bf c1 ?_ | refine nt c1 ?_ | refine nf c1 ?_
                  first | refine bt (show (0 : Int32) = 0 from rfl) ?_ | refine bf (show (0 : Int32) = 0 from rfl) ?_ | refine nt (show (0 : Int32) = 0 from rfl) ?_ | refine nf (show (0 : Int32) = 0 from rfl) ?_
                  exact hP.flt fr.rf kk
                · first | refine bt c1 ?_ | refine bf c1 ?_ | refine nt c1 ?_ | refine nf c1 ?_
                  refine c_byteM hT hp hP.1 ?_
                  first | refine bt (cd.resolve_left c1) ?_ | refine bf (cd.resolve_left c1) ?_ | refine nt (cd.resolve_left c1) ?_ | refine nf (cd.resolve_left c1) ?_
                  first | refine bt (show (0 : Int32) = 0 from rfl) ?_ | refine bf (show (0 : Int32) = 0 from rfl) ?_ | refine nt (show (0 : Int32) = 0 from rfl) ?_ | refine nf (show (0 : Int32) = 0 from rfl) ?_
                  exact hP.flt fr.rf kk
            · rw [if_neg cd] at kk
              have c1 : ¬ bT t n p < 48 := fun z => cd (Or.inl z)
              have c2 : ¬ 57 < bT t n p := fun z => cd (Or.inr z)
              have hpn : p < n := Nat.lt_of_not_le (fun z => c1 (by rw [bT_out p z]; decide))
              have hnn : nmOf (bT t n p) = none := by
                rw [Int32.lt_iff_toInt_lt] at c2
                have e57 : (57 : Int32).toInt = 57 := rfl
                have ne : ∀ k : Int32, 57 < k.toInt → ¬ bT t n p = k := fun k hk z => by rw [z] at c2; omega
                unfold nmOf
                rw [if_neg (ne 114 (by decide)), if_neg (ne 119 (by decide)), if_neg (ne 113 (by decide)), if_neg (ne 115 (by decide)), if_neg (ne 109 (by decide)), if_neg (ne 110 (by decide))]
              rw [hnn]
              first | refine bt (show nmI none < 0 by decide) ?_ | refine bf (show nmI none < 0 by decide) ?_ | refine nt (show nmI none < 0 by decide) ?_ | refine nf (show nmI none < 0 by decide) ?_
              refine b_Mo_one_176 _ _ ?_
              first | refine bt (show ¬ (4 : Int32) ≤ 0 by decide) ?_ | refine bf (show ¬ (4 : Int32) ≤ 0 by decide) ?_ | refine nt (show ¬ (4 : Int32) ≤ 0 by decide) ?_ | refine nf (show ¬ (4 : Int32) ≤ 0 by decide) ?_
              refine c_byteM hT hp hP.1 ?_
              first | refine bt c1 ?_ | refine bf c1 ?_ | refine nt c1 ?_ | refine nf c1 ?_
              refine c_byteM hT hp hP.1 ?_
              first | refine bt c2 ?_ | refine bf c2 ?_ | refine nt c2 ?_ | refine nf c2 ?_
              refine c_byteM hT hp hP.1 ?_
              rw [hP.inc, Int32.mul_comm 10 0]
              obtain ⟨hP1, f1⟩ := hP.step (p + 1)
              have en : numL (bT t n) 4 p 0 = numL (bT t n) 3 (p + 1) (0 * 10 + bT t n p - 48) := by
                conv => lhs; unfold numL
                rw [if_neg cd]
              rw [en] at kk
              exact lp_numM 3 1 (p + 1) _ _ rfl (by decide) hpn (hT.fr f1) hP1 (fun H' f h => kk H' (f1.tr f) h)
