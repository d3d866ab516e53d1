/-! the reference reads a text -/
abbrev JM : List Nat := [5515, 5517, 5518]
def MT (t : Nat → Int32) (n : Nat) (nm : Nat → Int32) (H : pmT) : Prop := H.1 55 15 = nI n ∧ n ≤ 120 ∧ ((H.1 55 13 = nI 0 ∧ ∀ j, j < n → H.1 63 j = t j) ∨ (H.1 55 13 = -1 ∧ ∀ j, j < n → H.1 62 j = t j)) ∧ ∀ j, j < 6 → H.1 64 j = nm j
theorem MT.fr {t : Nat → Int32} {n : Nat} {nm : Nat → Int32} {H H' : pmT} (h : MT t n nm H) (a : fr JM H H') : MT t n nm H' := by
  obtain ⟨h1, h2, h3, h4⟩ := h
  refine ⟨(a.1 55 15 rfl).trans h1, h2, ?_, fun j hj => (a.1 64 j rfl).trans (h4 j hj)⟩
  rcases h3 with ⟨z1, z2⟩ | ⟨z1, z2⟩
  · exact Or.inl ⟨(a.1 55 13 rfl).trans z1, fun j hj => (a.1 63 j rfl).trans (z2 j hj)⟩
  · exact Or.inr ⟨(a.1 55 13 rfl).trans z1, fun j hj => (a.1 62 j rfl).trans (z2 j hj)⟩
def MP (p o : Nat) (H : pmT) : Prop := H.1 55 14 = nI p ∧ H.1 55 16 = -1 ∧ H.1 55 17 = nI o
def RMq (n o : Nat) (nm : Nat → Int32) (x : PT) (H : pmT) (K : Int32 → pmT → Prop) : Prop := match x with
  | .inl q => ∀ v H', fr JM H H' → H'.1 55 14 = nI q → H'.1 55 16 = nI q → K v H'
  | .inr r => ∀ H', fr JM H H' → MP r.1 o H' → K (r.2.1 nm) H'
theorem RMq.fr {n o : Nat} {nm : Nat → Int32} {x : PT} {H H1 : pmT} {K : Int32 → pmT → Prop} (h : RMq n o nm x H K) (a : fr JM H H1) : RMq n o nm x H1 K := by
  match x, h with
  | .inl q, h => exact fun v H' f e1 e2 => h v H' (a.tr f) e1 e2
  | .inr r, h => exact fun H' f e => h H' (a.tr f) e
theorem MP.step {p o : Nat} {H : pmT} (h : MP p o H) (p' : Nat) : MP p' o (pm_up H.1 55 14 (nI p'), H.2) ∧ fr JM H (pm_up H.1 55 14 (nI p'), H.2) := by
  obtain ⟨h1, h2, h3⟩ := h
  have e : ∀ k, ¬ k = 14 → pm_up H.1 55 14 (nI p') 55 k = H.1 55 k := fun k hk => by rw [pm_up_self, pk_un hk]
  refine ⟨⟨?_, (e 16 (by decide)).trans h2, (e 17 (by decide)).trans h3⟩, fr.rf.up rfl⟩
  show pm_up H.1 55 14 (nI p') 55 14 = _
  rw [pm_up_self, pk_us]
theorem MP.inc {p o : Nat} {H : pmT} (h : MP p o H) : H.1 55 14 + (1 : Int32) = nI (p + 1) := by rw [h.1]; exact nI_1 p
theorem c_byteM {d n p : Nat} {t : Nat → Int32} {nm : Nat → Int32} {H : pmT} {K : Int32 → pmT → Prop} (hT : MT t n nm H) (hp : p ≤ n) (ep : H.1 55 14 = nI p) (kk : K (bT t n p) H) : pm_R d M_Mo_byteAt [.ref 55] H (pm_i K) := by
  refine m_Mo_byteAt ?_
  obtain ⟨h1, h2, h3, h4⟩ := hT
  rw [h1, ep, i_le _ _ (by omega) (by omega)]
  unfold bT at kk
  by_cases c : n ≤ p
  · first | refine bt c ?_ | refine bf c ?_ | refine nt c ?_ | refine nf c ?_
    rw [if_neg (by omega)] at kk
    exact kk
  · first | refine bt c ?_ | refine bf c ?_ | refine nt c ?_ | refine nf c ?_
    rw [if_pos (by omega)] at kk
    rcases h3 with ⟨z1, z2⟩ | ⟨z1, z2⟩
    · rw [z1, show nI 0 + nI p = nI p from by rw [nI_add, Nat.zero_add], nIc (by omega), z2 p (by omega)]
      first | refine bt (nI_pos' (n := 0) (by decide)) ?_ | refine bf (nI_pos' (n := 0) (by decide)) ?_ | refine nt (nI_pos' (n := 0) (by decide)) ?_ | refine nf (nI_pos' (n := 0) (by decide)) ?_
      exact ⟨vp_in_nI (by omega) (by decide), kk⟩
    · rw [z1, nIc (by omega), z2 p (by omega)]
      first | refine bt (show ¬ (0 : Int32) ≤ -1 by decide) ?_ | refine bf (show ¬ (0 : Int32) ≤ -1 by decide) ?_ | refine nt (show ¬ (0 : Int32) ≤ -1 by decide) ?_ | refine nf (show ¬ (0 : Int32) ≤ -1 by decide) ?_
      exact ⟨vp_in_nI (by omega) (by decide), kk⟩
theorem c_takes {d n p o : Nat} {t : Nat → Int32} {nm : Nat → Int32} {H : pmT} {K : Int32 → pmT → Prop} (hT : MT t n nm H) (hp : p ≤ n) (hP : MP p o H) (c : Int32) (k0 : ¬ bT t n p = c → K 0 H) (k1 : bT t n p = c → ∀ H', fr JM H H' → MP (p + 1) o H' → K 1 H') : pm_R (d + 1) M_Mo_takes [.ref 55, .int c] H (pm_i K) := by
  refine m_Mo_takes _ ?_
  rw [hP.2.1]
  first | refine bt (show ¬ (0 : Int32) ≤ -1 by decide) ?_ | refine bf (show ¬ (0 : Int32) ≤ -1 by decide) ?_ | refine nt (show ¬ (0 : Int32) ≤ -1 by decide) ?_ | refine nf (show ¬ (0 : Int32) ≤ -1 by decide) ?_
  refine c_byteM hT hp hP.1 ?_
  by_cases e : bT t n p = c
  · first | refine bt e ?_ | refine bf e ?_ | refine nt e ?_ | refine nf e ?_
    rw [hP.inc]
    exact k1 e _ (hP.step (p + 1)).2 (hP.step (p + 1)).1
  · first | refine bt e ?_ | refine bf e ?_ | refine nt e ?_ | refine nf e ?_
    exact k0 e
theorem c_takesF {d q : Nat} {H : pmT} {K : Int32 → pmT → Prop} (hq : q < 2 ^ 31) (e : H.1 55 16 = nI q) (c : Int32) (k0 : K 0 H) : pm_R (d + 1) M_Mo_takes [.ref 55, .int c] H (pm_i K) := by
  refine m_Mo_takes _ ?_
  rw [e]
  first | refine bt (nI_pos' hq) ?_ | refine bf (nI_pos' hq) ?_ | refine nt (nI_pos' hq) ?_ | refine nf (nI_pos' hq) ?_
  exact k0
theorem c_nameM {d : Nat} {b : Int32} {H : pmT} {K : Int32 → pmT → Prop} (kk : K (nmI (nmOf b)) H) : pm_R d M_Mo_nameOf [.int b] H (pm_i K) := by
  refine m_Mo_nameOf _ ?_
  unfold nmOf at kk
  repeat' (first | intro hh | apply And.intro)
  all_goals first
    | (simpa [*, nmI] using kk)
    | (subst b; exact kk)
theorem lp_eitherM {d n o : Nat} {t nm : Nat → Int32} {sub : Nat → PT} (hs : ∀ (p : Nat) (H : pmT) {K : Int32 → pmT → Prop}, p ≤ n → MT t n nm H → MP p o H → RMq n o nm (sub p) H K → pm_R (d + 1) M_Mo_both [.ref 55] H (pm_i K)) (hk : ∀ p, p ≤ n → PTok n p (sub p)) : ∀ (m p : Nat) (e : Den) (cs : List Int32) (H : pmT) {K : Int32 → pmT → Prop}, n ≤ p + m → p ≤ n → MT t n nm H → MP p o H → RMq n o nm (opL (bT t n) 0 sub m p e cs) H K → pm_RW none (d + 2) M_Mo_either (pm_i K) 5 [(0, .ref 55), (1, .int (e nm))] [] H
  | 0, p, e, cs, H, K, hm, hp, hT, hP, kk => by
    refine b_Mo_either_5 _ ?_
    refine c_takes hT hp hP _ (fun c => ?_) (fun c => ?_)
    · first | refine bt (show (0 : Int32) = 0 from rfl) ?_ | refine bf (show (0 : Int32) = 0 from rfl) ?_ | refine nt (show (0 : Int32) = 0 from rfl) ?_ | refine nf (show (0 : Int32) = 0 from rfl) ?_
      exact kk H fr.rf hP
    · rw [bT_out p (by omega)] at c
      exact absurd c (by decide)
  | m + 1, p, e, cs, H, K, hm, hp, hT, hP, kk => by
    have ih := fun p e cs H K => lp_eitherM (d := d) (n := n) (o := o) (t := t) (nm := nm) hs hk m p e cs H (K := K)
    refine b_Mo_either_5 _ ?_
    unfold opL at kk
    refine c_takes hT hp hP _ (fun c => ?_) (fun c H1 f1 hP1 => ?_)
    · first | refine bt (show (0 : Int32) = 0 from rfl) ?_ | refine bf (show (0 : Int32) = 0 from rfl) ?_ | refine nt (show (0 : Int32) = 0 from rfl) ?_ | refine nf (show (0 : Int32) = 0 from rfl) ?_
      rw [show opOf 0 (bT t n p) = 0 from if_neg c, if_pos rfl] at kk
      exact kk H fr.rf hP
    · first | refine bt (show ¬ (1 : Int32) = 0 by decide) ?_ | refine bf (show ¬ (1 : Int32) = 0 by decide) ?_ | refine nt (show ¬ (1 : Int32) = 0 by decide) ?_ | refine nf (show ¬ (1 : Int32) = 0 by decide) ?_
      have hpn : p < n := by
        refine Nat.lt_of_not_le (fun z => ?_)
        rw [bT_out p z] at c
        exact absurd c (by decide)
      rw [show opOf 0 (bT t n p) = -1 from if_pos c, if_neg (by decide)] at kk
      have hT1 := hT.fr f1
      refine hs (p + 1) H1 hpn hT1 hP1 ?_
      have hkp := hk (p + 1) hpn
      generalize sub (p + 1) = x at kk hkp
      match x, kk, hkp with
      | .inl q, kk, hkp =>
        intro v H2 f2 e1 e2
        have hq : q < 2 ^ 31 := by have := hT.2.1; have := hkp.2; omega
        have go : ∀ w : Int32, pm_RW none (d + 2) M_Mo_either (pm_i K) 5 [(0, .ref 55), (1, .int w)] [] H2 := fun w => by
          refine b_Mo_either_5 _ ?_
          refine c_takesF hq e2 _ ?_
          first | refine bt (show (0 : Int32) = 0 from rfl) ?_ | refine bf (show (0 : Int32) = 0 from rfl) ?_ | refine nt (show (0 : Int32) = 0 from rfl) ?_ | refine nf (show (0 : Int32) = 0 from rfl) ?_
          exact kk w H2 (f1.tr f2) e1 e2
        exact ⟨fun _ => go _, fun _ => ⟨fun _ => go _, fun _ => go _⟩⟩
      | .inr r, kk, hkp =>
        intro H2 f2 hP2
        simp only at kk
        obtain ⟨g1, g2, g3⟩ := hkp
        have i1 := ih r.1 (fun nm => joinV (-1) (e nm) (r.2.1 nm)) _ H2 K (by omega) g2 (hT1.fr f2) hP2 (kk.fr (f1.tr f2))
        by_cases c1 : e nm = 0
        · first | refine bt c1 ?_ | refine bf c1 ?_ | refine nt c1 ?_ | refine nf c1 ?_
          by_cases c2 : r.2.1 nm = 0
          · first | refine bt c2 ?_ | refine bf c2 ?_ | refine nt c2 ?_ | refine nf c2 ?_
            have ez : joinV (-1) (e nm) (r.2.1 nm) = 0 := by rw [c1, c2]; rfl
            simp only [ez] at i1
            exact i1
          · first | refine bt c2 ?_ | refine bf c2 ?_ | refine nt c2 ?_ | refine nf c2 ?_
            have ez : joinV (-1) (e nm) (r.2.1 nm) = 1 := by unfold joinV; simp [c1, c2]
            simp only [ez] at i1
            exact i1
        · first | refine bt c1 ?_ | refine bf c1 ?_ | refine nt c1 ?_ | refine nf c1 ?_
          have ez : joinV (-1) (e nm) (r.2.1 nm) = 1 := by unfold joinV; simp [c1]
          simp only [ez] at i1
          exact i1
theorem lp_bothM {d n o : Nat} {t nm : Nat → Int32} {sub : Nat → PT} (hs : ∀ (p : Nat) (H : pmT) {K : Int32 → pmT → Prop}, p ≤ n → MT t n nm H → MP p o H → RMq n o nm (sub p) H K → pm_R (d + 1) M_Mo_compared [.ref 55] H (pm_i K)) (hk : ∀ p, p ≤ n → PTok n p (sub p)) : ∀ (m p : Nat) (e : Den) (cs : List Int32) (H : pmT) {K : Int32 → pmT → Prop}, n ≤ p + m → p ≤ n → MT t n nm H → MP p o H → RMq n o nm (opL (bT t n) 1 sub m p e cs) H K → pm_RW none (d + 2) M_Mo_both (pm_i K) 5 [(0, .ref 55), (1, .int (e nm))] [] H
  | 0, p, e, cs, H, K, hm, hp, hT, hP, kk => by
    refine b_Mo_both_5 _ ?_
    refine c_takes hT hp hP _ (fun c => ?_) (fun c => ?_)
    · first | refine bt (show (0 : Int32) = 0 from rfl) ?_ | refine bf (show (0 : Int32) = 0 from rfl) ?_ | refine nt (show (0 : Int32) = 0 from rfl) ?_ | refine nf (show (0 : Int32) = 0 from rfl) ?_
      exact kk H fr.rf hP
    · rw [bT_out p (by omega)] at c
      exact absurd c (by decide)
  | m + 1, p, e, cs, H, K, hm, hp, hT, hP, kk => by
    have ih := fun p e cs H K => lp_bothM (d := d) (n := n) (o := o) (t := t) (nm := nm) hs hk m p e cs H (K := K)
    refine b_Mo_both_5 _ ?_
    unfold opL at kk
    refine c_takes hT hp hP _ (fun c => ?_) (fun c H1 f1 hP1 => ?_)
    · first | refine bt (show (0 : Int32) = 0 from rfl) ?_ | refine bf (show (0 : Int32) = 0 from rfl) ?_ | refine nt (show (0 : Int32) = 0 from rfl) ?_ | refine nf (show (0 : Int32) = 0 from rfl) ?_
      rw [show opOf 1 (bT t n p) = 0 from if_neg c, if_pos rfl] at kk
      exact kk H fr.rf hP
    · first | refine bt (show ¬ (1 : Int32) = 0 by decide) ?_ | refine bf (show ¬ (1 : Int32) = 0 by decide) ?_ | refine nt (show ¬ (1 : Int32) = 0 by decide) ?_ | refine nf (show ¬ (1 : Int32) = 0 by decide) ?_
      have hpn : p < n := by
        refine Nat.lt_of_not_le (fun z => ?_)
        rw [bT_out p z] at c
        exact absurd c (by decide)
      rw [show opOf 1 (bT t n p) = -2 from if_pos c, if_neg (by decide)] at kk
      have hT1 := hT.fr f1
      refine hs (p + 1) H1 hpn hT1 hP1 ?_
      have hkp := hk (p + 1) hpn
      generalize sub (p + 1) = x at kk hkp
      match x, kk, hkp with
      | .inl q, kk, hkp =>
        intro v H2 f2 e1 e2
        have hq : q < 2 ^ 31 := by have := hT.2.1; have := hkp.2; omega
        have go : ∀ w : Int32, pm_RW none (d + 2) M_Mo_both (pm_i K) 5 [(0, .ref 55), (1, .int w)] [] H2 := fun w => by
          refine b_Mo_both_5 _ ?_
          refine c_takesF hq e2 _ ?_
          first | refine bt (show (0 : Int32) = 0 from rfl) ?_ | refine bf (show (0 : Int32) = 0 from rfl) ?_ | refine nt (show (0 : Int32) = 0 from rfl) ?_ | refine nf (show (0 : Int32) = 0 from rfl) ?_
          exact kk w H2 (f1.tr f2) e1 e2
        exact ⟨fun _ => go _, fun _ => ⟨fun _ => go _, fun _ => go _⟩⟩
      | .inr r, kk, hkp =>
        intro H2 f2 hP2
        simp only at kk
        obtain ⟨g1, g2, g3⟩ := hkp
        have i1 := ih r.1 (fun nm => joinV (-2) (e nm) (r.2.1 nm)) _ H2 K (by omega) g2 (hT1.fr f2) hP2 (kk.fr (f1.tr f2))
        by_cases c1 : e nm = 0
        · first | refine bt c1 ?_ | refine bf c1 ?_ | refine nt c1 ?_ | refine nf c1 ?_
          have ez : joinV (-2) (e nm) (r.2.1 nm) = 0 := by unfold joinV; simp [c1]
          simp only [ez] at i1
          exact i1
        · first | refine bt c1 ?_ | refine bf c1 ?_ | refine nt c1 ?_ | refine nf c1 ?_
          by_cases c2 : r.2.1 nm = 0
          · first | refine bt c2 ?_ | refine bf c2 ?_ | refine nt c2 ?_ | refine nf c2 ?_
            have ez : joinV (-2) (e nm) (r.2.1 nm) = 0 := by unfold joinV; simp [c2]
            simp only [ez] at i1
            exact i1
          · first | refine bt c2 ?_ | refine bf c2 ?_ | refine nt c2 ?_ | refine nf c2 ?_
            have ez : joinV (-2) (e nm) (r.2.1 nm) = 1 := by unfold joinV; simp [c1, c2]
            simp only [ez] at i1
            exact i1
theorem lp_sumsM {d n o : Nat} {t nm : Nat → Int32} {sub : Nat → PT} (hs : ∀ (p : Nat) (H : pmT) {K : Int32 → pmT → Prop}, p ≤ n → MT t n nm H → MP p o H → RMq n o nm (sub p) H K → pm_R (d + 1) M_Mo_product [.ref 55] H (pm_i K)) (hk : ∀ p, p ≤ n → PTok n p (sub p)) : ∀ (m p : Nat) (e : Den) (cs : List Int32) (H : pmT) {K : Int32 → pmT → Prop}, n ≤ p + m → p ≤ n → MT t n nm H → MP p o H → RMq n o nm (opL (bT t n) 3 sub m p e cs) H K → pm_RW none (d + 2) M_Mo_sums (pm_i K) 5 [(0, .ref 55), (1, .int (e nm))] [] H
  | 0, p, e, cs, H, K, hm, hp, hT, hP, kk => by
    refine b_Mo_sums_5 _ ?_
    rw [hP.2.1]
    first | refine bt (show ¬ (0 : Int32) ≤ -1 by decide) ?_ | refine bf (show ¬ (0 : Int32) ≤ -1 by decide) ?_ | refine nt (show ¬ (0 : Int32) ≤ -1 by decide) ?_ | refine nf (show ¬ (0 : Int32) ≤ -1 by decide) ?_
    have e0 := bT_out (t := t) (n := n) p (by omega)
    refine c_byteM hT hp hP.1 ?_
    first | refine bt (show ¬ bT t n p = 43 by rw [e0]; decide) ?_ | refine bf (show ¬ bT t n p = 43 by rw [e0]; decide) ?_ | refine nt (show ¬ bT t n p = 43 by rw [e0]; decide) ?_ | refine nf (show ¬ bT t n p = 43 by rw [e0]; decide) ?_
    refine c_byteM hT hp hP.1 ?_
    first | refine bt (show ¬ bT t n p = 45 by rw [e0]; decide) ?_ | refine bf (show ¬ bT t n p = 45 by rw [e0]; decide) ?_ | refine nt (show ¬ bT t n p = 45 by rw [e0]; decide) ?_ | refine nf (show ¬ bT t n p = 45 by rw [e0]; decide) ?_
    exact kk H fr.rf hP
  | m + 1, p, e, cs, H, K, hm, hp, hT, hP, kk => by
    have ih := fun p e cs H K => lp_sumsM (d := d) (n := n) (o := o) (t := t) (nm := nm) hs hk m p e cs H (K := K)
    refine b_Mo_sums_5 _ ?_
    rw [hP.2.1]
    first | refine bt (show ¬ (0 : Int32) ≤ -1 by decide) ?_ | refine bf (show ¬ (0 : Int32) ≤ -1 by decide) ?_ | refine nt (show ¬ (0 : Int32) ≤ -1 by decide) ?_ | refine nf (show ¬ (0 : Int32) ≤ -1 by decide) ?_
    unfold opL at kk
    refine c_byteM hT hp hP.1 ?_
    have hlt : ¬ bT t n p = 0 → p < n := fun c => Nat.lt_of_not_le (fun z => c (bT_out p z))
    obtain ⟨hP1, f1⟩ := hP.step (p + 1)
    by_cases c43 : bT t n p = 43
    · first | refine bt c43 ?_ | refine bf c43 ?_ | refine nt c43 ?_ | refine nf c43 ?_
      refine c_byteM hT hp hP.1 ?_
      first | refine bt c43 ?_ | refine bf c43 ?_ | refine nt c43 ?_ | refine nf c43 ?_
      have hpn := hlt (by rw [c43]; decide)
      rw [hP.inc]
      rw [show opOf 3 (bT t n p) = -6 from if_pos c43, if_neg (by decide)] at kk
      have hT1 := hT.fr f1
      refine hs (p + 1) _ hpn hT1 hP1 ?_
      have hkp := hk (p + 1) hpn
      generalize sub (p + 1) = x at kk hkp
      match x, kk, hkp with
      | .inl q, kk, hkp =>
        intro v H2 f2 e1 e2
        have hq : q < 2 ^ 31 := by have := hT.2.1; have := hkp.2; omega
        refine b_Mo_sums_5 _ ?_
        rw [e2]
        first | refine bt (nI_pos' hq) ?_ | refine bf (nI_pos' hq) ?_ | refine nt (nI_pos' hq) ?_ | refine nf (nI_pos' hq) ?_
        exact kk _ H2 (f1.tr f2) e1 e2
      | .inr r, kk, hkp =>
        intro H2 f2 hP2
        simp only at kk
        obtain ⟨g1, g2, g3⟩ := hkp
        exact ih r.1 (fun nm => joinV (-6) (e nm) (r.2.1 nm)) _ H2 K (by omega) g2 (hT1.fr f2) hP2 (kk.fr (f1.tr f2))
    · first | refine bt c43 ?_ | refine bf c43 ?_ | refine nt c43 ?_ | refine nf c43 ?_
      refine c_byteM hT hp hP.1 ?_
      by_cases c45 : bT t n p = 45
      · first | refine bt c45 ?_ | refine bf c45 ?_ | refine nt c45 ?_ | refine nf c45 ?_
        refine c_byteM hT hp hP.1 ?_
        first | refine bt c43 ?_ | refine bf c43 ?_ | refine nt c43 ?_ | refine nf c43 ?_
        have hpn := hlt (by rw [c45]; decide)
        rw [hP.inc]
        rw [show opOf 3 (bT t n p) = -7 from (if_neg c43).trans (if_pos c45), if_neg (by decide)] at kk
        have hT1 := hT.fr f1
        refine hs (p + 1) _ hpn hT1 hP1 ?_
        have hkp := hk (p + 1) hpn
        generalize sub (p + 1) = x at kk hkp
        match x, kk, hkp with
        | .inl q, kk, hkp =>
          intro v H2 f2 e1 e2
          have hq : q < 2 ^ 31 := by have := hT.2.1; have := hkp.2; omega
          refine b_Mo_sums_5 _ ?_
          rw [e2]
          first | refine bt (nI_pos' hq) ?_ | refine bf (nI_pos' hq) ?_ | refine nt (nI_pos' hq) ?_ | refine nf (nI_pos' hq) ?_
          exact kk _ H2 (f1.tr f2) e1 e2
        | .inr r, kk, hkp =>
          intro H2 f2 hP2
          simp only at kk
          obtain ⟨g1, g2, g3⟩ := hkp
          exact ih r.1 (fun nm => joinV (-7) (e nm) (r.2.1 nm)) _ H2 K (by omega) g2 (hT1.fr f2) hP2 (kk.fr (f1.tr f2))
      · first | refine bt c45 ?_ | refine bf c45 ?_ | refine nt c45 ?_ | refine nf c45 ?_
        rw [show opOf 3 (bT t n p) = 0 from (if_neg c43).trans (if_neg c45), if_pos rfl] at kk
        exact kk H fr.rf hP
theorem lp_prodM {d n o : Nat} {t nm : Nat → Int32} {sub : Nat → PT} (hs : ∀ (p : Nat) (H : pmT) {K : Int32 → pmT → Prop}, p ≤ n → MT t n nm H → MP p o H → RMq n o nm (sub p) H K → pm_R (d + 1) M_Mo_one [.ref 55] H (pm_i K)) (hk : ∀ p, p ≤ n → PTok n p (sub p)) : ∀ (m p : Nat) (e : Den) (cs : List Int32) (H : pmT) {K : Int32 → pmT → Prop}, n ≤ p + m → p ≤ n → MT t n nm H → MP p o H → RMq n o nm (opL (bT t n) 4 sub m p e cs) H K → pm_RW none (d + 2) M_Mo_product (pm_i K) 10 [(0, .ref 55), (1, .int (e nm)), (2, .int (bT t n p))] [] H
  | 0, p, e, cs, H, K, hm, hp, hT, hP, kk => by
    refine b_Mo_product_10 _ _ ?_
    rw [hP.2.1]
    first | refine bt (show ¬ (0 : Int32) ≤ -1 by decide) ?_ | refine bf (show ¬ (0 : Int32) ≤ -1 by decide) ?_ | refine nt (show ¬ (0 : Int32) ≤ -1 by decide) ?_ | refine nf (show ¬ (0 : Int32) ≤ -1 by decide) ?_
    have e0 := bT_out (t := t) (n := n) p (by omega)
    first | refine bt (show ¬ bT t n p = 42 by rw [e0]; decide) ?_ | refine bf (show ¬ bT t n p = 42 by rw [e0]; decide) ?_ | refine nt (show ¬ bT t n p = 42 by rw [e0]; decide) ?_ | refine nf (show ¬ bT t n p = 42 by rw [e0]; decide) ?_
    first | refine bt (show ¬ bT t n p = 47 by rw [e0]; decide) ?_ | refine bf (show ¬ bT t n p = 47 by rw [e0]; decide) ?_ | refine nt (show ¬ bT t n p = 47 by rw [e0]; decide) ?_ | refine nf (show ¬ bT t n p = 47 by rw [e0]; decide) ?_
    first | refine bt (show ¬ bT t n p = 37 by rw [e0]; decide) ?_ | refine bf (show ¬ bT t n p = 37 by rw [e0]; decide) ?_ | refine nt (show ¬ bT t n p = 37 by rw [e0]; decide) ?_ | refine nf (show ¬ bT t n p = 37 by rw [e0]; decide) ?_
    exact kk H fr.rf hP
  | m + 1, p, e, cs, H, K, hm, hp, hT, hP, kk => by
    have ih := fun p e cs H K => lp_prodM (d := d) (n := n) (o := o) (t := t) (nm := nm) hs hk m p e cs H (K := K)
    refine b_Mo_product_10 _ _ ?_
    rw [hP.2.1]
    first | refine bt (show ¬ (0 : Int32) ≤ -1 by decide) ?_ | refine bf (show ¬ (0 : Int32) ≤ -1 by decide) ?_ | refine nt (show ¬ (0 : Int32) ≤ -1 by decide) ?_ | refine nf (show ¬ (0 : Int32) ≤ -1 by decide) ?_
    unfold opL at kk
    have hlt : ¬ bT t n p = 0 → p < n := fun c => Nat.lt_of_not_le (fun z => c (bT_out p z))
    obtain ⟨hP1, f1⟩ := hP.step (p + 1)
    by_cases c42 : bT t n p = 42
    · first | refine bt c42 ?_ | refine bf c42 ?_ | refine nt c42 ?_ | refine nf c42 ?_
      have hpn := hlt (by rw [c42]; decide)
      rw [show opOf 4 (bT t n p) = -8 from if_pos c42, if_neg (by decide)] at kk
      have hT1 := hT.fr f1
      rw [hP.inc]
      refine hs (p + 1) _ hpn hT1 hP1 ?_
      have hkp := hk (p + 1) hpn
      generalize sub (p + 1) = x at kk hkp
      match x, kk, hkp with
      | .inl q, kk, hkp =>
        intro v H2 f2 e1 e2
        have hq : q < 2 ^ 31 := by have := hT.2.1; have := hkp.2; omega
        have go : ∀ w, pm_R (d + 1) M_Mo_byteAt [.ref 55] H2 (pm_i (fun x10 H9 => pm_RW none (d + 2) M_Mo_product (pm_i K) 10 [(0, .ref 55), (1, .int w), (2, .int x10)] [] H9)) := fun w => by
          refine c_byteM (hT1.fr f2) hkp.2 e1 ?_
          refine b_Mo_product_10 _ _ ?_
          rw [e2]
          first | refine bt (nI_pos' hq) ?_ | refine bf (nI_pos' hq) ?_ | refine nt (nI_pos' hq) ?_ | refine nf (nI_pos' hq) ?_
          exact kk _ H2 (f1.tr f2) e1 e2
        exact go _
      | .inr r, kk, hkp =>
        intro H2 f2 hP2
        simp only at kk
        obtain ⟨g1, g2, g3⟩ := hkp
        have i1 : pm_RW none (d + 2) M_Mo_product (pm_i K) 10 [(0, .ref 55), (1, .int (joinV (-8) (e nm) (r.2.1 nm))), (2, .int (bT t n r.1))] [] H2 := ih r.1 (fun nm => joinV (-8) (e nm) (r.2.1 nm)) _ H2 K (by omega) g2 (hT1.fr f2) hP2 (kk.fr (f1.tr f2))
        exact c_byteM (hT1.fr f2) g2 hP2.1 i1
    · first | refine bt c42 ?_ | refine bf c42 ?_ | refine nt c42 ?_ | refine nf c42 ?_
      by_cases c47 : bT t n p = 47
      · first | refine bt c47 ?_ | refine bf c47 ?_ | refine nt c47 ?_ | refine nf c47 ?_
        have hpn := hlt (by rw [c47]; decide)
        rw [show opOf 4 (bT t n p) = -9 from (if_neg c42).trans (if_pos c47), if_neg (by decide)] at kk
        have hT1 := hT.fr f1
        rw [hP.inc]
        refine hs (p + 1) _ hpn hT1 hP1 ?_
        have hkp := hk (p + 1) hpn
        generalize sub (p + 1) = x at kk hkp
        match x, kk, hkp with
        | .inl q, kk, hkp =>
          intro v H2 f2 e1 e2
          have hq : q < 2 ^ 31 := by have := hT.2.1; have := hkp.2; omega
          have go : ∀ w, pm_R (d + 1) M_Mo_byteAt [.ref 55] H2 (pm_i (fun x10 H9 => pm_RW none (d + 2) M_Mo_product (pm_i K) 10 [(0, .ref 55), (1, .int w), (2, .int x10)] [] H9)) := fun w => by
            refine c_byteM (hT1.fr f2) hkp.2 e1 ?_
            refine b_Mo_product_10 _ _ ?_
            rw [e2]
            first | refine bt (nI_pos' hq) ?_ | refine bf (nI_pos' hq) ?_ | refine nt (nI_pos' hq) ?_ | refine nf (nI_pos' hq) ?_
            exact kk _ H2 (f1.tr f2) e1 e2
          exact ⟨fun _ => go _, fun _ => go _⟩
        | .inr r, kk, hkp =>
          intro H2 f2 hP2
          simp only at kk
          obtain ⟨g1, g2, g3⟩ := hkp
          have i1 : pm_RW none (d + 2) M_Mo_product (pm_i K) 10 [(0, .ref 55), (1, .int (joinV (-9) (e nm) (r.2.1 nm))), (2, .int (bT t n r.1))] [] H2 := ih r.1 (fun nm => joinV (-9) (e nm) (r.2.1 nm)) _ H2 K (by omega) g2 (hT1.fr f2) hP2 (kk.fr (f1.tr f2))
          have ej : joinV (-9) (e nm) (r.2.1 nm) = if r.2.1 nm = 0 then 0 else e nm / r.2.1 nm := rfl
          by_cases cz : r.2.1 nm = 0
          · first | refine bt cz ?_ | refine bf cz ?_ | refine nt cz ?_ | refine nf cz ?_
            rw [ej, if_pos cz] at i1
            exact c_byteM (hT1.fr f2) g2 hP2.1 i1
          · first | refine bt cz ?_ | refine bf cz ?_ | refine nt cz ?_ | refine nf cz ?_
            rw [ej, if_neg cz] at i1
            exact c_byteM (hT1.fr f2) g2 hP2.1 i1
      · first | refine bt c47 ?_ | refine bf c47 ?_ | refine nt c47 ?_ | refine nf c47 ?_
        by_cases c37 : bT t n p = 37
        · first | refine bt c37 ?_ | refine bf c37 ?_ | refine nt c37 ?_ | refine nf c37 ?_
          have hpn := hlt (by rw [c37]; decide)
          rw [show opOf 4 (bT t n p) = -10 from (if_neg c42).trans ((if_neg c47).trans (if_pos c37)), if_neg (by decide)] at kk
          have hT1 := hT.fr f1
          rw [hP.inc]
          refine hs (p + 1) _ hpn hT1 hP1 ?_
          have hkp := hk (p + 1) hpn
          generalize sub (p + 1) = x at kk hkp
          match x, kk, hkp with
          | .inl q, kk, hkp =>
            intro v H2 f2 e1 e2
            have hq : q < 2 ^ 31 := by have := hT.2.1; have := hkp.2; omega
            have go : ∀ w, pm_R (d + 1) M_Mo_byteAt [.ref 55] H2 (pm_i (fun x10 H9 => pm_RW none (d + 2) M_Mo_product (pm_i K) 10 [(0, .ref 55), (1, .int w), (2, .int x10)] [] H9)) := fun w => by
              refine c_byteM (hT1.fr f2) hkp.2 e1 ?_
              refine b_Mo_product_10 _ _ ?_
              rw [e2]
              first | refine bt (nI_pos' hq) ?_ | refine bf (nI_pos' hq) ?_ | refine nt (nI_pos' hq) ?_ | refine nf (nI_pos' hq) ?_
              exact kk _ H2 (f1.tr f2) e1 e2
            exact ⟨fun _ => go _, fun _ => go _⟩
          | .inr r, kk, hkp =>
            intro H2 f2 hP2
            simp only at kk
            obtain ⟨g1, g2, g3⟩ := hkp
            have i1 : pm_RW none (d + 2) M_Mo_product (pm_i K) 10 [(0, .ref 55), (1, .int (joinV (-10) (e nm) (r.2.1 nm))), (2, .int (bT t n r.1))] [] H2 := ih r.1 (fun nm => joinV (-10) (e nm) (r.2.1 nm)) _ H2 K (by omega) g2 (hT1.fr f2) hP2 (kk.fr (f1.tr f2))
            have ej : joinV (-10) (e nm) (r.2.1 nm) = if r.2.1 nm = 0 then 0 else e nm - e nm / r.2.1 nm * r.2.1 nm := rfl
            by_cases cz : r.2.1 nm = 0
            · first | refine bt cz ?_ | refine bf cz ?_ | refine nt cz ?_ | refine nf cz ?_
              rw [ej, if_pos cz] at i1
              exact c_byteM (hT1.fr f2) g2 hP2.1 i1
            · first | refine bt cz ?_ | refine bf cz ?_ | refine nt cz ?_ | refine nf cz ?_
              rw [ej, if_neg cz] at i1
              exact c_byteM (hT1.fr f2) g2 hP2.1 i1
        · first | refine bt c37 ?_ | refine bf c37 ?_ | refine nt c37 ?_ | refine nf c37 ?_
          rw [show opOf 4 (bT t n p) = 0 from (if_neg c42).trans ((if_neg c47).trans (if_neg c37)), if_pos rfl] at kk
          exact kk H fr.rf hP
theorem lp_numM {d n o : Nat} {t nm : Nat → Int32} : ∀ (m j p : Nat) (v : Int32) (H : pmT) {K : Int32 → pmT → Prop}, j + m = 4 → 0 < j → p ≤ n → MT t n nm H → MP p o H → (∀ H', fr JM H H' → MP (numL (bT t n) m p v).1 o H' → K (numL (bT t n) m p v).2 H') → pm_RW none (d + 1) M_Mo_one (pm_i K) 176 [(0, .ref 55), (3, .int v), (4, .int (nI j))] [] H
  | 0, j, p, v, H, K, hj, h0, hp, hT, hP, kk => by
    refine b_Mo_one_176 _ _ ?_
    first | refine bt (show (4 : Int32) ≤ nI j by rw [show j = 4 by omega]; decide) ?_ | refine bf (show (4 : Int32) ≤ nI j by rw [show j = 4 by omega]; decide) ?_ | refine nt (show (4 : Int32) ≤ nI j by rw [show j = 4 by omega]; decide) ?_ | refine nf (show (4 : Int32) ≤ nI j by rw [show j = 4 by omega]; decide) ?_
    first | refine bt (nI_ne0 h0 (by omega)) ?_ | refine bf (nI_ne0 h0 (by omega)) ?_ | refine nt (nI_ne0 h0 (by omega)) ?_ | refine nf (nI_ne0 h0 (by omega)) ?_
    exact kk H fr.rf hP
  | m + 1, j, p, v, H, K, hj, h0, hp, hT, hP, kk => by
    refine b_Mo_one_176 _ _ ?_
    first | refine bt (show ¬ (4 : Int32) ≤ nI j from fun z => by have := (nI_leI (a := 4) (b := j) (by decide) (by omega)).mp z; omega) ?_ | refine bf (show ¬ (4 : Int32) ≤ nI j from fun z => by have := (nI_leI (a := 4) (b := j) (by decide) (by omega)).mp z; omega) ?_ | refine nt (show ¬ (4 : Int32) ≤ nI j from fun z => by have := (nI_leI (a := 4) (b := j) (by decide) (by omega)).mp z; omega) ?_ | refine nf (show ¬ (4 : Int32) ≤ nI j from fun z => by have := (nI_leI (a := 4) (b := j) (by decide) (by omega)).mp z; omega) ?_
    unfold numL at kk
    refine c_byteM hT hp hP.1 ?_
    by_cases c1 : bT t n p < 48
    · first | refine bt c1 ?_ | refine bf c1 ?_ | refine nt c1 ?_ | refine nf c1 ?_
      first | refine bt (nI_ne0 h0 (by omega)) ?_ | refine bf (nI_ne0 h0 (by omega)) ?_ | refine nt (nI_ne0 h0 (by omega)) ?_ | refine nf (nI_ne0 h0 (by omega)) ?_
      rw [if_pos (Or.inl c1)] at kk
      exact kk H fr.rf hP
    · first | refine bt c1 ?_ | refine bf c1 ?_ | refine nt c1 ?_ | refine nf c1 ?_
      refine c_byteM hT hp hP.1 ?_
      by_cases c2 : 57 < bT t n p
      · first | refine bt c2 ?_ | refine bf c2 ?_ | refine nt c2 ?_ | refine nf c2 ?_
        first | refine bt (nI_ne0 h0 (by omega)) ?_ | refine bf (nI_ne0 h0 (by omega)) ?_ | refine nt (nI_ne0 h0 (by omega)) ?_ | refine nf (nI_ne0 h0 (by omega)) ?_
        rw [if_pos (Or.inr c2)] at kk
        exact kk H fr.rf hP
      · first | refine bt c2 ?_ | refine bf c2 ?_ | refine nt c2 ?_ | refine nf c2 ?_
        rw [if_neg (fun z => z.elim c1 c2)] at kk
        have hpn : p < n := Nat.lt_of_not_le (fun z => c1 (by rw [bT_out p z]; decide))
        refine c_byteM hT hp hP.1 ?_
        rw [hP.inc, show nI j + (1 : Int32) = nI (j + 1) from nI_1 j, Int32.mul_comm 10 v]
        obtain ⟨hP1, f1⟩ := hP.step (p + 1)
        exact lp_numM m (j + 1) (p + 1) _ _ (by omega) (by omega) hpn (hT.fr f1) hP1 (fun H' f h => kk H' (f1.tr f) h)
