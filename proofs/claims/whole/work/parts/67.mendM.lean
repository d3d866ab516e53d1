/-! values mended -/
theorem l_i {j : Nat} {c : Int32} (hj : j < 2 ^ 31) (h : (j : Int) ≤ c.toInt) : ¬ 0 < lg_cmp (nI j).toInt64 c.toInt64 := by
  rw [lgg, i2l_t, i2l_t, nI_toInt hj]
  omega
abbrev JBc : List Nat := [5505, 5506, 5700, 5800, 5900, 5600]
def Bec (dn p old v : Nat) (H H' : pmT) : Prop := fr JBc H H' ∧ H'.1 55 5 = nI (dn - shf dn + 1) ∧ H'.1 55 4 = nI (dn - shf dn + 1) ∧ (∀ j, j < dn - shf dn → H'.1 57 j = H.1 57 (j + shf dn) ∧ H'.1 58 j = H.1 58 (j + shf dn) ∧ H'.1 59 j = H.1 59 (j + shf dn)) ∧ (H'.1 57 (dn - shf dn) = nI p ∧ H'.1 58 (dn - shf dn) = nI old ∧ H'.1 59 (dn - shf dn) = nI v) ∧ ∀ k, H'.1 56 k = if k = p then nI v else H.1 56 k
theorem lp_bec {D p old v : Nat} {K : Int32 → pmT → Prop} {H0 : pmT} (h5 : H0.1 55 5 = nI 40) (hp : p < 41) (kk : ∀ H', Bec 40 p old v H0 H' → K (nI old) H') : ∀ (m i : Nat) (H : pmT), i + m = 40 → 1 ≤ i → fr [5700, 5800, 5900] H0 H → (∀ j, H.1 57 j = (if j + 1 < i then H0.1 57 (j + 1) else H0.1 57 j) ∧ H.1 58 j = (if j + 1 < i then H0.1 58 (j + 1) else H0.1 58 j) ∧ H.1 59 j = (if j + 1 < i then H0.1 59 (j + 1) else H0.1 59 j)) → pm_RW none D M_Mo_becomes (pm_i K) 26 [(0, .ref 55), (1, .int (nI p)), (2, .int (nI v)), (3, .int (nI old)), (4, .int (nI i))] [] H
  | 0, i, H, hi, h1, hf, hr => by
    refine b_Mo_becomes_26 _ _ _ _ ?_
    first | refine bt (nI_le (show 40 ≤ i by omega) (by omega)) ?_ | refine bf (nI_le (show 40 ≤ i by omega) (by omega)) ?_ | refine nt (nI_le (show 40 ≤ i by omega) (by omega)) ?_ | refine nf (nI_le (show 40 ≤ i by omega) (by omega)) ?_
    have e : H.1 55 5 = nI 40 := (hf.1 55 5 rfl).trans h5
    rw [e, i_s1 (t := 40) (by decide), show (40 - 1 : Nat) = 39 from rfl, nI_1 39, nIc (show 39 < 2 ^ 31 by decide), nIc (show p < 2 ^ 31 by omega)]
    refine ⟨vp_in_nI (by decide) (by decide), vp_in_nI hp (by decide), ?_⟩
    generalize hH1 : H = H1 at hf hr
    have f2 : fr JBc H1 (pm_up (pm_up (pm_up (pm_up (pm_up (pm_up (pm_up H1.1 55 5 (nI 39)) 57 39 (nI p)) 58 39 (nI old)) 59 39 (nI v)) 55 5 (nI (39 + 1))) 55 4 (nI (39 + 1))) 56 p (nI v), H1.2) := ((((((fr.rf.up (o := 55) rfl).up (o := 57) rfl).up (o := 58) rfl).up (o := 59) rfl).up (o := 55) rfl).up (o := 55) rfl).up (o := 56) rfl
    have x5 : (pm_up (pm_up (pm_up (pm_up (pm_up (pm_up (pm_up H1.1 55 5 (nI 39)) 57 39 (nI p)) 58 39 (nI old)) 59 39 (nI v)) 55 5 (nI (39 + 1))) 55 4 (nI (39 + 1))) 56 p (nI v)) 55 5 = nI (39 + 1) := by rw [pm_up_ne _ _ _ (by decide), pm_up_self, pk_un (by decide), pm_up_self, pk_us]
    have x4 : (pm_up (pm_up (pm_up (pm_up (pm_up (pm_up (pm_up H1.1 55 5 (nI 39)) 57 39 (nI p)) 58 39 (nI old)) 59 39 (nI v)) 55 5 (nI (39 + 1))) 55 4 (nI (39 + 1))) 56 p (nI v)) 55 4 = nI (39 + 1) := by rw [pm_up_ne _ _ _ (by decide), pm_up_self, pk_us]
    have x57 : (pm_up (pm_up (pm_up (pm_up (pm_up (pm_up (pm_up H1.1 55 5 (nI 39)) 57 39 (nI p)) 58 39 (nI old)) 59 39 (nI v)) 55 5 (nI (39 + 1))) 55 4 (nI (39 + 1))) 56 p (nI v)) 57 = upd (H1.1 57) 39 (nI p) := by rw [pm_up_ne _ _ _ (by decide), pm_up_ne _ _ _ (by decide), pm_up_ne _ _ _ (by decide), pm_up_ne _ _ _ (by decide), pm_up_ne _ _ _ (by decide), pm_up_self, pm_up_ne _ _ _ (by decide)]
    have x58 : (pm_up (pm_up (pm_up (pm_up (pm_up (pm_up (pm_up H1.1 55 5 (nI 39)) 57 39 (nI p)) 58 39 (nI old)) 59 39 (nI v)) 55 5 (nI (39 + 1))) 55 4 (nI (39 + 1))) 56 p (nI v)) 58 = upd (H1.1 58) 39 (nI old) := by rw [pm_up_ne _ _ _ (by decide), pm_up_ne _ _ _ (by decide), pm_up_ne _ _ _ (by decide), pm_up_ne _ _ _ (by decide), pm_up_self, pm_up_ne _ _ _ (by decide), pm_up_ne _ _ _ (by decide)]
    have x59 : (pm_up (pm_up (pm_up (pm_up (pm_up (pm_up (pm_up H1.1 55 5 (nI 39)) 57 39 (nI p)) 58 39 (nI old)) 59 39 (nI v)) 55 5 (nI (39 + 1))) 55 4 (nI (39 + 1))) 56 p (nI v)) 59 = upd (H1.1 59) 39 (nI v) := by rw [pm_up_ne _ _ _ (by decide), pm_up_ne _ _ _ (by decide), pm_up_ne _ _ _ (by decide), pm_up_self, pm_up_ne _ _ _ (by decide), pm_up_ne _ _ _ (by decide), pm_up_ne _ _ _ (by decide)]
    have x56 : (pm_up (pm_up (pm_up (pm_up (pm_up (pm_up (pm_up H1.1 55 5 (nI 39)) 57 39 (nI p)) 58 39 (nI old)) 59 39 (nI v)) 55 5 (nI (39 + 1))) 55 4 (nI (39 + 1))) 56 p (nI v)) 56 = upd (H1.1 56) p (nI v) := by rw [pm_up_self, pm_up_ne _ _ _ (by decide), pm_up_ne _ _ _ (by decide), pm_up_ne _ _ _ (by decide), pm_up_ne _ _ _ (by decide), pm_up_ne _ _ _ (by decide), pm_up_ne _ _ _ (by decide)]
    generalize pm_up (pm_up (pm_up (pm_up (pm_up (pm_up (pm_up H1.1 55 5 (nI 39)) 57 39 (nI p)) 58 39 (nI old)) 59 39 (nI v)) 55 5 (nI (39 + 1))) 55 4 (nI (39 + 1))) 56 p (nI v) = X at f2 x5 x4 x57 x58 x59 x56 ⊢
    have e40 : i = 40 := by omega
    subst e40
    refine kk (X, H1.2) ⟨(hf.mono rfl).tr f2, x5, x4, fun j hj => ?_, ?_, fun k => ?_⟩
    · obtain ⟨r1, r2, r3⟩ := hr j
      have hj' : j < 39 := hj
      rw [if_pos (by omega)] at r1 r2 r3
      refine ⟨?_, ?_, ?_⟩
      · show X 57 j = _
        rw [x57, pk_un (by omega)]; exact r1
      · show X 58 j = _
        rw [x58, pk_un (by omega)]; exact r2
      · show X 59 j = _
        rw [x59, pk_un (by omega)]; exact r3
    · refine ⟨?_, ?_, ?_⟩
      · show X 57 39 = _
        rw [x57, pk_us]
      · show X 58 39 = _
        rw [x58, pk_us]
      · show X 59 39 = _
        rw [x59, pk_us]
    · show X 56 k = _
      rw [x56]
      by_cases z : k = p
      · rw [if_pos z, z, pk_us]
      · rw [if_neg z, pk_un z]; exact hf.1 56 k rfl
  | m + 1, i, H, hi, h1, hf, hr => by
    refine b_Mo_becomes_26 _ _ _ _ ?_
    first | refine bt (nI_ge (show i < 40 by omega) (by decide)) ?_ | refine bf (nI_ge (show i < 40 by omega) (by decide)) ?_ | refine nt (nI_ge (show i < 40 by omega) (by decide)) ?_ | refine nf (nI_ge (show i < 40 by omega) (by decide)) ?_
    rw [i_s1 (t := i) h1, nIc (show i < 2 ^ 31 by omega), nIc (show i - 1 < 2 ^ 31 by omega), nI_1 i]
    refine ⟨vp_in_nI (by omega) (by decide), vp_in_nI (by omega) (by decide), ?_⟩
    have f2 : fr [5700, 5800, 5900] H (pm_up (pm_up (pm_up H.1 57 (i - 1) (H.1 57 i)) 58 (i - 1) (H.1 58 i)) 59 (i - 1) (H.1 59 i), H.2) := ((fr.rf.up (o := 57) rfl).up (o := 58) rfl).up (o := 59) rfl
    refine lp_bec h5 hp kk m (i + 1) _ (by omega) (by omega) (hf.tr f2) (fun j => ?_)
    obtain ⟨r1, r2, r3⟩ := hr j
    obtain ⟨s1, s2, s3⟩ := hr i
    rw [if_neg (by omega)] at s1 s2 s3
    have y57 : (pm_up (pm_up (pm_up H.1 57 (i - 1) (H.1 57 i)) 58 (i - 1) (H.1 58 i)) 59 (i - 1) (H.1 59 i)) 57 = upd (H.1 57) (i - 1) (H.1 57 i) := by rw [pm_up_ne _ _ _ (by decide), pm_up_ne _ _ _ (by decide), pm_up_self]
    have y58 : (pm_up (pm_up (pm_up H.1 57 (i - 1) (H.1 57 i)) 58 (i - 1) (H.1 58 i)) 59 (i - 1) (H.1 59 i)) 58 = upd (H.1 58) (i - 1) (H.1 58 i) := by rw [pm_up_ne _ _ _ (by decide), pm_up_self, pm_up_ne _ _ _ (by decide)]
    have y59 : (pm_up (pm_up (pm_up H.1 57 (i - 1) (H.1 57 i)) 58 (i - 1) (H.1 58 i)) 59 (i - 1) (H.1 59 i)) 59 = upd (H.1 59) (i - 1) (H.1 59 i) := by rw [pm_up_self, pm_up_ne _ _ _ (by decide), pm_up_ne _ _ _ (by decide)]
    refine ⟨?_, ?_, ?_⟩
    · refine (congrFun y57 j).trans ?_
      by_cases z : j = i - 1
      · rw [z, pk_us, s1, if_pos (by omega), show i - 1 + 1 = i by omega]
      · rw [pk_un z, r1]
        by_cases y : j + 1 < i
        · rw [if_pos y, if_pos (by omega)]
        · rw [if_neg y, if_neg (by omega)]
    · refine (congrFun y58 j).trans ?_
      by_cases z : j = i - 1
      · rw [z, pk_us, s2, if_pos (by omega), show i - 1 + 1 = i by omega]
      · rw [pk_un z, r2]
        by_cases y : j + 1 < i
        · rw [if_pos y, if_pos (by omega)]
        · rw [if_neg y, if_neg (by omega)]
    · refine (congrFun y59 j).trans ?_
      by_cases z : j = i - 1
      · rw [z, pk_us, s3, if_pos (by omega), show i - 1 + 1 = i by omega]
      · rw [pk_un z, r3]
        by_cases y : j + 1 < i
        · rw [if_pos y, if_pos (by omega)]
        · rw [if_neg y, if_neg (by omega)]
theorem c_becomes {d dn p old v : Nat} {H : pmT} {K : Int32 → pmT → Prop} (h5 : H.1 55 5 = nI dn) (hdn : dn ≤ 40) (hp : p < 41) (ho : H.1 56 p = nI old) (k0 : nI old = nI v → K (nI old) H) (kk : ¬ nI old = nI v → ∀ H', Bec dn p old v H H' → K (nI old) H') : pm_R d M_Mo_becomes [.ref 55, .int (nI p), .int (nI v)] H (pm_i K) := by
  refine m_Mo_becomes _ _ ?_
  rw [nIc (show p < 2 ^ 31 by omega), ho]
  refine ⟨vp_in_nI hp (by decide), ?_⟩
  by_cases c : nI old = nI v
  · first | refine bt c ?_ | refine bf c ?_ | refine nt c ?_ | refine nf c ?_
    exact k0 c
  · first | refine bt c ?_ | refine bf c ?_ | refine nt c ?_ | refine nf c ?_
    replace kk := kk c
    by_cases c40 : dn = 40
    · subst c40
      first | refine bt (show H.1 55 5 = (40 : Int32) from h5) ?_ | refine bf (show H.1 55 5 = (40 : Int32) from h5) ?_ | refine nt (show H.1 55 5 = (40 : Int32) from h5) ?_ | refine nf (show H.1 55 5 = (40 : Int32) from h5) ?_
      exact lp_bec h5 hp kk 39 1 H rfl (Nat.le_refl _) fr.rf (fun j => by rw [if_neg (by omega), if_neg (by omega), if_neg (by omega)]; exact ⟨rfl, rfl, rfl⟩)
    · have z : ¬ H.1 55 5 = (40 : Int32) := by
        rw [h5]
        intro z
        have := (nI_eq (a := dn) (b := 40) (by omega) (by decide)).mp z
        omega
      first | refine bt z ?_ | refine bf z ?_ | refine nt z ?_ | refine nf z ?_
      rw [h5, nIc (show dn < 2 ^ 31 by omega), nI_1 dn]
      refine ⟨vp_in_nI (show dn < 40 by omega) (by decide), ?_⟩
      have es : shf dn = 0 := if_neg c40
      have f2 : fr JBc H (pm_up (pm_up (pm_up (pm_up (pm_up (pm_up H.1 57 dn (nI p)) 58 dn (nI old)) 59 dn (nI v)) 55 5 (nI (dn + 1))) 55 4 (nI (dn + 1))) 56 p (nI v), H.2) := (((((fr.rf.up (o := 57) rfl).up (o := 58) rfl).up (o := 59) rfl).up (o := 55) rfl).up (o := 55) rfl).up (o := 56) rfl
      have x5 : (pm_up (pm_up (pm_up (pm_up (pm_up (pm_up H.1 57 dn (nI p)) 58 dn (nI old)) 59 dn (nI v)) 55 5 (nI (dn + 1))) 55 4 (nI (dn + 1))) 56 p (nI v)) 55 5 = nI (dn + 1) := by rw [pm_up_ne _ _ _ (by decide), pm_up_self, pk_un (by decide), pm_up_self, pk_us]
      have x4 : (pm_up (pm_up (pm_up (pm_up (pm_up (pm_up H.1 57 dn (nI p)) 58 dn (nI old)) 59 dn (nI v)) 55 5 (nI (dn + 1))) 55 4 (nI (dn + 1))) 56 p (nI v)) 55 4 = nI (dn + 1) := by rw [pm_up_ne _ _ _ (by decide), pm_up_self, pk_us]
      have x57 : (pm_up (pm_up (pm_up (pm_up (pm_up (pm_up H.1 57 dn (nI p)) 58 dn (nI old)) 59 dn (nI v)) 55 5 (nI (dn + 1))) 55 4 (nI (dn + 1))) 56 p (nI v)) 57 = upd (H.1 57) dn (nI p) := by rw [pm_up_ne _ _ _ (by decide), pm_up_ne _ _ _ (by decide), pm_up_ne _ _ _ (by decide), pm_up_ne _ _ _ (by decide), pm_up_ne _ _ _ (by decide), pm_up_self]
      have x58 : (pm_up (pm_up (pm_up (pm_up (pm_up (pm_up H.1 57 dn (nI p)) 58 dn (nI old)) 59 dn (nI v)) 55 5 (nI (dn + 1))) 55 4 (nI (dn + 1))) 56 p (nI v)) 58 = upd (H.1 58) dn (nI old) := by rw [pm_up_ne _ _ _ (by decide), pm_up_ne _ _ _ (by decide), pm_up_ne _ _ _ (by decide), pm_up_ne _ _ _ (by decide), pm_up_self, pm_up_ne _ _ _ (by decide)]
      have x59 : (pm_up (pm_up (pm_up (pm_up (pm_up (pm_up H.1 57 dn (nI p)) 58 dn (nI old)) 59 dn (nI v)) 55 5 (nI (dn + 1))) 55 4 (nI (dn + 1))) 56 p (nI v)) 59 = upd (H.1 59) dn (nI v) := by rw [pm_up_ne _ _ _ (by decide), pm_up_ne _ _ _ (by decide), pm_up_ne _ _ _ (by decide), pm_up_self, pm_up_ne _ _ _ (by decide), pm_up_ne _ _ _ (by decide)]
      have x56 : (pm_up (pm_up (pm_up (pm_up (pm_up (pm_up H.1 57 dn (nI p)) 58 dn (nI old)) 59 dn (nI v)) 55 5 (nI (dn + 1))) 55 4 (nI (dn + 1))) 56 p (nI v)) 56 = upd (H.1 56) p (nI v) := by rw [pm_up_self, pm_up_ne _ _ _ (by decide), pm_up_ne _ _ _ (by decide), pm_up_ne _ _ _ (by decide), pm_up_ne _ _ _ (by decide), pm_up_ne _ _ _ (by decide)]
      generalize pm_up (pm_up (pm_up (pm_up (pm_up (pm_up H.1 57 dn (nI p)) 58 dn (nI old)) 59 dn (nI v)) 55 5 (nI (dn + 1))) 55 4 (nI (dn + 1))) 56 p (nI v) = X at f2 x5 x4 x57 x58 x59 x56 ⊢
      refine kk (X, H.2) ?_
      unfold Bec
      rw [es]
      refine ⟨f2, x5, x4, fun j hj => ?_, ?_, fun k => ?_⟩
      · refine ⟨?_, ?_, ?_⟩
        · show X 57 j = _
          rw [x57, pk_un (by omega)]; rfl
        · show X 58 j = _
          rw [x58, pk_un (by omega)]; rfl
        · show X 59 j = _
          rw [x59, pk_un (by omega)]; rfl
      · refine ⟨?_, ?_, ?_⟩
        · show X 57 dn = _
          rw [x57, pk_us]
        · show X 58 dn = _
          rw [x58, pk_us]
        · show X 59 dn = _
          rw [x59, pk_us]
      · show X 56 k = _
        rw [x56]
        by_cases z : k = p
        · rw [if_pos z, z, pk_us]
        · rw [if_neg z, pk_un z]
/-- which value may stand where -/
theorem c_mendM {d n nb w : Nat} {H : pmT} {K : Int32 → pmT → Prop} (a3 : Int32) (hn : H.1 55 6 = nI n) (hn12 : n ≤ 12) (hw : w ≤ 7) (h1 : w ≤ 2 → nb < n) (h2 : ¬ w ≤ 2 → nb = 0) (bad : ¬ (0 ≤ a3.toInt ∧ a3.toInt ≤ W_grt w) → K (-1) H) (ok : ∀ v, a3 = nI v → v ≤ W_grt w → pm_R (d + 2) M_Mo_becomes [.ref 55, .int (nI (W_at nb w)), .int (nI v)] H (pm_i K)) : pm_R (d + 3) M_Mo_mend [.ref 55, .int (nI nb), .int (nI w), .int a3] H (pm_i K) := by
  refine m_Mo_mend _ _ _ ?_
  have hnb : nb < 2 ^ 20 := by
    by_cases z : w ≤ 2
    · have := h1 z; omega
    · have := h2 z; omega
  have hp : W_at nb w < 2 ^ 31 := by unfold W_at; split <;> omega
  suffices hg : ∀ q, q = W_at nb w → (nI q < 0 → K (-1) H) ∧ (¬ nI q < 0 → ((nI w) = (0 : Int32) → ((lg_cmp a3.toInt64 (0 : Int64)) < 0 → K (-1) H) ∧ (¬ (lg_cmp a3.toInt64 (0 : Int64)) < 0 → (0 < (lg_cmp a3.toInt64 ((999 : Int32).toInt64)) → K (-1) H) ∧ (¬ 0 < (lg_cmp a3.toInt64 ((999 : Int32).toInt64)) → pm_R (d + 2) M_Mo_becomes [.ref 55, .int (nI q), .int a3] H (pm_i (fun x50 H49 => K x50 H49))))) ∧ (¬ (nI w) = (0 : Int32) → ((nI w) = (1 : Int32) → ((lg_cmp a3.toInt64 (0 : Int64)) < 0 → K (-1) H) ∧ (¬ (lg_cmp a3.toInt64 (0 : Int64)) < 0 → (0 < (lg_cmp a3.toInt64 ((999 : Int32).toInt64)) → K (-1) H) ∧ (¬ 0 < (lg_cmp a3.toInt64 ((999 : Int32).toInt64)) → pm_R (d + 2) M_Mo_becomes [.ref 55, .int (nI q), .int a3] H (pm_i (fun x44 H43 => K x44 H43))))) ∧ (¬ (nI w) = (1 : Int32) → ((nI w) = (2 : Int32) → ((lg_cmp a3.toInt64 (0 : Int64)) < 0 → K (-1) H) ∧ (¬ (lg_cmp a3.toInt64 (0 : Int64)) < 0 → (0 < (lg_cmp a3.toInt64 ((1 : Int32).toInt64)) → K (-1) H) ∧ (¬ 0 < (lg_cmp a3.toInt64 ((1 : Int32).toInt64)) → pm_R (d + 2) M_Mo_becomes [.ref 55, .int (nI q), .int a3] H (pm_i (fun x38 H37 => K x38 H37))))) ∧ (¬ (nI w) = (2 : Int32) → ((nI w) = (3 : Int32) → ((lg_cmp a3.toInt64 (0 : Int64)) < 0 → K (-1) H) ∧ (¬ (lg_cmp a3.toInt64 (0 : Int64)) < 0 → (0 < (lg_cmp a3.toInt64 ((99 : Int32).toInt64)) → K (-1) H) ∧ (¬ 0 < (lg_cmp a3.toInt64 ((99 : Int32).toInt64)) → pm_R (d + 2) M_Mo_becomes [.ref 55, .int (nI q), .int a3] H (pm_i (fun x32 H31 => K x32 H31))))) ∧ (¬ (nI w) = (3 : Int32) → ((nI w) = (4 : Int32) → ((lg_cmp a3.toInt64 (0 : Int64)) < 0 → K (-1) H) ∧ (¬ (lg_cmp a3.toInt64 (0 : Int64)) < 0 → (0 < (lg_cmp a3.toInt64 ((99 : Int32).toInt64)) → K (-1) H) ∧ (¬ 0 < (lg_cmp a3.toInt64 ((99 : Int32).toInt64)) → pm_R (d + 2) M_Mo_becomes [.ref 55, .int (nI q), .int a3] H (pm_i (fun x26 H25 => K x26 H25))))) ∧ (¬ (nI w) = (4 : Int32) → ((nI w) = (5 : Int32) → ((lg_cmp a3.toInt64 (0 : Int64)) < 0 → K (-1) H) ∧ (¬ (lg_cmp a3.toInt64 (0 : Int64)) < 0 → (0 < (lg_cmp a3.toInt64 ((12 : Int32).toInt64)) → K (-1) H) ∧ (¬ 0 < (lg_cmp a3.toInt64 ((12 : Int32).toInt64)) → pm_R (d + 2) M_Mo_becomes [.ref 55, .int (nI q), .int a3] H (pm_i (fun x20 H19 => K x20 H19))))) ∧ (¬ (nI w) = (5 : Int32) → ((nI w) = (6 : Int32) → ((lg_cmp a3.toInt64 (0 : Int64)) < 0 → K (-1) H) ∧ (¬ (lg_cmp a3.toInt64 (0 : Int64)) < 0 → (0 < (lg_cmp a3.toInt64 ((9 : Int32).toInt64)) → K (-1) H) ∧ (¬ 0 < (lg_cmp a3.toInt64 ((9 : Int32).toInt64)) → pm_R (d + 2) M_Mo_becomes [.ref 55, .int (nI q), .int a3] H (pm_i (fun x14 H13 => K x14 H13))))) ∧ (¬ (nI w) = (6 : Int32) → ((lg_cmp a3.toInt64 (0 : Int64)) < 0 → K (-1) H) ∧ (¬ (lg_cmp a3.toInt64 (0 : Int64)) < 0 → (0 < (lg_cmp a3.toInt64 ((99 : Int32).toInt64)) → K (-1) H) ∧ (¬ 0 < (lg_cmp a3.toInt64 ((99 : Int32).toInt64)) → pm_R (d + 2) M_Mo_becomes [.ref 55, .int (nI q), .int a3] H (pm_i (fun x8 H7 => K x8 H7)))))))))))) by
    refine c_place hn hn12 _ _ (fun nb' w' e1 e2 g1 g2 => ?_) (fun w' e1 e2 g1 g2 => ?_) (fun hbad => ?_)
    · have f1 := (nI_eq (a := w) (b := w') (by omega) (by omega)).mp e2
      have f2 := (nI_eq (a := nb) (b := nb') (by omega) (by omega)).mp e1
      subst f1; subst f2
      exact hg _ rfl
    · have f1 := (nI_eq (a := w) (b := w') (by omega) (by omega)).mp e2
      subst f1
      have f2 : nb = 0 := h2 (by omega)
      subst f2
      exact hg _ rfl
    · exfalso
      apply hbad
      have i1 := nI_toInt (n := w) (by omega)
      have i2 := nI_toInt (n := nb) (by omega)
      by_cases z : w ≤ 2
      · have := h1 z
        left; omega
      · have := h2 z
        right; omega
  intro q hq
  subst hq
  first | refine bt (nI_pos hp) ?_ | refine bf (nI_pos hp) ?_ | refine nt (nI_pos hp) ?_ | refine nf (nI_pos hp) ?_
  rcases (show w = 0 ∨ w = 1 ∨ w = 2 ∨ w = 3 ∨ w = 4 ∨ w = 5 ∨ w = 6 ∨ w = 7 by omega) with y | y | y | y | y | y | y | y <;> subst y
  · first | refine bt (show nI 0 = (0 : Int32) from rfl) ?_ | refine bf (show nI 0 = (0 : Int32) from rfl) ?_ | refine nt (show nI 0 = (0 : Int32) from rfl) ?_ | refine nf (show nI 0 = (0 : Int32) from rfl) ?_
    by_cases hv : 0 ≤ a3.toInt ∧ a3.toInt ≤ 999
    · obtain ⟨v, _, rfl, ev⟩ := nI_tI a3 hv.1
      first | refine bt (l_0 (j := v) (by omega)) ?_ | refine bf (l_0 (j := v) (by omega)) ?_ | refine nt (l_0 (j := v) (by omega)) ?_ | refine nf (l_0 (j := v) (by omega)) ?_
      first | refine bt (l_i (j := v) (c := (999 : Int32)) (by omega) (by show (v : Int) ≤ 999; omega)) ?_ | refine bf (l_i (j := v) (c := (999 : Int32)) (by omega) (by show (v : Int) ≤ 999; omega)) ?_ | refine nt (l_i (j := v) (c := (999 : Int32)) (by omega) (by show (v : Int) ≤ 999; omega)) ?_ | refine nf (l_i (j := v) (c := (999 : Int32)) (by omega) (by show (v : Int) ≤ 999; omega)) ?_
      exact ok v rfl (by show v ≤ 999; omega)
    · have b : K (-1) H := bad (fun z => hv ⟨z.1, by have : ((W_grt 0 : Nat) : Int) = 999 := rfl; omega⟩)
      have z0 : (999 : Int32).toInt = 999 := rfl
      ((try (simp only [lgl, lgg, i2l_t, u32_0, u64_0, u32_1, u64_1, u32_2, u64_2, u32_3, u64_3, u32_4, u64_4, u32_5, u64_5, u32_7, u64_7, u32_12, u64_12, u32_24, u64_24, u32_30, u64_30, u32_49, u64_49, u32_60, u64_60, u32_99, u64_99, u32_255, u64_255, u32_999, u64_999, z0])); (try (simp only [t_lt, t_le, u32_0, u64_0, u32_1, u64_1, u32_2, u64_2, u32_3, u64_3, u32_4, u64_4, u32_5, u64_5, u32_7, u64_7, u32_12, u64_12, u32_24, u64_24, u32_30, u64_30, u32_49, u64_49, u32_60, u64_60, u32_99, u64_99, u32_255, u64_255, u32_999, u64_999, z0])); repeat' (first | with_reducible intro hh | with_reducible apply And.intro | exact vp_in_iff.mpr (by omega) | (exfalso; omega) | exact b))
  · first | refine bt (show ¬ nI 1 = (0 : Int32) by decide) ?_ | refine bf (show ¬ nI 1 = (0 : Int32) by decide) ?_ | refine nt (show ¬ nI 1 = (0 : Int32) by decide) ?_ | refine nf (show ¬ nI 1 = (0 : Int32) by decide) ?_
    first | refine bt (show nI 1 = (1 : Int32) from rfl) ?_ | refine bf (show nI 1 = (1 : Int32) from rfl) ?_ | refine nt (show nI 1 = (1 : Int32) from rfl) ?_ | refine nf (show nI 1 = (1 : Int32) from rfl) ?_
    by_cases hv : 0 ≤ a3.toInt ∧ a3.toInt ≤ 999
    · obtain ⟨v, _, rfl, ev⟩ := nI_tI a3 hv.1
      first | refine bt (l_0 (j := v) (by omega)) ?_ | refine bf (l_0 (j := v) (by omega)) ?_ | refine nt (l_0 (j := v) (by omega)) ?_ | refine nf (l_0 (j := v) (by omega)) ?_
      first | refine bt (l_i (j := v) (c := (999 : Int32)) (by omega) (by show (v : Int) ≤ 999; omega)) ?_ | refine bf (l_i (j := v) (c := (999 : Int32)) (by omega) (by show (v : Int) ≤ 999; omega)) ?_ | refine nt (l_i (j := v) (c := (999 : Int32)) (by omega) (by show (v : Int) ≤ 999; omega)) ?_ | refine nf (l_i (j := v) (c := (999 : Int32)) (by omega) (by show (v : Int) ≤ 999; omega)) ?_
      exact ok v rfl (by show v ≤ 999; omega)
    · have b : K (-1) H := bad (fun z => hv ⟨z.1, by have : ((W_grt 1 : Nat) : Int) = 999 := rfl; omega⟩)
      have z0 : (999 : Int32).toInt = 999 := rfl
      ((try (simp only [lgl, lgg, i2l_t, u32_0, u64_0, u32_1, u64_1, u32_2, u64_2, u32_3, u64_3, u32_4, u64_4, u32_5, u64_5, u32_7, u64_7, u32_12, u64_12, u32_24, u64_24, u32_30, u64_30, u32_49, u64_49, u32_60, u64_60, u32_99, u64_99, u32_255, u64_255, u32_999, u64_999, z0])); (try (simp only [t_lt, t_le, u32_0, u64_0, u32_1, u64_1, u32_2, u64_2, u32_3, u64_3, u32_4, u64_4, u32_5, u64_5, u32_7, u64_7, u32_12, u64_12, u32_24, u64_24, u32_30, u64_30, u32_49, u64_49, u32_60, u64_60, u32_99, u64_99, u32_255, u64_255, u32_999, u64_999, z0])); repeat' (first | with_reducible intro hh | with_reducible apply And.intro | exact vp_in_iff.mpr (by omega) | (exfalso; omega) | exact b))
  · first | refine bt (show ¬ nI 2 = (0 : Int32) by decide) ?_ | refine bf (show ¬ nI 2 = (0 : Int32) by decide) ?_ | refine nt (show ¬ nI 2 = (0 : Int32) by decide) ?_ | refine nf (show ¬ nI 2 = (0 : Int32) by decide) ?_
    first | refine bt (show ¬ nI 2 = (1 : Int32) by decide) ?_ | refine bf (show ¬ nI 2 = (1 : Int32) by decide) ?_ | refine nt (show ¬ nI 2 = (1 : Int32) by decide) ?_ | refine nf (show ¬ nI 2 = (1 : Int32) by decide) ?_
    first | refine bt (show nI 2 = (2 : Int32) from rfl) ?_ | refine bf (show nI 2 = (2 : Int32) from rfl) ?_ | refine nt (show nI 2 = (2 : Int32) from rfl) ?_ | refine nf (show nI 2 = (2 : Int32) from rfl) ?_
    by_cases hv : 0 ≤ a3.toInt ∧ a3.toInt ≤ 1
    · obtain ⟨v, _, rfl, ev⟩ := nI_tI a3 hv.1
      first | refine bt (l_0 (j := v) (by omega)) ?_ | refine bf (l_0 (j := v) (by omega)) ?_ | refine nt (l_0 (j := v) (by omega)) ?_ | refine nf (l_0 (j := v) (by omega)) ?_
      first | refine bt (l_i (j := v) (c := (1 : Int32)) (by omega) (by show (v : Int) ≤ 1; omega)) ?_ | refine bf (l_i (j := v) (c := (1 : Int32)) (by omega) (by show (v : Int) ≤ 1; omega)) ?_ | refine nt (l_i (j := v) (c := (1 : Int32)) (by omega) (by show (v : Int) ≤ 1; omega)) ?_ | refine nf (l_i (j := v) (c := (1 : Int32)) (by omega) (by show (v : Int) ≤ 1; omega)) ?_
      exact ok v rfl (by show v ≤ 1; omega)
    · have b : K (-1) H := bad (fun z => hv ⟨z.1, by have : ((W_grt 2 : Nat) : Int) = 1 := rfl; omega⟩)
      have z0 : (1 : Int32).toInt = 1 := rfl
      ((try (simp only [lgl, lgg, i2l_t, u32_0, u64_0, u32_1, u64_1, u32_2, u64_2, u32_3, u64_3, u32_4, u64_4, u32_5, u64_5, u32_7, u64_7, u32_12, u64_12, u32_24, u64_24, u32_30, u64_30, u32_49, u64_49, u32_60, u64_60, u32_99, u64_99, u32_255, u64_255, u32_999, u64_999, z0])); (try (simp only [t_lt, t_le, u32_0, u64_0, u32_1, u64_1, u32_2, u64_2, u32_3, u64_3, u32_4, u64_4, u32_5, u64_5, u32_7, u64_7, u32_12, u64_12, u32_24, u64_24, u32_30, u64_30, u32_49, u64_49, u32_60, u64_60, u32_99, u64_99, u32_255, u64_255, u32_999, u64_999, z0])); repeat' (first | with_reducible intro hh | with_reducible apply And.intro | exact vp_in_iff.mpr (by omega) | (exfalso; omega) | exact b))
  · first | refine bt (show ¬ nI 3 = (0 : Int32) by decide) ?_ | refine bf (show ¬ nI 3 = (0 : Int32) by decide) ?_ | refine nt (show ¬ nI 3 = (0 : Int32) by decide) ?_ | refine nf (show ¬ nI 3 = (0 : Int32) by decide) ?_
    first | refine bt (show ¬ nI 3 = (1 : Int32) by decide) ?_ | refine bf (show ¬ nI 3 = (1 : Int32) by decide) ?_ | refine nt (show ¬ nI 3 = (1 : Int32) by decide) ?_ | refine nf (show ¬ nI 3 = (1 : Int32) by decide) ?_
    first | refine bt (show ¬ nI 3 = (2 : Int32) by decide) ?_ | refine bf (show ¬ nI 3 = (2 : Int32) by decide) ?_ | refine nt (show ¬ nI 3 = (2 : Int32) by decide) ?_ | refine nf (show ¬ nI 3 = (2 : Int32) by decide) ?_
    first | refine bt (show nI 3 = (3 : Int32) from rfl) ?_ | refine bf (show nI 3 = (3 : Int32) from rfl) ?_ | refine nt (show nI 3 = (3 : Int32) from rfl) ?_ | refine nf (show nI 3 = (3 : Int32) from rfl) ?_
    by_cases hv : 0 ≤ a3.toInt ∧ a3.toInt ≤ 99
    · obtain ⟨v, _, rfl, ev⟩ := nI_tI a3 hv.1
      first | refine bt (l_0 (j := v) (by omega)) ?_ | refine bf (l_0 (j := v) (by omega)) ?_ | refine nt (l_0 (j := v) (by omega)) ?_ | refine nf (l_0 (j := v) (by omega)) ?_
      first | refine bt (l_i (j := v) (c := (99 : Int32)) (by omega) (by show (v : Int) ≤ 99; omega)) ?_ | refine bf (l_i (j := v) (c := (99 : Int32)) (by omega) (by show (v : Int) ≤ 99; omega)) ?_ | refine nt (l_i (j := v) (c := (99 : Int32)) (by omega) (by show (v : Int) ≤ 99; omega)) ?_ | refine nf (l_i (j := v) (c := (99 : Int32)) (by omega) (by show (v : Int) ≤ 99; omega)) ?_
      exact ok v rfl (by show v ≤ 99; omega)
    · have b : K (-1) H := bad (fun z => hv ⟨z.1, by have : ((W_grt 3 : Nat) : Int) = 99 := rfl; omega⟩)
      have z0 : (99 : Int32).toInt = 99 := rfl
      ((try (simp only [lgl, lgg, i2l_t, u32_0, u64_0, u32_1, u64_1, u32_2, u64_2, u32_3, u64_3, u32_4, u64_4, u32_5, u64_5, u32_7, u64_7, u32_12, u64_12, u32_24, u64_24, u32_30, u64_30, u32_49, u64_49, u32_60, u64_60, u32_99, u64_99, u32_255, u64_255, u32_999, u64_999, z0])); (try (simp only [t_lt, t_le, u32_0, u64_0, u32_1, u64_1, u32_2, u64_2, u32_3, u64_3, u32_4, u64_4, u32_5, u64_5, u32_7, u64_7, u32_12, u64_12, u32_24, u64_24, u32_30, u64_30, u32_49, u64_49, u32_60, u64_60, u32_99, u64_99, u32_255, u64_255, u32_999, u64_999, z0])); repeat' (first | with_reducible intro hh | with_reducible apply And.intro | exact vp_in_iff.mpr (by omega) | (exfalso; omega) | exact b))
  · first | refine bt (show ¬ nI 4 = (0 : Int32) by decide) ?_ | refine bf (show ¬ nI 4 = (0 : Int32) by decide) ?_ | refine nt (show ¬ nI 4 = (0 : Int32) by decide) ?_ | refine nf (show ¬ nI 4 = (0 : Int32) by decide) ?_
    first | refine bt (show ¬ nI 4 = (1 : Int32) by decide) ?_ | refine bf (show ¬ nI 4 = (1 : Int32) by decide) ?_ | refine nt (show ¬ nI 4 = (1 : Int32) by decide) ?_ | refine nf (show ¬ nI 4 = (1 : Int32) by decide) ?_
    first | refine bt (show ¬ nI 4 = (2 : Int32) by decide) ?_ | refine bf (show ¬ nI 4 = (2 : Int32) by decide) ?_ | refine nt (show ¬ nI 4 = (2 : Int32) by decide) ?_ | refine nf (show ¬ nI 4 = (2 : Int32) by decide) ?_
    first | refine bt (show ¬ nI 4 = (3 : Int32) by decide) ?_ | refine bf (show ¬ nI 4 = (3 : Int32) by decide) ?_ | refine nt (show ¬ nI 4 = (3 : Int32) by decide) ?_ | refine nf (show ¬ nI 4 = (3 : Int32) by decide) ?_
    first | refine bt (show nI 4 = (4 : Int32) from rfl) ?_ | refine bf (show nI 4 = (4 : Int32) from rfl) ?_ | refine nt (show nI 4 = (4 : Int32) from rfl) ?_ | refine nf (show nI 4 = (4 : Int32) from rfl) ?_
    by_cases hv : 0 ≤ a3.toInt ∧ a3.toInt ≤ 99
    · obtain ⟨v, _, rfl, ev⟩ := nI_tI a3 hv.1
      first | refine bt (l_0 (j := v) (by omega)) ?_ | refine bf (l_0 (j := v) (by omega)) ?_ | refine nt (l_0 (j := v) (by omega)) ?_ | refine nf (l_0 (j := v) (by omega)) ?_
      first | refine bt (l_i (j := v) (c := (99 : Int32)) (by omega) (by show (v : Int) ≤ 99; omega)) ?_ | refine bf (l_i (j := v) (c := (99 : Int32)) (by omega) (by show (v : Int) ≤ 99; omega)) ?_ | refine nt (l_i (j := v) (c := (99 : Int32)) (by omega) (by show (v : Int) ≤ 99; omega)) ?_ | refine nf (l_i (j := v) (c := (99 : Int32)) (by omega) (by show (v : Int) ≤ 99; omega)) ?_
      exact ok v rfl (by show v ≤ 99; omega)
    · have b : K (-1) H := bad (fun z => hv ⟨z.1, by have : ((W_grt 4 : Nat) : Int) = 99 := rfl; omega⟩)
      have z0 : (99 : Int32).toInt = 99 := rfl
      ((try (simp only [lgl, lgg, i2l_t, u32_0, u64_0, u32_1, u64_1, u32_2, u64_2, u32_3, u64_3, u32_4, u64_4, u32_5, u64_5, u32_7, u64_7, u32_12, u64_12, u32_24, u64_24, u32_30, u64_30, u32_49, u64_49, u32_60, u64_60, u32_99, u64_99, u32_255, u64_255, u32_999, u64_999, z0])); (try (simp only [t_lt, t_le, u32_0, u64_0, u32_1, u64_1, u32_2, u64_2, u32_3, u64_3, u32_4, u64_4, u32_5, u64_5, u32_7, u64_7, u32_12, u64_12, u32_24, u64_24, u32_30, u64_30, u32_49, u64_49, u32_60, u64_60, u32_99, u64_99, u32_255, u64_255, u32_999, u64_999, z0])); repeat' (first | with_reducible intro hh | with_reducible apply And.intro | exact vp_in_iff.mpr (by omega) | (exfalso; omega) | exact b))
  · first | refine bt (show ¬ nI 5 = (0 : Int32) by decide) ?_ | refine bf (show ¬ nI 5 = (0 : Int32) by decide) ?_ | refine nt (show ¬ nI 5 = (0 : Int32) by decide) ?_ | refine nf (show ¬ nI 5 = (0 : Int32) by decide) ?_
    first | refine bt (show ¬ nI 5 = (1 : Int32) by decide) ?_ | refine bf (show ¬ nI 5 = (1 : Int32) by decide) ?_ | refine nt (show ¬ nI 5 = (1 : Int32) by decide) ?_ | refine nf (show ¬ nI 5 = (1 : Int32) by decide) ?_
    first | refine bt (show ¬ nI 5 = (2 : Int32) by decide) ?_ | refine bf (show ¬ nI 5 = (2 : Int32) by decide) ?_ | refine nt (show ¬ nI 5 = (2 : Int32) by decide) ?_ | refine nf (show ¬ nI 5 = (2 : Int32) by decide) ?_
    first | refine bt (show ¬ nI 5 = (3 : Int32) by decide) ?_ | refine bf (show ¬ nI 5 = (3 : Int32) by decide) ?_ | refine nt (show ¬ nI 5 = (3 : Int32) by decide) ?_ | refine nf (show ¬ nI 5 = (3 : Int32) by decide) ?_
    first | refine bt (show ¬ nI 5 = (4 : Int32) by decide) ?_ | refine bf (show ¬ nI 5 = (4 : Int32) by decide) ?_ | refine nt (show ¬ nI 5 = (4 : Int32) by decide) ?_ | refine nf (show ¬ nI 5 = (4 : Int32) by decide) ?_
    first | refine bt (show nI 5 = (5 : Int32) from rfl) ?_ | refine bf (show nI 5 = (5 : Int32) from rfl) ?_ | refine nt (show nI 5 = (5 : Int32) from rfl) ?_ | refine nf (show nI 5 = (5 : Int32) from rfl) ?_
    by_cases hv : 0 ≤ a3.toInt ∧ a3.toInt ≤ 12
    · obtain ⟨v, _, rfl, ev⟩ := nI_tI a3 hv.1
      first | refine bt (l_0 (j := v) (by omega)) ?_ | refine bf (l_0 (j := v) (by omega)) ?_ | refine nt (l_0 (j := v) (by omega)) ?_ | refine nf (l_0 (j := v) (by omega)) ?_
      first | refine bt (l_i (j := v) (c := (12 : Int32)) (by omega) (by show (v : Int) ≤ 12; omega)) ?_ | refine bf (l_i (j := v) (c := (12 : Int32)) (by omega) (by show (v : Int) ≤ 12; omega)) ?_ | refine nt (l_i (j := v) (c := (12 : Int32)) (by omega) (by show (v : Int) ≤ 12; omega)) ?_ | refine nf (l_i (j := v) (c := (12 : Int32)) (by omega) (by show (v : Int) ≤ 12; omega)) ?_
      exact ok v rfl (by show v ≤ 12; omega)
    · have b : K (-1) H := bad (fun z => hv ⟨z.1, by have : ((W_grt 5 : Nat) : Int) = 12 := rfl; omega⟩)
      have z0 : (12 : Int32).toInt = 12 := rfl
      ((try (simp only [lgl, lgg, i2l_t, u32_0, u64_0, u32_1, u64_1, u32_2, u64_2, u32_3, u64_3, u32_4, u64_4, u32_5, u64_5, u32_7, u64_7, u32_12, u64_12, u32_24, u64_24, u32_30, u64_30, u32_49, u64_49, u32_60, u64_60, u32_99, u64_99, u32_255, u64_255, u32_999, u64_999, z0])); (try (simp only [t_lt, t_le, u32_0, u64_0, u32_1, u64_1, u32_2, u64_2, u32_3, u64_3, u32_4, u64_4, u32_5, u64_5, u32_7, u64_7, u32_12, u64_12, u32_24, u64_24, u32_30, u64_30, u32_49, u64_49, u32_60, u64_60, u32_99, u64_99, u32_255, u64_255, u32_999, u64_999, z0])); repeat' (first | with_reducible intro hh | with_reducible apply And.intro | exact vp_in_iff.mpr (by omega) | (exfalso; omega) | exact b))
  · first | refine bt (show ¬ nI 6 = (0 : Int32) by decide) ?_ | refine bf (show ¬ nI 6 = (0 : Int32) by decide) ?_ | refine nt (show ¬ nI 6 = (0 : Int32) by decide) ?_ | refine nf (show ¬ nI 6 = (0 : Int32) by decide) ?_
    first | refine bt (show ¬ nI 6 = (1 : Int32) by decide) ?_ | refine bf (show ¬ nI 6 = (1 : Int32) by decide) ?_ | refine nt (show ¬ nI 6 = (1 : Int32) by decide) ?_ | refine nf (show ¬ nI 6 = (1 : Int32) by decide) ?_
    first | refine bt (show ¬ nI 6 = (2 : Int32) by decide) ?_ | refine bf (show ¬ nI 6 = (2 : Int32) by decide) ?_ | refine nt (show ¬ nI 6 = (2 : Int32) by decide) ?_ | refine nf (show ¬ nI 6 = (2 : Int32) by decide) ?_
    first | refine bt (show ¬ nI 6 = (3 : Int32) by decide) ?_ | refine bf (show ¬ nI 6 = (3 : Int32) by decide) ?_ | refine nt (show ¬ nI 6 = (3 : Int32) by decide) ?_ | refine nf (show ¬ nI 6 = (3 : Int32) by decide) ?_
    first | refine bt (show ¬ nI 6 = (4 : Int32) by decide) ?_ | refine bf (show ¬ nI 6 = (4 : Int32) by decide) ?_ | refine nt (show ¬ nI 6 = (4 : Int32) by decide) ?_ | refine nf (show ¬ nI 6 = (4 : Int32) by decide) ?_
    first | refine bt (show ¬ nI 6 = (5 : Int32) by decide) ?_ | refine bf (show ¬ nI 6 = (5 : Int32) by decide) ?_ | refine nt (show ¬ nI 6 = (5 : Int32) by decide) ?_ | refine nf (show ¬ nI 6 = (5 : Int32) by decide) ?_
    first | refine bt (show nI 6 = (6 : Int32) from rfl) ?_ | refine bf (show nI 6 = (6 : Int32) from rfl) ?_ | refine nt (show nI 6 = (6 : Int32) from rfl) ?_ | refine nf (show nI 6 = (6 : Int32) from rfl) ?_
    by_cases hv : 0 ≤ a3.toInt ∧ a3.toInt ≤ 9
    · obtain ⟨v, _, rfl, ev⟩ := nI_tI a3 hv.1
      first | refine bt (l_0 (j := v) (by omega)) ?_ | refine bf (l_0 (j := v) (by omega)) ?_ | refine nt (l_0 (j := v) (by omega)) ?_ | refine nf (l_0 (j := v) (by omega)) ?_
      first | refine bt (l_i (j := v) (c := (9 : Int32)) (by omega) (by show (v : Int) ≤ 9; omega)) ?_ | refine bf (l_i (j := v) (c := (9 : Int32)) (by omega) (by show (v : Int) ≤ 9; omega)) ?_ | refine nt (l_i (j := v) (c := (9 : Int32)) (by omega) (by show (v : Int) ≤ 9; omega)) ?_ | refine nf (l_i (j := v) (c := (9 : Int32)) (by omega) (by show (v : Int) ≤ 9; omega)) ?_
      exact ok v rfl (by show v ≤ 9; omega)
    · have b : K (-1) H := bad (fun z => hv ⟨z.1, by have : ((W_grt 6 : Nat) : Int) = 9 := rfl; omega⟩)
      have z0 : (9 : Int32).toInt = 9 := rfl
      ((try (simp only [lgl, lgg, i2l_t, u32_0, u64_0, u32_1, u64_1, u32_2, u64_2, u32_3, u64_3, u32_4, u64_4, u32_5, u64_5, u32_7, u64_7, u32_12, u64_12, u32_24, u64_24, u32_30, u64_30, u32_49, u64_49, u32_60, u64_60, u32_99, u64_99, u32_255, u64_255, u32_999, u64_999, z0])); (try (simp only [t_lt, t_le, u32_0, u64_0, u32_1, u64_1, u32_2, u64_2, u32_3, u64_3, u32_4, u64_4, u32_5, u64_5, u32_7, u64_7, u32_12, u64_12, u32_24, u64_24, u32_30, u64_30, u32_49, u64_49, u32_60, u64_60, u32_99, u64_99, u32_255, u64_255, u32_999, u64_999, z0])); repeat' (first | with_reducible intro hh | with_reducible apply And.intro | exact vp_in_iff.mpr (by omega) | (exfalso; omega) | exact b))
  · first | refine bt (show ¬ nI 7 = (0 : Int32) by decide) ?_ | refine bf (show ¬ nI 7 = (0 : Int32) by decide) ?_ | refine nt (show ¬ nI 7 = (0 : Int32) by decide) ?_ | refine nf (show ¬ nI 7 = (0 : Int32) by decide) ?_
    first | refine bt (show ¬ nI 7 = (1 : Int32) by decide) ?_ | refine bf (show ¬ nI 7 = (1 : Int32) by decide) ?_ | refine nt (show ¬ nI 7 = (1 : Int32) by decide) ?_ | refine nf (show ¬ nI 7 = (1 : Int32) by decide) ?_
    first | refine bt (show ¬ nI 7 = (2 : Int32) by decide) ?_ | refine bf (show ¬ nI 7 = (2 : Int32) by decide) ?_ | refine nt (show ¬ nI 7 = (2 : Int32) by decide) ?_ | refine nf (show ¬ nI 7 = (2 : Int32) by decide) ?_
    first | refine bt (show ¬ nI 7 = (3 : Int32) by decide) ?_ | refine bf (show ¬ nI 7 = (3 : Int32) by decide) ?_ | refine nt (show ¬ nI 7 = (3 : Int32) by decide) ?_ | refine nf (show ¬ nI 7 = (3 : Int32) by decide) ?_
    first | refine bt (show ¬ nI 7 = (4 : Int32) by decide) ?_ | refine bf (show ¬ nI 7 = (4 : Int32) by decide) ?_ | refine nt (show ¬ nI 7 = (4 : Int32) by decide) ?_ | refine nf (show ¬ nI 7 = (4 : Int32) by decide) ?_
    first | refine bt (show ¬ nI 7 = (5 : Int32) by decide) ?_ | refine bf (show ¬ nI 7 = (5 : Int32) by decide) ?_ | refine nt (show ¬ nI 7 = (5 : Int32) by decide) ?_ | refine nf (show ¬ nI 7 = (5 : Int32) by decide) ?_
    first | refine bt (show ¬ nI 7 = (6 : Int32) by decide) ?_ | refine bf (show ¬ nI 7 = (6 : Int32) by decide) ?_ | refine nt (show ¬ nI 7 = (6 : Int32) by decide) ?_ | refine nf (show ¬ nI 7 = (6 : Int32) by decide) ?_
    by_cases hv : 0 ≤ a3.toInt ∧ a3.toInt ≤ 99
    · obtain ⟨v, _, rfl, ev⟩ := nI_tI a3 hv.1
      first | refine bt (l_0 (j := v) (by omega)) ?_ | refine bf (l_0 (j := v) (by omega)) ?_ | refine nt (l_0 (j := v) (by omega)) ?_ | refine nf (l_0 (j := v) (by omega)) ?_
      first | refine bt (l_i (j := v) (c := (99 : Int32)) (by omega) (by show (v : Int) ≤ 99; omega)) ?_ | refine bf (l_i (j := v) (c := (99 : Int32)) (by omega) (by show (v : Int) ≤ 99; omega)) ?_ | refine nt (l_i (j := v) (c := (99 : Int32)) (by omega) (by show (v : Int) ≤ 99; omega)) ?_ | refine nf (l_i (j := v) (c := (99 : Int32)) (by omega) (by show (v : Int) ≤ 99; omega)) ?_
      exact ok v rfl (by show v ≤ 99; omega)
    · have b : K (-1) H := bad (fun z => hv ⟨z.1, by have : ((W_grt 7 : Nat) : Int) = 99 := rfl; omega⟩)
      have z0 : (99 : Int32).toInt = 99 := rfl
      ((try (simp only [lgl, lgg, i2l_t, u32_0, u64_0, u32_1, u64_1, u32_2, u64_2, u32_3, u64_3, u32_4, u64_4, u32_5, u64_5, u32_7, u64_7, u32_12, u64_12, u32_24, u64_24, u32_30, u64_30, u32_49, u64_49, u32_60, u64_60, u32_99, u64_99, u32_255, u64_255, u32_999, u64_999, z0])); (try (simp only [t_lt, t_le, u32_0, u64_0, u32_1, u64_1, u32_2, u64_2, u32_3, u64_3, u32_4, u64_4, u32_5, u64_5, u32_7, u64_7, u32_12, u64_12, u32_24, u64_24, u32_30, u64_30, u32_49, u64_49, u32_60, u64_60, u32_99, u64_99, u32_255, u64_255, u32_999, u64_999, z0])); repeat' (first | with_reducible intro hh | with_reducible apply And.intro | exact vp_in_iff.mpr (by omega) | (exfalso; omega) | exact b))
