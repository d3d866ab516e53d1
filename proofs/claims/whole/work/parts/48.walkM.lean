/-! plans of the reference -/
abbrev JQ : List Nat := [5514, 5515, 5516, 5517, 5518, 5524, 5528, 6400, 6500, 6600, 6700, 6800, 6900, 7000, 7100, 7200, 7300, 7400, 7500, 7600, 7700]
def MS (hb : Nat → Nat) (L : Law) (n : Nat) (now : Nat → Row) (H : pmT) : Prop := MX hb L H ∧ H.1 55 6 = nI n ∧ n ≤ 12 ∧ (∀ b, b < n → PR H b (now b)) ∧ (∀ b, b < n → RV 1000 (now b))
theorem PR.fr {S : List Nat} {b' : Nat} {H H' : pmT} {r : Row} (h : PR H b' r) (a : fr S H H') (g : (pm_has S 5600 || (pm_has S 6000 || pm_has S 6100)) = false) : PR H' b' r := by
  simp only [Bool.or_eq_false_iff] at g
  exact ⟨(a.1 56 b' g.1).trans h.1, (a.1 56 (12 + b') g.1).trans h.2.1, (a.1 56 (24 + b') g.1).trans h.2.2.1, (a.1 60 b' g.2.1).trans h.2.2.2.1, (a.1 61 b' g.2.2).trans h.2.2.2.2⟩
theorem MS.fr {hb : Nat → Nat} {L : Law} {n : Nat} {now : Nat → Row} {H H' : pmT} (h : MS hb L n now H) (a : fr JQ H H') : MS hb L n now H' :=
  ⟨h.1.fr a rfl rfl, (a.1 55 6 rfl).trans h.2.1, h.2.2.1, fun b hb0 => (h.2.2.2.1 b hb0).fr a rfl, h.2.2.2.2⟩
abbrev JB : List Nat := [5524, 6500, 6600, 6700, 6800]
theorem c_takeM {b : Nat} {r : Row} {H : pmT} (hP : PR H b r) (hb12 : b < 12) : ((12 : Int32) + nI b).toNatClampNeg = 12 + b ∧ (nI b).toNatClampNeg = b ∧ vp_in (nI b) 41 ∧ vp_in (nI b) 12 ∧ vp_in ((12 : Int32) + nI b) 41 ∧ MR (pm_up (pm_up (pm_up (pm_up H.1 65 b (H.1 56 b)) 66 b (H.1 56 (12 + b))) 67 b (H.1 60 b)) 68 b (H.1 61 b), H.2) b r ∧ fb [] [65, 66, 67, 68] b H (pm_up (pm_up (pm_up (pm_up H.1 65 b (H.1 56 b)) 66 b (H.1 56 (12 + b))) 67 b (H.1 60 b)) 68 b (H.1 61 b), H.2) := by
  have e12 : (12 : Int32) + nI b = nI (12 + b) := nI_add 12 b
  have u0 : ∀ (h : Nat → Nat → Int32) (o : Nat) (x : Int32), pm_up h o b x o b = x := fun h o x => by rw [pm_up_self]; exact pk_us
  obtain ⟨h1, h2, h3, h4, h5⟩ := hP
  rw [e12]
  refine ⟨nIc (by omega), nIc (by omega), vp_in_nI (by omega) (by decide), vp_in_nI hb12 (by decide), vp_in_nI (by omega) (by decide), ⟨?_, ?_, h3, ?_, ?_⟩, (((fb.rf.upR (o := 65) rfl).upR (o := 66) rfl).upR (o := 67) rfl).upR (o := 68) rfl⟩
  · exact (u0 _ 65 _).trans h1
  · exact (u0 _ 66 _).trans h2
  · exact (u0 _ 67 _).trans h4
  · exact (u0 _ 68 _).trans h5
theorem lp_begins {d n : Nat} {hb : Nat → Nat} {L : Law} {now : Nat → Row} {K : pmT → Prop} {H0 : pmT} (hS : MS hb L n now H0) (kk : ∀ H', fr JB H0 H' → (∀ b, b < n → MR H' b (now b)) → H'.1 55 23 = nI (hb 2) → K H') : ∀ (m b : Nat) (H : pmT), b + m = n → fr JB H0 H → (∀ b', b' < b → MR H b' (now b')) → pm_RW none (d + 1) M_Mo_begins1 (pm_v K) 2 [(0, .ref 55), (1, .int (nI b))] [] H
  | 0, b, H, hb0, hf, hT => by
    refine b_Mo_begins1_2 _ ?_
    have hS1 := hS.fr (hf.mono rfl)
    have e : b = n := by omega
    have hn12 := hS.2.2.1
    rw [hS1.2.1, i_le _ _ (by omega) (by omega)]
    first | refine bt (show n ≤ b by omega) ?_ | refine bf (show n ≤ b by omega) ?_ | refine nt (show n ≤ b by omega) ?_ | refine nf (show n ≤ b by omega) ?_
    have f2 : fr [5524] H (pm_up H.1 55 23 (H.1 56 38), H.2) := fr.rf.up rfl
    refine kk _ (hf.tr (f2.mono rfl)) (fun b' hb' => (hT b' (by omega)).fr f2 rfl) ?_
    show pm_up H.1 55 23 (H.1 56 38) 55 23 = _
    rw [pm_up_self, pk_us]
    exact hS1.1.1.2.2.1
  | m + 1, b, H, hb0, hf, hT => by
    have ih := lp_begins (d := d) hS kk m
    refine b_Mo_begins1_2 _ ?_
    have hS1 := hS.fr (hf.mono rfl)
    have hn12 := hS.2.2.1
    rw [hS1.2.1, i_le _ _ (by omega) (by omega)]
    first | refine bt (show ¬ n ≤ b by omega) ?_ | refine bf (show ¬ n ≤ b by omega) ?_ | refine nt (show ¬ n ≤ b by omega) ?_ | refine nf (show ¬ n ≤ b by omega) ?_
    obtain ⟨q1, q2, q3, q4, q5, q6, q7⟩ := c_takeM (hS1.2.2.2.1 b (by omega)) (show b < 12 by omega)
    rw [q1, q2, show nI b + (1 : Int32) = nI (b + 1) from nI_1 b]
    refine ⟨q3, q4, q5, ih (b + 1) _ (by omega) (hf.tr (q7.fr rfl rfl)) (fun b' hb' => ?_)⟩
    by_cases e : b' = b
    · rw [e]; exact q6
    · exact (hT b' (by omega)).fb q7 rfl rfl e
theorem c_begins {d n : Nat} {hb : Nat → Nat} {L : Law} {now : Nat → Row} {K : pmT → Prop} {H : pmT} (hS : MS hb L n now H) (kk : ∀ H', fr JB H H' → (∀ b, b < n → MR H' b (now b)) → H'.1 55 23 = nI (hb 2) → K H') : pm_R (d + 1) M_Mo_begins1 [.ref 55] H (pm_v K) := by
  refine m_Mo_begins1 ?_
  exact lp_begins hS kk n 0 H (by omega) fr.rf (fun b' hb' => by omega)
/-- whether a plan has this byte -/
def W_ok (n : Nat) (v : Int) : Bool := decide (v = 60) || (W_bar n v).isSome
theorem W_ok_do {hb : Nat → Nat} {L : Law} {n f : Nat} {T : Nat → Row} {v : Int} : W_do hb L n f T v = none ↔ W_ok n v = false := by
  unfold W_do W_ok
  by_cases c : v = 60
  · rw [if_pos c]; simp [c]
  · rw [if_neg c]
    cases W_bar n v with
    | none => simp [c]
    | some q => obtain ⟨b, s⟩ := q; simp [c]
theorem lgl (a b : Int64) : (lg_cmp a b < 0) = (a.toInt < b.toInt) := by
  apply propext
  unfold lg_cmp
  by_cases h : a > b
  · rw [if_pos h]
    have h' : b.toInt < a.toInt := Int64.lt_iff_toInt_lt.mp h
    exact ⟨fun z => absurd z (by decide), fun z => by omega⟩
  · rw [if_neg h]
    have h' : ¬ b.toInt < a.toInt := fun z => h (Int64.lt_iff_toInt_lt.mpr z)
    by_cases e : a = b
    · rw [if_pos e]
      exact ⟨fun z => absurd z (by decide), fun z => by rw [e] at z; omega⟩
    · rw [if_neg e]
      have e' : ¬ a.toInt = b.toInt := fun z => e (Int64.toInt_inj.mp z)
      exact ⟨fun _ => by omega, fun _ => by decide⟩
theorem lgg (a b : Int64) : (0 < lg_cmp a b) = (b.toInt < a.toInt) := by
  apply propext
  unfold lg_cmp
  by_cases h : a > b
  · rw [if_pos h]
    have h' : b.toInt < a.toInt := Int64.lt_iff_toInt_lt.mp h
    exact ⟨fun _ => h', fun _ => by decide⟩
  · rw [if_neg h]
    have h' : ¬ b.toInt < a.toInt := fun z => h (Int64.lt_iff_toInt_lt.mpr z)
    by_cases e : a = b
    · rw [if_pos e]
      exact ⟨fun z => absurd z (by decide), fun z => absurd z h'⟩
    · rw [if_neg e]
      exact ⟨fun z => absurd z (by decide), fun z => absurd z h'⟩
theorem lge (a b : Int64) : (lg_cmp a b = 0) = (a.toInt = b.toInt) := by
  rw [lg_cmp0]
  exact propext Int64.toInt_inj.symm
theorem i2l_t (x : Int32) : x.toInt64.toInt = x.toInt := Int32.toInt_toInt64 x
theorem sub64 (a b : Int64) (h : -2 ^ 62 ≤ a.toInt ∧ a.toInt < 2 ^ 62) (g : -2 ^ 62 ≤ b.toInt ∧ b.toInt < 2 ^ 62) : (a - b).toInt = a.toInt - b.toInt := by
  rw [Int64.toInt_sub]
  exact Int.bmod_eq_of_le (by omega) (by omega)
theorem c_isPlan {d n : Nat} {x : Int64} {H : pmT} {K : Int32 → pmT → Prop} (hn : H.1 55 6 = nI n) (hn12 : n ≤ 12) (hx : -2 ^ 31 ≤ x.toInt ∧ x.toInt < 2 ^ 31) (kk : K (if W_ok n x.toInt = true then 1 else 0) H) : pm_R (d + 2) M_Mo_isPlan [.ref 55, .long x] H (pm_i K) := by
  refine m_Mo_isPlan _ ?_
  have en : (((H.1 55 6) - (1 : Int32)).toInt64).toInt = (n : Int) - 1 := by
    rw [i2l_t, hn]
    exact pk_sub_toInt (a := n) (b := 1) (by omega) (by decide)
  have e20 : (x - (20 : Int64)).toInt = x.toInt - 20 := sub64 x 20 (by omega) (by decide)
  have l0 : (0 : Int64).toInt = 0 := rfl
  have l20 : (20 : Int64).toInt = 20 := rfl
  have l60 : (60 : Int64).toInt = 60 := rfl
  simp only [lgl, lgg, lge, en, e20, l0, l20, l60]
  unfold W_ok W_bar at kk
  generalize x.toInt = v at kk
  have y : W_ok n v = true → K 1 H := fun h => by unfold W_ok W_bar at h; rw [if_pos h] at kk; exact kk
  have z : ¬ W_ok n v = true → K 0 H := fun h => by unfold W_ok W_bar at h; rw [if_neg h] at kk; exact kk
  have w1 : (v = 60 ∨ (0 ≤ v ∧ v < n) ∨ (20 ≤ v ∧ v - 20 < n)) → K 1 H := fun h => y (by
    unfold W_ok W_bar
    rcases h with h | h | h
    · simp [h]
    · rw [if_pos (by omega), if_pos h]; simp
    · rw [if_neg (by omega), if_pos h.2]; simp)
  have w0 : ¬ (v = 60 ∨ (0 ≤ v ∧ v < n) ∨ (20 ≤ v ∧ v - 20 < n)) → K 0 H := fun h => z (by
    unfold W_ok W_bar
    by_cases c : v < 20
    · rw [if_pos c, if_neg (by omega)]; simp; omega
    · rw [if_neg c, if_neg (by omega)]; simp; omega)
  repeat' (first | intro hh | apply And.intro)
  all_goals first
    | exact w1 (by omega)
    | exact w0 (by omega)
theorem nI_tI (x : Int32) (h : 0 ≤ x.toInt) : ∃ j : Nat, j < 2 ^ 31 ∧ x = nI j ∧ x.toInt = j := by
  have c : ¬ x < 0 := by
    rw [Int32.lt_iff_toInt_lt]
    have e0 : (0 : Int32).toInt = 0 := rfl
    omega
  obtain ⟨j, hj, e⟩ := nI_of c
  exact ⟨j, hj, e, by rw [e]; exact nI_toInt hj⟩
theorem lp_nightsM {d n f k0 : Nat} {hb : Nat → Nat} {T : Nat → Row} {K : Int32 → pmT → Prop} {H0 : pmT} (hn12 : n ≤ 12) (hf12 : f ≤ 12) (hk : k0 < 2 ^ 20) (hH : MHb hb H0) (hv : HV hb) (ef : H0.1 55 23 = nI f) (hn : H0.1 55 6 = nI n) (hV : ∀ b, b < n → RV k0 (T b)) (kk : ∀ H', fr [6500, 6600, 6700, 6800] H0 H' → (∀ b, b < n → MR H' b (W_night hb f n T b)) → K (-2) H') : ∀ (m b : Nat) (H : pmT), b + m = n → fr [6500, 6600, 6700, 6800] H0 H → (∀ b', b' < b → MR H b' (W_sleep hb (T b') f)) → (∀ b', b ≤ b' → b' < n → MR H b' (T b')) → pm_RW none (d + 1) M_Mo_does (pm_i K) 8 [(0, .ref 55), (2, .int (nI b))] [] H
  | 0, b, H, hb0, hf, h1, h2 => by
    refine b_Mo_does_8 _ ?_
    rw [show H.1 55 6 = nI n from (hf.1 55 6 rfl).trans hn, i_le _ _ (by omega) (by omega)]
    first | refine bt (show n ≤ b by omega) ?_ | refine bf (show n ≤ b by omega) ?_ | refine nt (show n ≤ b by omega) ?_ | refine nf (show n ≤ b by omega) ?_
    refine kk H hf (fun b' hb' => ?_)
    unfold W_night
    rw [if_pos hb']
    exact h1 b' (by omega)
  | m + 1, b, H, hb0, hf, h1, h2 => by
    have ih := lp_nightsM (d := d) hn12 hf12 hk hH hv ef hn hV kk m
    refine b_Mo_does_8 _ ?_
    rw [show H.1 55 6 = nI n from (hf.1 55 6 rfl).trans hn, i_le _ _ (by omega) (by omega)]
    first | refine bt (show ¬ n ≤ b by omega) ?_ | refine bf (show ¬ n ≤ b by omega) ?_ | refine nt (show ¬ n ≤ b by omega) ?_ | refine nf (show ¬ n ≤ b by omega) ?_
    rw [show nI b + (1 : Int32) = nI (b + 1) from nI_1 b]
    refine c_nightM (hH.fr hf rfl) hv ((hf.1 55 23 rfl).trans ef) (h2 b (Nat.le_refl _) (by omega)) (hV b (by omega)) hk (by omega) hf12 (fun H1 f1 hR => ?_)
    refine ih (b + 1) H1 (by omega) (hf.tr (f1.fr rfl rfl)) (fun b' hb' => ?_) (fun b' hb1 hb2 => (h2 b' (by omega) hb2).fb f1 rfl rfl (by omega))
    by_cases e : b' = b
    · rw [e]; exact hR
    · exact (h1 b' (by omega)).fb f1 rfl rfl e
abbrev JP : List Nat := [5514, 5515, 5516, 5517, 5518, 6400, 6500, 6600, 6700, 6800]
theorem c_does {d n f k0 : Nat} {hb : Nat → Nat} {L : Law} {T : Nat → Row} {K : Int32 → pmT → Prop} {H : pmT} (x : Int32) (hn12 : n ≤ 12) (hf12 : f ≤ 12) (hk : k0 < 2 ^ 20) (hX : MX hb L H) (ef : H.1 55 23 = nI f) (hn : H.1 55 6 = nI n) (hT : ∀ b, b < n → MR H b (T b)) (hV : ∀ b, b < n → RV k0 (T b)) (hok : W_ok n x.toInt = true)
    (kk : ∀ c T', W_do hb L n f T x.toInt = some (c, T') → ∀ H', fr JP H H' → (∀ b, b < n → MR H' b (T' b)) → K c H') : pm_R (d + 73) M_Mo_does [.ref 55, .int x] H (pm_i K) := by
  refine m_Mo_does _ ?_
  have h60 : (60 : Int32).toInt = 60 := rfl
  have h20 : (20 : Int32).toInt = 20 := rfl
  by_cases c60 : x = 60
  · first | refine bt c60 ?_ | refine bf c60 ?_ | refine nt c60 ?_ | refine nf c60 ?_
    have e : x.toInt = 60 := by rw [c60]; rfl
    refine lp_nightsM hn12 hf12 hk hX.1 hX.2.1 ef hn hV (fun H1 f1 hR => ?_) n 0 H (by omega) fr.rf (fun b' hb' => by omega) (fun b' _ h => hT b' h)
    exact kk _ _ (by unfold W_do; rw [if_pos e]) H1 (f1.mono rfl) hR
  · first | refine bt c60 ?_ | refine bf c60 ?_ | refine nt c60 ?_ | refine nf c60 ?_
    have e60 : ¬ x.toInt = 60 := fun z => c60 (Int32.toInt_inj.mp (z.trans h60.symm))
    have hplay : ∀ (b s : Nat), b < n → s ≤ 1 → W_bar n x.toInt = some (b, s) → pm_R (d + 72) M_Mo_plays [.ref 55, .int (nI b), .int (nI s)] H (pm_i fun x2 H1 => (x2 = 0 → pm_i K (some (.int (0 : Int32))) H1) ∧ (¬ x2 = 0 → pm_i K (some (.int (1 : Int32))) H1)) := by
      intro b s hb0 hs1 hw
      refine c_playsM hX (hT b hb0) (hV b hb0) hk (by omega) hs1 (fun H1 f1 hR => ?_)
      have k1 := kk (nI (W_came hb (T b) s)) (va_up T b (W_play hb L (T b) s)) (by unfold W_do; rw [if_neg e60, hw]) H1 (f1.fr rfl rfl) (fun b' hb' => by
        unfold va_up
        split
        · rename_i e; rw [e]; exact hR
        · rename_i e; exact (hT b' hb').fb f1 rfl rfl e)
      have hcl := W_came_le hb (T b) s
      generalize W_came hb (T b) s = c at hcl k1
      rcases (show c = 0 ∨ c = 1 by omega) with e | e <;> subst e
      · first | refine bt (show nI 0 = 0 from rfl) ?_ | refine bf (show nI 0 = 0 from rfl) ?_ | refine nt (show nI 0 = 0 from rfl) ?_ | refine nf (show nI 0 = 0 from rfl) ?_
        exact k1
      · first | refine bt (show ¬ nI 1 = 0 by decide) ?_ | refine bf (show ¬ nI 1 = 0 by decide) ?_ | refine nt (show ¬ nI 1 = 0 by decide) ?_ | refine nf (show ¬ nI 1 = 0 by decide) ?_
        exact k1
    unfold W_ok W_bar at hok
    by_cases c20 : x < 20
    · first | refine bt c20 ?_ | refine bf c20 ?_ | refine nt c20 ?_ | refine nf c20 ?_
      have l20 : x.toInt < 20 := by rw [Int32.lt_iff_toInt_lt, h20] at c20; exact c20
      rw [if_pos l20] at hok
      by_cases cr : 0 ≤ x.toInt ∧ x.toInt < n
      · obtain ⟨j, hj, ej, ejt⟩ := nI_tI x cr.1
        have e := hplay j 0 (by omega) (by omega) (by unfold W_bar; rw [if_pos l20, if_pos cr]; congr 2; omega)
        rw [ej]
        exact e
      · rw [if_neg cr] at hok
        simp [e60] at hok
    · first | refine bt c20 ?_ | refine bf c20 ?_ | refine nt c20 ?_ | refine nf c20 ?_
      have l20 : ¬ x.toInt < 20 := by rw [Int32.lt_iff_toInt_lt, h20] at c20; exact c20
      rw [if_neg l20] at hok
      by_cases cr : x.toInt - 20 < n
      · obtain ⟨j, hj, ej, ejt⟩ := nI_tI x (by omega)
        have e := hplay (j - 20) 1 (by omega) (by omega) (by unfold W_bar; rw [if_neg l20, if_pos cr]; congr 2; omega)
        have ex : x - (20 : Int32) = nI (j - 20) := by rw [ej]; exact pk_sub (a := j) (b := 20) (by omega)
        rw [ex]
        exact e
      · rw [if_neg cr] at hok
        simp [e60] at hok
/-- how many bytes of a plan count, from k on -/
def W_pln (n : Nat) (g : Nat → Int) : Nat → Nat → Nat
  | 0, _ => 0
  | m + 1, k => if W_ok n (g k) = true then W_pln n g m (k + 1) + 1 else 0
theorem W_pln_le {n : Nat} {g : Nat → Int} : ∀ (m k : Nat), W_pln n g m k ≤ m
  | 0, _ => Nat.le_refl _
  | m + 1, k => by
    have := W_pln_le (n := n) (g := g) m (k + 1)
    unfold W_pln
    split <;> omega
theorem W_pln_ok {n : Nat} {g : Nat → Int} : ∀ (m k j : Nat), j < W_pln n g m k → W_ok n (g (k + j)) = true
  | 0, _, j, h => absurd h (Nat.not_lt_zero _)
  | m + 1, k, j, h => by
    unfold W_pln at h
    by_cases c : W_ok n (g k) = true
    · rw [if_pos c] at h
      cases j with
      | zero => exact c
      | succ j =>
        have := W_pln_ok (n := n) (g := g) m (k + 1) j (by omega)
        rw [show k + (j + 1) = k + 1 + j by omega]
        exact this
    · rw [if_neg c] at h; omega
/-- shelf s of the reference: a row of len elements -/
def MSh (s len : Nat) (g : Nat → Int64) (H : pmT) : Prop := s < 6 ∧ H.1 82 s = nI len ∧ len ≤ 60 ∧ (∀ j, j < len → H.2.1 83 (60 * s + j) = g j) ∧ (∀ j, j < len → (g j).toInt = (g j).toInt32.toInt)
theorem MSh.fr {s len : Nat} {g : Nat → Int64} {S : List Nat} {H H' : pmT} (h : MSh s len g H) (a : fr S H H') (gS : pm_has S 8200 = false) : MSh s len g H' :=
  ⟨h.1, (a.1 82 s gS).trans h.2.1, h.2.2.1, fun j hj => by rw [a.2]; exact h.2.2.2.1 j hj, h.2.2.2.2⟩
theorem MSh.at {s len k : Nat} {g : Nat → Int64} {H : pmT} (h : MSh s len g H) (hk : k < len) : vp_in ((60 : Int32) * nI s + nI k) 360 ∧ H.2.1 83 ((60 : Int32) * nI s + nI k).toNatClampNeg = g k ∧ vp_in (nI s) 6 ∧ H.1 82 (nI s).toNatClampNeg = nI len := by
  obtain ⟨h1, h2, h3, h4, h5⟩ := h
  have e : (60 : Int32) * nI s + nI k = nI (60 * s + k) := by rw [show (60 : Int32) = nI 60 from rfl, pk_mul, nI_add]
  rw [e, nIc (by omega), nIc (by omega)]
  exact ⟨vp_in_nI (by omega) (by decide), h4 k hk, vp_in_nI h1 (by decide), h2⟩
theorem MSh.in32 {s len k : Nat} {g : Nat → Int64} {H : pmT} (h : MSh s len g H) (hk : k < len) : -2 ^ 31 ≤ (g k).toInt ∧ (g k).toInt < 2 ^ 31 := by
  rw [h.2.2.2.2 k hk]
  exact ⟨Int32.le_toInt _, Int32.toInt_lt _⟩
theorem lp_planM {d n s len : Nat} {g : Nat → Int64} {H : pmT} {K : Int32 → pmT → Prop} (hn : H.1 55 6 = nI n) (hn12 : n ≤ 12) (hG : MSh s len g H) : ∀ (m k : Nat), k + m = len → K (nI (k + W_pln n (W_int g) m k)) H → pm_RW none (d + 3) M_Mo_planMany (pm_i K) 2 [(0, .ref 55), (1, .int (nI s)), (2, .int (nI k))] [] H
  | 0, k, hk, kk => by
    have hs6 := hG.1
    have hl := hG.2.2.1
    refine b_Mo_planMany_2 _ _ ?_
    rw [show ((60 : Int32) ≤ nI k) = (60 ≤ k) from i_le 60 k (by decide) (by omega)]
    by_cases c : 60 ≤ k
    · first | refine bt c ?_ | refine bf c ?_ | refine nt c ?_ | refine nf c ?_
      exact kk
    · first | refine bt c ?_ | refine bf c ?_ | refine nt c ?_ | refine nf c ?_
      refine ⟨vp_in_nI hs6 (by decide), ?_⟩
      rw [nIc (show s < 2 ^ 31 by omega), hG.2.1]
      first | refine bt (nI_le (show len ≤ k by omega) (by omega)) ?_ | refine bf (nI_le (show len ≤ k by omega) (by omega)) ?_ | refine nt (nI_le (show len ≤ k by omega) (by omega)) ?_ | refine nf (nI_le (show len ≤ k by omega) (by omega)) ?_
      exact kk
  | m + 1, k, hk, kk => by
    have hs6 := hG.1
    have hl := hG.2.2.1
    refine b_Mo_planMany_2 _ _ ?_
    rw [show ((60 : Int32) ≤ nI k) = (60 ≤ k) from i_le 60 k (by decide) (by omega)]
    first | refine bt (show ¬ 60 ≤ k by omega) ?_ | refine bf (show ¬ 60 ≤ k by omega) ?_ | refine nt (show ¬ 60 ≤ k by omega) ?_ | refine nf (show ¬ 60 ≤ k by omega) ?_
    obtain ⟨q1, q2, q3, q4⟩ := hG.at (show k < len by omega)
    refine ⟨q3, ?_⟩
    rw [q4]
    first | refine bt (nI_ge (show k < len by omega) (by omega)) ?_ | refine bf (nI_ge (show k < len by omega) (by omega)) ?_ | refine nt (nI_ge (show k < len by omega) (by omega)) ?_ | refine nf (nI_ge (show k < len by omega) (by omega)) ?_
    refine ⟨q1, ?_⟩
    rw [q2]
    unfold W_pln at kk
    have e32 : W_int g k = (g k).toInt := (hG.2.2.2.2 k (by omega)).symm
    refine c_isPlan (d := d) hn hn12 (hG.in32 (by omega)) ?_
    rw [← e32]
    by_cases c : W_ok n (W_int g k) = true
    · rw [if_pos c]
      rw [if_pos c] at kk
      first | refine bt (show ¬ (1 : Int32) = 0 by decide) ?_ | refine bf (show ¬ (1 : Int32) = 0 by decide) ?_ | refine nt (show ¬ (1 : Int32) = 0 by decide) ?_ | refine nf (show ¬ (1 : Int32) = 0 by decide) ?_
      rw [show nI k + (1 : Int32) = nI (k + 1) from nI_1 k]
      exact lp_planM hn hn12 hG m (k + 1) (by omega) (by rw [show k + 1 + W_pln n (W_int g) m (k + 1) = k + (W_pln n (W_int g) m (k + 1) + 1) by omega]; exact kk)
    · rw [if_neg c]
      rw [if_neg c] at kk
      first | refine bt (show (0 : Int32) = 0 from rfl) ?_ | refine bf (show (0 : Int32) = 0 from rfl) ?_ | refine nt (show (0 : Int32) = 0 from rfl) ?_ | refine nf (show (0 : Int32) = 0 from rfl) ?_
      exact kk
theorem c_planM {d n s len : Nat} {g : Nat → Int64} {H : pmT} {K : Int32 → pmT → Prop} (hn : H.1 55 6 = nI n) (hn12 : n ≤ 12) (hG : MSh s len g H) (kk : K (nI (W_pln n (W_int g) len 0)) H) : pm_R (d + 3) M_Mo_planMany [.ref 55, .int (nI s)] H (pm_i K) := by
  refine m_Mo_planMany _ ?_
  exact lp_planM hn hn12 hG len 0 (by omega) (by rw [Nat.zero_add]; exact kk)
theorem lp_doesP {d n s len f : Nat} {hb : Nat → Nat} {L : Law} {g : Nat → Int64} {K : Int32 → pmT → Prop} {H0 : pmT} (hn12 : n ≤ 12) (hf12 : f ≤ 12) (hX : MX hb L H0) (ef : H0.1 55 23 = nI f) (hn : H0.1 55 6 = nI n) (hG : MSh s len g H0) (q : Nat) (hq : q ≤ len) (hok : ∀ j, j < q → W_ok n (W_int g j) = true) (R : Nat × Nat × Int32 × (Nat → Row)) (kk : ∀ H', fr JP H0 H' → (∀ b, b < n → MR H' b (R.2.2.2 b)) → K (nI R.2.1) H') : ∀ (m k k0 ro : Nat) (lt : Int32) (T : Nat → Row) (H : pmT), k + m = q → k0 + m < 2 ^ 20 → fr JP H0 H → (∀ b, b < n → MR H b (T b)) → (∀ b, b < n → RV k0 (T b)) → W_walk hb L n f (W_int g) m k T ro lt = R → pm_RW none (d + 74) M_Mo_doesPlan (pm_i K) 9 [(0, .ref 55), (1, .int (nI s)), (2, .int (nI q)), (3, .int (nI ro)), (4, .int (nI k))] [] H
  | 0, k, k0, ro, lt, T, H, hk, hk0, hf, hT, hV, e => by
    have hl := hG.2.2.1
    refine b_Mo_doesPlan_9 _ _ _ _ ?_
    first | refine bt (nI_le (show q ≤ k by omega) (by omega)) ?_ | refine bf (nI_le (show q ≤ k by omega) (by omega)) ?_ | refine nt (nI_le (show q ≤ k by omega) (by omega)) ?_ | refine nf (nI_le (show q ≤ k by omega) (by omega)) ?_
    rw [← e] at kk
    exact kk H hf hT
  | m + 1, k, k0, ro, lt, T, H, hk, hk0, hf, hT, hV, e => by
    have ih := lp_doesP (d := d) (K := K) hn12 hf12 hX ef hn hG q hq hok R kk m
    have hl := hG.2.2.1
    refine b_Mo_doesPlan_9 _ _ _ _ ?_
    first | refine bt (nI_ge (show k < q by omega) (by omega)) ?_ | refine bf (nI_ge (show k < q by omega) (by omega)) ?_ | refine nt (nI_ge (show k < q by omega) (by omega)) ?_ | refine nf (nI_ge (show k < q by omega) (by omega)) ?_
    have hG1 := hG.fr hf rfl
    obtain ⟨q1, q2, q3, q4⟩ := hG1.at (show k < len by omega)
    rw [q2, show nI k + (1 : Int32) = nI (k + 1) from nI_1 k]
    refine ⟨q1, c_does _ hn12 hf12 (by omega) (hX.fr hf rfl rfl) ((hf.1 55 23 rfl).trans ef) ((hf.1 55 6 rfl).trans hn) hT hV (hok k (by omega)) (fun c T' ed H1 f1 hT1 => ?_)⟩
    have hV1 := RV_do hV ed
    unfold W_walk at e
    have ed' : W_do hb L n f T (W_int g k) = some (c, T') := ed
    rw [ed'] at e
    simp only at e
    have i1 := ih (k + 1) (k0 + 1) (ro + if c = 1 then 1 else 0) c T' H1 (by omega) (by omega) (hf.tr f1) hT1 hV1 e
    by_cases c1 : c = 1
    · first | refine bt c1 ?_ | refine bf c1 ?_ | refine nt c1 ?_ | refine nf c1 ?_
      rw [if_pos c1] at i1
      rw [show nI ro + (1 : Int32) = nI (ro + 1) from nI_1 ro]
      exact i1
    · first | refine bt c1 ?_ | refine bf c1 ?_ | refine nt c1 ?_ | refine nf c1 ?_
      rw [if_neg c1] at i1
      rw [Int32.add_zero]
      exact i1
theorem c_doesP {d n s len q : Nat} {hb : Nat → Nat} {L : Law} {now : Nat → Row} {g : Nat → Int64} {K : Int32 → pmT → Prop} {H : pmT} (hS : MS hb L n now H) (hG : MSh s len g H) (hq : q ≤ len) (hok : ∀ j, j < q → W_ok n (W_int g j) = true) (kk : ∀ H', fr JQ H H' → H'.1 55 23 = nI (hb 2) → (∀ b, b < n → MR H' b ((W_walk hb L n (hb 2) (W_int g) q 0 now 0 (-2)).2.2.2 b)) → K (nI (W_walk hb L n (hb 2) (W_int g) q 0 now 0 (-2)).2.1) H') : pm_R (d + 74) M_Mo_doesPlan [.ref 55, .int (nI s), .int (nI q)] H (pm_i K) := by
  refine m_Mo_doesPlan _ _ ?_
  refine c_begins hS (fun H1 f1 hT ef => ?_)
  have f1' : fr JQ H H1 := f1.mono rfl
  have hS1 := hS.fr f1'
  have hl := hG.2.2.1
  exact lp_doesP hS.2.2.1 hS.1.2.1.2.2.1 hS1.1 ef hS1.2.1 (hG.fr f1' rfl) q hq hok _ (fun H' f h => kk H' (f1'.tr (f.mono rfl)) ((f.1 55 23 rfl).trans ef) h) q 0 1000 0 (-2) now H1 (by omega) (by omega) fr.rf hT hS.2.2.2.2 rfl
/-! the walk of the class stops where no plan has the byte -/
theorem W_walk_pln {hb : Nat → Nat} {L : Law} {n f : Nat} {g : Nat → Int} : ∀ (m k ro : Nat) (lt : Int32) (T : Nat → Row), W_walk hb L n f g m k T ro lt = W_walk hb L n f g (W_pln n g m k) k T ro lt ∧ (W_walk hb L n f g m k T ro lt).1 = k + W_pln n g m k
  | 0, k, ro, lt, T => ⟨rfl, rfl⟩
  | m + 1, k, ro, lt, T => by
    by_cases c : W_ok n (g k) = true
    · cases ed : W_do hb L n f T (g k) with
      | none => rw [W_ok_do.mp ed] at c; cases c
      | some q =>
        obtain ⟨c', T'⟩ := q
        obtain ⟨i1, i2⟩ := W_walk_pln (hb := hb) (L := L) (n := n) (f := f) (g := g) m (k + 1) (ro + if c' = 1 then 1 else 0) c' T'
        have e1 : W_walk hb L n f g (m + 1) k T ro lt = W_walk hb L n f g m (k + 1) T' (ro + if c' = 1 then 1 else 0) c' := by
          conv => lhs; unfold W_walk
          rw [ed]
        have e2 : W_pln n g (m + 1) k = W_pln n g m (k + 1) + 1 := by
          conv => lhs; unfold W_pln
          rw [if_pos c]
        rw [e1, e2]
        refine ⟨?_, by rw [i2]; omega⟩
        conv => rhs; unfold W_walk
        rw [ed]
        exact i1
    · have c' : W_ok n (g k) = false := by simpa using c
      have ed : W_do hb L n f T (g k) = none := W_ok_do.mpr c'
      have e2 : W_pln n g (m + 1) k = 0 := by
        conv => lhs; unfold W_pln
        rw [if_neg c]
      have e1 : W_walk hb L n f g (m + 1) k T ro lt = (k, ro, lt, T) := by
        conv => lhs; unfold W_walk
        rw [ed]
      rw [e1, e2]
      exact ⟨rfl, rfl⟩
theorem W_walk_snoc {hb : Nat → Nat} {L : Law} {n f : Nat} {g : Nat → Int} : ∀ (m k ro : Nat) (lt : Int32) (T : Nat → Row) (c : Int32) (T' : Nat → Row), (∀ j, j < m → W_ok n (g (k + j)) = true) → W_do hb L n f (W_walk hb L n f g m k T ro lt).2.2.2 (g (k + m)) = some (c, T') → (W_walk hb L n f g (m + 1) k T ro lt).2.2 = (c, T')
  | 0, k, ro, lt, T, c, T', h, e => by
    have e' : W_do hb L n f T (g k) = some (c, T') := e
    show (match W_do hb L n f T (g k) with
      | none => (k, ro, lt, T)
      | some (c, T') => W_walk hb L n f g 0 (k + 1) T' (ro + if c = 1 then 1 else 0) c).2.2 = _
    rw [e']
    rfl
  | m + 1, k, ro, lt, T, c, T', h, e => by
    cases ed : W_do hb L n f T (g k) with
    | none => have := h 0 (by omega); rw [Nat.add_zero, W_ok_do.mp ed] at this; cases this
    | some q =>
      obtain ⟨c', T2⟩ := q
      have e1 : ∀ m, W_walk hb L n f g (m + 1) k T ro lt = W_walk hb L n f g m (k + 1) T2 (ro + if c' = 1 then 1 else 0) c' := fun m => by
        conv => lhs; unfold W_walk
        rw [ed]
      rw [e1] at e ⊢
      exact W_walk_snoc m (k + 1) _ c' T2 c T' (fun j hj => by have := h (j + 1) (by omega); rw [show k + (j + 1) = k + 1 + j by omega] at this; exact this) (by rw [show k + 1 + m = k + (m + 1) by omega]; exact e)
