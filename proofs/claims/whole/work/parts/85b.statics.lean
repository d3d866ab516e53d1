/-! what the start says of the statics -/
theorem st_0 {s : State} {args : Array Value} (hts : ∀ w ∈ lw_tbl, w.before args s = true) (hgv : (Jvm.Cond.and given_1 narrow_1).before args s = true) : ∃ t : Nat, va_Z "PractisedWrong" "GREATEST" "[I" (.ref t) (fun q : Nat => s.heap.size ≤ q) s s.heap ∧ va_T .int t 8 (fun j => .int (pm_G j)) (fun q : Nat => s.heap.size ≤ q) s s.heap := by
  have hs := flat_of_before _ hgv
  have hA : ∀ a : Nat, a < s.heap.size → ¬ (fun q : Nat => s.heap.size ≤ q) a := fun a h => Nat.not_le.mpr h
  have harr : (Cond.arrayOf (Term.static "PractisedWrong" "GREATEST" "[I") .int).before args s = true := hs _ (by decide +kernel)
  have hlen : (Term.length (Term.static "PractisedWrong" "GREATEST" "[I")).eval args s none [] s = some (.int (Int32.ofNat 8)) := va_eqt (hs _ (by decide +kernel))
  have hel : ∀ j : Nat, j < 8 → (Term.elem (Term.static "PractisedWrong" "GREATEST" "[I") (.int (Int32.ofNat j))).eval args s none [] s = some (.int (pm_G j)) := by
    intro j hj
    match j, hj with
    | 0, _ => exact va_eqt (hs _ (by decide +kernel))
    | 1, _ => exact va_eqt (hs _ (by decide +kernel))
    | 2, _ => exact va_eqt (hs _ (by decide +kernel))
    | 3, _ => exact va_eqt (hs _ (by decide +kernel))
    | 4, _ => exact va_eqt (hs _ (by decide +kernel))
    | 5, _ => exact va_eqt (hs _ (by decide +kernel))
    | 6, _ => exact va_eqt (hs _ (by decide +kernel))
    | 7, _ => exact va_eqt (hs _ (by decide +kernel))
  obtain ⟨t, h1, h2⟩ := va_Tof (N := 8) (f := fun j => .int (pm_G j)) (A := fun q : Nat => s.heap.size ≤ q) (by decide) harr hlen hel hA
  exact ⟨t, va_Zref (hts (.laysStatic "PractisedWrong" "GREATEST" "[I") (by decide +kernel)) (hts (.initialized "PractisedWrong") (by decide +kernel)) h1 hA, h2⟩
theorem st_1 {s : State} {args : Array Value} (hts : ∀ w ∈ lw_tbl, w.before args s = true) (hgv : (Jvm.Cond.and given_1 narrow_1).before args s = true) : ∃ t : Nat, va_Z "PractisedWrong$Bodies" "ABOVE" "[I" (.ref t) (fun q : Nat => s.heap.size ≤ q) s s.heap ∧ va_T .int t 8 (fun j => .int (pm_AB j)) (fun q : Nat => s.heap.size ≤ q) s s.heap := by
  have hs := flat_of_before _ hgv
  have hA : ∀ a : Nat, a < s.heap.size → ¬ (fun q : Nat => s.heap.size ≤ q) a := fun a h => Nat.not_le.mpr h
  have harr : (Cond.arrayOf (Term.static "PractisedWrong$Bodies" "ABOVE" "[I") .int).before args s = true := hs _ (by decide +kernel)
  have hlen : (Term.length (Term.static "PractisedWrong$Bodies" "ABOVE" "[I")).eval args s none [] s = some (.int (Int32.ofNat 8)) := va_eqt (hs _ (by decide +kernel))
  have hel : ∀ j : Nat, j < 8 → (Term.elem (Term.static "PractisedWrong$Bodies" "ABOVE" "[I") (.int (Int32.ofNat j))).eval args s none [] s = some (.int (pm_AB j)) := by
    intro j hj
    match j, hj with
    | 0, _ => exact va_eqt (hs _ (by decide +kernel))
    | 1, _ => exact va_eqt (hs _ (by decide +kernel))
    | 2, _ => exact va_eqt (hs _ (by decide +kernel))
    | 3, _ => exact va_eqt (hs _ (by decide +kernel))
    | 4, _ => exact va_eqt (hs _ (by decide +kernel))
    | 5, _ => exact va_eqt (hs _ (by decide +kernel))
    | 6, _ => exact va_eqt (hs _ (by decide +kernel))
    | 7, _ => exact va_eqt (hs _ (by decide +kernel))
  obtain ⟨t, h1, h2⟩ := va_Tof (N := 8) (f := fun j => .int (pm_AB j)) (A := fun q : Nat => s.heap.size ≤ q) (by decide) harr hlen hel hA
  exact ⟨t, va_Zref (hts (.laysStatic "PractisedWrong$Bodies" "ABOVE" "[I") (by decide +kernel)) (hts (.initialized "PractisedWrong$Bodies") (by decide +kernel)) h1 hA, h2⟩
theorem st_2 {s : State} {args : Array Value} (hts : ∀ w ∈ lw_tbl, w.before args s = true) (hgv : (Jvm.Cond.and given_1 narrow_1).before args s = true) : ∃ t : Nat, va_Z "PractisedWrong$Bodies" "OWN" "[I" (.ref t) (fun q : Nat => s.heap.size ≤ q) s s.heap ∧ va_T .int t 32 (fun j => .int (pm_OW j)) (fun q : Nat => s.heap.size ≤ q) s s.heap := by
  have hs := flat_of_before _ hgv
  have hA : ∀ a : Nat, a < s.heap.size → ¬ (fun q : Nat => s.heap.size ≤ q) a := fun a h => Nat.not_le.mpr h
  have harr : (Cond.arrayOf (Term.static "PractisedWrong$Bodies" "OWN" "[I") .int).before args s = true := hs _ (by decide +kernel)
  have hlen : (Term.length (Term.static "PractisedWrong$Bodies" "OWN" "[I")).eval args s none [] s = some (.int (Int32.ofNat 32)) := va_eqt (hs _ (by decide +kernel))
  have hel : ∀ j : Nat, j < 32 → (Term.elem (Term.static "PractisedWrong$Bodies" "OWN" "[I") (.int (Int32.ofNat j))).eval args s none [] s = some (.int (pm_OW j)) := by
    intro j hj
    match j, hj with
    | 0, _ => exact va_eqt (hs _ (by decide +kernel))
    | 1, _ => exact va_eqt (hs _ (by decide +kernel))
    | 2, _ => exact va_eqt (hs _ (by decide +kernel))
    | 3, _ => exact va_eqt (hs _ (by decide +kernel))
    | 4, _ => exact va_eqt (hs _ (by decide +kernel))
    | 5, _ => exact va_eqt (hs _ (by decide +kernel))
    | 6, _ => exact va_eqt (hs _ (by decide +kernel))
    | 7, _ => exact va_eqt (hs _ (by decide +kernel))
    | 8, _ => exact va_eqt (hs _ (by decide +kernel))
    | 9, _ => exact va_eqt (hs _ (by decide +kernel))
    | 10, _ => exact va_eqt (hs _ (by decide +kernel))
    | 11, _ => exact va_eqt (hs _ (by decide +kernel))
    | 12, _ => exact va_eqt (hs _ (by decide +kernel))
    | 13, _ => exact va_eqt (hs _ (by decide +kernel))
    | 14, _ => exact va_eqt (hs _ (by decide +kernel))
    | 15, _ => exact va_eqt (hs _ (by decide +kernel))
    | 16, _ => exact va_eqt (hs _ (by decide +kernel))
    | 17, _ => exact va_eqt (hs _ (by decide +kernel))
    | 18, _ => exact va_eqt (hs _ (by decide +kernel))
    | 19, _ => exact va_eqt (hs _ (by decide +kernel))
    | 20, _ => exact va_eqt (hs _ (by decide +kernel))
    | 21, _ => exact va_eqt (hs _ (by decide +kernel))
    | 22, _ => exact va_eqt (hs _ (by decide +kernel))
    | 23, _ => exact va_eqt (hs _ (by decide +kernel))
    | 24, _ => exact va_eqt (hs _ (by decide +kernel))
    | 25, _ => exact va_eqt (hs _ (by decide +kernel))
    | 26, _ => exact va_eqt (hs _ (by decide +kernel))
    | 27, _ => exact va_eqt (hs _ (by decide +kernel))
    | 28, _ => exact va_eqt (hs _ (by decide +kernel))
    | 29, _ => exact va_eqt (hs _ (by decide +kernel))
    | 30, _ => exact va_eqt (hs _ (by decide +kernel))
    | 31, _ => exact va_eqt (hs _ (by decide +kernel))
    | j + 32, hj => exact absurd hj (by omega)
  obtain ⟨t, h1, h2⟩ := va_Tof (N := 32) (f := fun j => .int (pm_OW j)) (A := fun q : Nat => s.heap.size ≤ q) (by decide) harr hlen hel hA
  exact ⟨t, va_Zref (hts (.laysStatic "PractisedWrong$Bodies" "OWN" "[I") (by decide +kernel)) (hts (.initialized "PractisedWrong$Bodies") (by decide +kernel)) h1 hA, h2⟩
