/-! what the start knows: classes, nest mates, the shelves' array -/
theorem known0 {s : State} {args : Array Value} (ht : ∀ w ∈ pm_tbl, w.before args s = true) : ∃ D : va_G, va_K D vwCl [] s := by
  obtain ⟨c0, i0, h0⟩ := u_known (C := RX0) (T := TX0) (N := 5) (n := 5) ht (pm_cls (ci := 0) rfl).1 (ht (.instantiable RX0 5) (by decide +kernel))
  obtain ⟨c1, i1, h1⟩ := u_known (C := RX1) (T := TX1) (N := 6) (n := 6) ht (pm_cls (ci := 1) rfl).1 (ht (.instantiable RX1 6) (by decide +kernel))
  obtain ⟨c2, i2, h2⟩ := u_known (C := RX2) (T := TX2) (N := 1) (n := 1) ht (pm_cls (ci := 2) rfl).1 (ht (.instantiable RX2 1) (by decide +kernel))
  obtain ⟨c3, i3, h3⟩ := u_known (C := RX3) (T := TX3) (N := 6) (n := 6) ht (pm_cls (ci := 3) rfl).1 (ht (.instantiable RX3 6) (by decide +kernel))
  obtain ⟨c4, i4, h4⟩ := u_known (C := RX4) (T := TX4) (N := 9) (n := 9) ht (pm_cls (ci := 4) rfl).1 (ht (.instantiable RX4 9) (by decide +kernel))
  obtain ⟨c5, i5, h5⟩ := u_known (C := RX5) (T := TX5) (N := 10) (n := 10) ht (pm_cls (ci := 5) rfl).1 (ht (.instantiable RX5 10) (by decide +kernel))
  obtain ⟨c6, i6, h6⟩ := u_known (C := RX6) (T := TX6) (N := 5) (n := 5) ht (pm_cls (ci := 6) rfl).1 (ht (.instantiable RX6 5) (by decide +kernel))
  obtain ⟨c7, i7, h7⟩ := u_known (C := RX7) (T := TX7) (N := 4) (n := 4) ht (pm_cls (ci := 7) rfl).1 (ht (.instantiable RX7 4) (by decide +kernel))
  obtain ⟨c8, i8, h8⟩ := u_known (C := RX8) (T := TX8) (N := 11) (n := 11) ht (pm_cls (ci := 8) rfl).1 (ht (.instantiable RX8 11) (by decide +kernel))
  obtain ⟨c9, i9, h9⟩ := u_known (C := RX9) (T := TX9) (N := 52) (n := 52) ht (pm_cls (ci := 9) rfl).1 (ht (.instantiable RX9 52) (by decide +kernel))
  refine ⟨(fun k => ([c0, c1, c2, c3, c4, c5, c6, c7, c8, c9] : List ClassId).getD k c0, fun k => ([i0, i1, i2, i3, i4, i5, i6, i7, i8, i9] : List (Nat → Nat)).getD k i0), fun k q hq => ?_, fun k q h => by simp at h⟩
  match k, hq with
  | 0, hq => cases hq; exact h0
  | 1, hq => cases hq; exact h1
  | 2, hq => cases hq; exact h2
  | 3, hq => cases hq; exact h3
  | 4, hq => cases hq; exact h4
  | 5, hq => cases hq; exact h5
  | 6, hq => cases hq; exact h6
  | 7, hq => cases hq; exact h7
  | 8, hq => cases hq; exact h8
  | 9, hq => cases hq; exact h9
  | k + 10, hq => simp [vwCl] at hq
theorem nst0 {s : State} {args : Array Value} (hts : ∀ w ∈ lw_tbl, w.before args s = true) : ∀ w ∈ kw_nst, va_Nw w s := by
  intro w hw
  have hm : ∀ w ∈ kw_nst, w ∈ lw_tbl := by decide +kernel
  have h := hts w (hm w hw)
  simp only [kw_nst, List.mem_cons, List.not_mem_nil, or_false] at hw
  rcases hw with e | e | e | e | e | e | e | e | e <;> (rw [e] at h ⊢; exact va_Nw.of rfl h)
theorem nstO {s : State} {args : Array Value} (hts : ∀ w ∈ lw_tbl, w.before args s = true) : ∀ w ∈ pm_nst, va_Nw w s := by
  intro w hw
  have hm : ∀ w ∈ pm_nst, w ∈ lw_tbl := by decide +kernel
  have h := hts w (hm w hw)
  simp only [pm_nst, List.mem_cons, List.not_mem_nil, or_false] at hw
  rcases hw with e | e | e <;> (rw [e] at h ⊢; exact va_Nw.of rfl h)
theorem ao0 {s : State} {args : Array Value} (hts : ∀ w ∈ lw_tbl, w.before args s = true) : va_AO RX7 s :=
  va_AO.of (hts (.arrayOver (.object RX7)) (by decide +kernel))
