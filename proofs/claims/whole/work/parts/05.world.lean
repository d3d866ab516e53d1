/-! the world as cells: looked up, set -/
theorem pm_nbeq {a b : Nat} (h : a ≠ b) : Nat.beq a b = false := by
  cases hb : Nat.beq a b with
  | false => rfl
  | true => exact absurd (Nat.eq_of_beq_eq_true hb) h
theorem pm_atW {tc : Nat → ClassId} {ad : Nat → Nat} {H : pmT} {o : Nat} {s : pmS} (h : pm_SH[o]? = some s) : (pm_ws tc ad H)[o]? = some (ad o, pm_cell tc ad H o s) := by
  simp [pm_ws, List.getElem?_mapIdx, h]
theorem pm_lt {o : Nat} {s : pmS} (h : pm_SH[o]? = some s) : o < pm_SH.length := (List.getElem?_eq_some_iff.mp h).1
theorem pm_setW {tc : Nat → ClassId} {ad : Nat → Nat} {H H' : pmT} {o : Nat} {s : pmS} {e : va_E} (hs : pm_SH[o]? = some s) (hn : ∀ o' s', o' ≠ o → pm_SH[o']? = some s' → pm_cell tc ad H' o' s' = pm_cell tc ad H o' s') (he : pm_cell tc ad H' o s = e) : (pm_ws tc ad H).set o (ad o, e) = pm_ws tc ad H' := by
  apply List.ext_getElem?
  intro k
  rw [List.getElem?_set]
  have hlen : (pm_ws tc ad H).length = pm_SH.length := by simp [pm_ws]
  by_cases hk : o = k
  · subst hk
    rw [if_pos rfl, hlen, if_pos (pm_lt hs), pm_atW hs, he]
  · rw [if_neg hk]
    cases hq : pm_SH[k]? with
    | none =>
      have hle := List.getElem?_eq_none_iff.mp hq
      rw [List.getElem?_eq_none_iff.mpr (by simpa [pm_ws] using hle), List.getElem?_eq_none_iff.mpr (by simpa [pm_ws] using hle)]
    | some s' => rw [pm_atW hq, pm_atW hq, hn k s' (fun z => hk z.symm) hq]
theorem pm_cellC {tc : Nat → ClassId} {ad : Nat → Nat} {H H' : pmT} {o : Nat} {s : pmS} (h1 : H'.1 o = H.1 o) (h2 : H'.2.1 o = H.2.1 o) (h3 : H'.2.2 = H.2.2) : pm_cell tc ad H' o s = pm_cell tc ad H o s := by
  have hr : ∀ k, pm_rf H' o k = pm_rf H o k := fun k => by simp [pm_rf, h3]
  cases s with
  | inl ci =>
    have e : (fun k t => pm_fv ad H' o k t) = fun k t => pm_fv ad H o k t := by funext k t; simp only [pm_fv, h1, hr]
    simp only [pm_cell, pm_fs, e]
  | inr q =>
    simp only [pm_cell]
    congr 1
    unfold pm_ar
    split <;> simp [h1, h2, hr]
/-- what moves lies in cell 14 alone -/
theorem pm_rf_still : ∀ o, o < 85 → o ≠ 14 → ∀ v ∈ pm_rfl.getD o [], v ≠ 2000 ∧ v ≠ 2001 := by decide +kernel
theorem pm_SH_len : pm_SH.length = 85 := by decide +kernel
theorem pm_rf_off {H H' : pmT} {o k : Nat} (ho : o < 85) (hn : o ≠ 14) : pm_rf H' o k = pm_rf H o k := by
  have h := pm_rf_still o ho hn
  have hv : (pm_rfl.getD o []).getD k 999 ≠ 2000 ∧ (pm_rfl.getD o []).getD k 999 ≠ 2001 := by
    rcases Nat.lt_or_ge k (pm_rfl.getD o []).length with q | q
    · have e : (pm_rfl.getD o []).getD k 999 = (pm_rfl.getD o [])[k] := List.getD_eq_getElem?_getD.trans (by rw [List.getElem?_eq_getElem q]; rfl)
      rw [e]
      exact h _ (List.getElem_mem q)
    · have e : (pm_rfl.getD o []).getD k 999 = 999 := List.getD_eq_getElem?_getD.trans (by rw [List.getElem?_eq_none_iff.mpr q]; rfl)
      rw [e]
      exact ⟨by decide, by decide⟩
  unfold pm_rf
  rw [show Nat.beq _ 2000 = false from pm_nbeq hv.1, show Nat.beq _ 2001 = false from pm_nbeq hv.2]
  rfl
theorem pm_cellR {tc : Nat → ClassId} {ad : Nat → Nat} {H H' : pmT} {o : Nat} {s : pmS} (ho : o < 85) (hn : o ≠ 14) (h1 : H'.1 o = H.1 o) (h2 : H'.2.1 o = H.2.1 o) : pm_cell tc ad H' o s = pm_cell tc ad H o s := by
  have hr : ∀ k, pm_rf H' o k = pm_rf H o k := fun k => pm_rf_off ho hn
  cases s with
  | inl ci =>
    have e : (fun k t => pm_fv ad H' o k t) = fun k t => pm_fv ad H o k t := by funext k t; simp only [pm_fv, h1, hr]
    simp only [pm_cell, pm_fs, e]
  | inr q =>
    simp only [pm_cell]
    congr 1
    unfold pm_ar
    split <;> simp [h1, h2, hr]
theorem pm_up_self (h : Nat → Nat → Int32) (o k : Nat) (v : Int32) : pm_up h o k v o = upd (h o) k v := va_up_self _ _ _
theorem pm_up_ne (h : Nat → Nat → Int32) {o o' : Nat} (k : Nat) (v : Int32) (n : o' ≠ o) : pm_up h o k v o' = h o' := va_up_ne _ _ n
theorem pm_upL_self (h : Nat → Nat → Int64) (o k : Nat) (v : Int64) : pm_upL h o k v o = vp_updL (h o) k v := va_up_self _ _ _
theorem pm_upL_ne (h : Nat → Nat → Int64) {o o' : Nat} (k : Nat) (v : Int64) (n : o' ≠ o) : pm_upL h o k v o' = h o' := va_up_ne _ _ n
/-- an int row or an object's numbers: cell o alone is another -/
theorem pm_setI {tc : Nat → ClassId} {ad : Nat → Nat} {H : pmT} {o : Nat} {s : pmS} {f : Nat → Int32} {e : va_E} (hs : pm_SH[o]? = some s) (he : pm_cell tc ad (va_up H.1 o f, H.2) o s = e) : (pm_ws tc ad H).set o (ad o, e) = pm_ws tc ad (va_up H.1 o f, H.2) :=
  pm_setW hs (fun o' s' hn _ => pm_cellC (va_up_ne _ _ hn) rfl rfl) he
theorem pm_setL {tc : Nat → ClassId} {ad : Nat → Nat} {H : pmT} {o : Nat} {s : pmS} {f : Nat → Int64} {e : va_E} (hs : pm_SH[o]? = some s) (he : pm_cell tc ad (H.1, va_up H.2.1 o f, H.2.2) o s = e) : (pm_ws tc ad H).set o (ad o, e) = pm_ws tc ad (H.1, va_up H.2.1 o f, H.2.2) :=
  pm_setW hs (fun o' s' hn _ => pm_cellC rfl (va_up_ne _ _ hn) rfl) he
/-- the fields of an object -/
theorem pm_fs_at {ad : Nat → Nat} {H : pmT} {o ci k t : Nat} (h : (pm_ftl.getD ci [])[k]? = some t) : (pm_fs ad H o ci)[k]? = some (pm_fv ad H o k t) := by
  rw [pm_fs, List.getElem?_mapIdx, h]
  rfl
theorem pm_fs_len {ad : Nat → Nat} {H : pmT} {o ci : Nat} : (pm_fs ad H o ci).length = (pm_ftl.getD ci []).length := by simp [pm_fs]
theorem pm_fs_put {ad : Nat → Nat} {H : pmT} {o ci k t : Nat} {x : Int32} (h : (pm_ftl.getD ci [])[k]? = some t) (ht : t ≠ 2) : pm_fs ad (pm_up H.1 o k x, H.2) o ci = (pm_fs ad H o ci).set k (.int x) := by
  apply List.ext_getElem?
  intro j
  rw [List.getElem?_set]
  by_cases hj : k = j
  · subst hj
    rw [if_pos rfl, pm_fs_len, if_pos (List.getElem?_eq_some_iff.mp h).1, pm_fs_at h]
    unfold pm_fv
    rw [show Nat.beq t 2 = false from pm_nbeq ht]
    show some (Value.int (pm_up H.1 o k x o k)) = _
    rw [pm_up_self]
    simp [upd]
  · rw [if_neg hj]
    cases hq : (pm_ftl.getD ci [])[j]? with
    | none =>
      have hle := List.getElem?_eq_none_iff.mp hq
      rw [List.getElem?_eq_none_iff.mpr (by rw [pm_fs_len]; exact hle), List.getElem?_eq_none_iff.mpr (by rw [pm_fs_len]; exact hle)]
    | some t' =>
      rw [pm_fs_at hq, pm_fs_at hq]
      unfold pm_fv
      have e1 : pm_rf (pm_up H.1 o k x, H.2) o j = pm_rf H o j := rfl
      have e2 : (pm_up H.1 o k x, H.2).1 o j = H.1 o j := by
        show pm_up H.1 o k x o j = _
        rw [pm_up_self]
        exact pk_un (fun z => hj z.symm)
      rw [e1, e2]
/-- the classes of the world: their words, types, names -/
theorem pm_cls {ci : Nat} {q : vw_C} (h : vwCl[ci]? = some q) : (∀ w ∈ u_ws q.1 q.2.1 q.2.2, w ∈ pm_tbl) ∧ (∃ ty0 : Nat → FieldType, ∀ k, k < q.2.2 → parseFieldDescriptor (q.2.1 k).2.2.1 = some (ty0 k)) ∧ (∀ a, a < q.2.2 → ∀ b, b < q.2.2 → a ≠ b → (q.2.1 a).2.1 ≠ (q.2.1 b).2.1) := by
  match ci, h with
  | 0, h => cases h; exact ⟨by decide +kernel, ⟨tyX0, tyX0_ok⟩, nmX0⟩
  | 1, h => cases h; exact ⟨by decide +kernel, ⟨tyX1, tyX1_ok⟩, nmX1⟩
  | 2, h => cases h; exact ⟨by decide +kernel, ⟨tyX2, tyX2_ok⟩, nmX2⟩
  | 3, h => cases h; exact ⟨by decide +kernel, ⟨tyX3, tyX3_ok⟩, nmX3⟩
  | 4, h => cases h; exact ⟨by decide +kernel, ⟨tyX4, tyX4_ok⟩, nmX4⟩
  | 5, h => cases h; exact ⟨by decide +kernel, ⟨tyX5, tyX5_ok⟩, nmX5⟩
  | 6, h => cases h; exact ⟨by decide +kernel, ⟨tyX6, tyX6_ok⟩, nmX6⟩
  | 7, h => cases h; exact ⟨by decide +kernel, ⟨tyX7, tyX7_ok⟩, nmX7⟩
  | 8, h => cases h; exact ⟨by decide +kernel, ⟨tyX8, tyX8_ok⟩, nmX8⟩
  | 9, h => cases h; exact ⟨by decide +kernel, ⟨tyX9, tyX9_ok⟩, nmX9⟩
  | n + 10, h => simp [vwCl] at h
