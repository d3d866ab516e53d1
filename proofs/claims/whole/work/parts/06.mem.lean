/-! soundness: fields, rows, calls -/
section
variable {X : Option (Nat × (Nat → Int32))} {d y : Nat} {Q : pmQ} {pc : Nat} {ls : pmL} {r : List Value} {H : pmT}
theorem pr_getI {o ci k j t : Nat} {q : vw_C} (hd : decode (pm_by y) pc = .ok (.getfield j, 3)) (ho : pm_SH[o]? = some (.inl ci)) (hc : vwCl[ci]? = some q) (hk : k < q.2.2) (hw : Jvm.Cond.fieldLink (pm_nm y).cls j (q.2.1 k).1 (q.2.1 k).2.1 (q.2.1 k).2.2.1 ∈ pm_tbl) (ht : (pm_ftl.getD ci [])[k]? = some t) (hn : t ≠ 2) (kk : pm_RW X d y Q (pc + 3) ls (.int (H.1 o k) :: r) H) : pm_RW X d y Q pc ls (.ref o :: r) H :=
  fun p l e R s m args below meth c cells slots Z D tc ad A C Hp locs lsa hP hD hS hl => va_get (C := q.1) (T := q.2.1) (N := q.2.2) C.1 C.2.1 C.2.2.2.2.1.1 (pm_cls hc).1 C.2.2.2.1 C.2.2.2.2.2.1 hP o (pm_atW ho) hc k hk (C.2.2.2.2.1.1 _ hw) (fun _ h9 => h9) (v := .int (H.1 o k)) (by rw [pm_fs_at ht]; unfold pm_fv; rw [pm_nbeq hn]; rfl) hd (kk p l e R s m args below meth c cells slots Z D tc ad A C Hp locs lsa hP hD hS hl)
theorem pr_getR {o ci k j : Nat} {q : vw_C} (hd : decode (pm_by y) pc = .ok (.getfield j, 3)) (ho : pm_SH[o]? = some (.inl ci)) (hc : vwCl[ci]? = some q) (hk : k < q.2.2) (hw : Jvm.Cond.fieldLink (pm_nm y).cls j (q.2.1 k).1 (q.2.1 k).2.1 (q.2.1 k).2.2.1 ∈ pm_tbl) (ht : (pm_ftl.getD ci [])[k]? = some 2) (kk : pm_RW X d y Q (pc + 3) ls (.ref (pm_rf H o k) :: r) H) : pm_RW X d y Q pc ls (.ref o :: r) H :=
  fun p l e R s m args below meth c cells slots Z D tc ad A C Hp locs lsa hP hD hS hl => va_get (C := q.1) (T := q.2.1) (N := q.2.2) C.1 C.2.1 C.2.2.2.2.1.1 (pm_cls hc).1 C.2.2.2.1 C.2.2.2.2.2.1 hP o (pm_atW ho) hc k hk (C.2.2.2.2.1.1 _ hw) (fun _ h9 => h9) (v := .ref (ad (pm_rf H o k))) (by rw [pm_fs_at ht]; rfl) hd (kk p l e R s m args below meth c cells slots Z D tc ad A C Hp locs lsa hP hD hS hl)
theorem pr_putI {o ci k j t : Nat} {q : vw_C} {ty : FieldType} {x : Int32} (hd : decode (pm_by y) pc = .ok (.putfield j, 3)) (ho : pm_SH[o]? = some (.inl ci)) (hc : vwCl[ci]? = some q) (hk : k < q.2.2) (hw : Jvm.Cond.fieldLink (pm_nm y).cls j (q.2.1 k).1 (q.2.1 k).2.1 (q.2.1 k).2.2.1 ∈ pm_tbl) (hf : (q.2.1 k).2.2.2 = false) (hp : parseFieldDescriptor (q.2.1 k).2.2.1 = some ty) (h1 : narrow ty (.int x) = .int x) (h2 : fits ty (.int x) = true) (ht : (pm_ftl.getD ci [])[k]? = some t) (hn : t ≠ 2) (kk : pm_RW X d y Q (pc + 3) ls r (pm_up H.1 o k x, H.2)) : pm_RW X d y Q pc ls (.int x :: .ref o :: r) H := by
  intro p l e R s m args below meth c cells slots Z D tc ad A C Hp locs lsa hP hD hS hl
  obtain ⟨ty0, hty⟩ := (pm_cls hc).2.1
  have e0 : (pm_ws tc ad H).set o (ad o, .inr (ci, (pm_fs ad H o ci).set k (.int x))) = pm_ws tc ad (pm_up H.1 o k x, H.2) := pm_setI ho (by show Sum.inr (ci, _) = _; exact congrArg _ (congrArg _ (pm_fs_put ht hn)))
  refine va_put (v := .int x) (C := q.1) (T := q.2.1) (N := q.2.2) C.1 C.2.1 C.2.2.2.2.1.1 (pm_cls hc).1 ty0 hty (pm_cls hc).2.2 C.2.2.2.1 C.2.2.2.2.2.1 hP hD hS o (pm_atW ho) hc k hk (C.2.2.2.2.1.1 _ hw) (fun _ h9 => h9) hf hp h1 h2 (by rw [pm_fs_len]; exact (List.getElem?_eq_some_iff.mp ht).1) hd (fun H1 locs1 hP hD hS => ?_)
  rw [e0] at hP hD
  exact kk p l e R s m args below meth c cells slots Z D tc ad A C H1 locs1 lsa hP hD hS hl
theorem pr_iald {o n : Nat} {a : Int32} (hd : decode (pm_by y) pc = .ok (.iaload, 1)) (ho : pm_SH[o]? = some (.inr (0, n))) (hi : vp_in a n) (kk : pm_RW X d y Q (pc + 1) ls (.int (H.1 o a.toNatClampNeg) :: r) H) : pm_RW X d y Q pc ls (.int a :: .ref o :: r) H :=
  fun p l e R s m args below meth c cells slots Z D tc ad A C Hp locs lsa hP hD hS hl => va_iald C.1 C.2.1 C.2.2.2.2.2.1 hP o 0 (pm_atW ho) rfl hi hd (kk p l e R s m args below meth c cells slots Z D tc ad A C Hp locs lsa hP hD hS hl)
theorem pr_lald {o n : Nat} {a : Int32} (hd : decode (pm_by y) pc = .ok (.laload, 1)) (ho : pm_SH[o]? = some (.inr (1, n))) (hi : vp_in a n) (kk : pm_RW X d y Q (pc + 1) ls (.long (H.2.1 o a.toNatClampNeg) :: r) H) : pm_RW X d y Q pc ls (.int a :: .ref o :: r) H :=
  fun p l e R s m args below meth c cells slots Z D tc ad A C Hp locs lsa hP hD hS hl => va_lald C.1 C.2.1 C.2.2.2.2.2.1 hP o 1 (pm_atW ho) rfl hi hd (kk p l e R s m args below meth c cells slots Z D tc ad A C Hp locs lsa hP hD hS hl)
theorem pr_bald {o n : Nat} {a : Int32} (hd : decode (pm_by y) pc = .ok (.baload, 1)) (ho : pm_SH[o]? = some (.inr (2, n))) (hi : vp_in a n) (kk : pm_RW X d y Q (pc + 1) ls (.int (H.1 o a.toNatClampNeg) :: r) H) : pm_RW X d y Q pc ls (.int a :: .ref o :: r) H :=
  fun p l e R s m args below meth c cells slots Z D tc ad A C Hp locs lsa hP hD hS hl => va_zald C.1 C.2.1 C.2.2.2.2.2.1 hP o 2 (pm_atW ho) rfl hi hd (kk p l e R s m args below meth c cells slots Z D tc ad A C Hp locs lsa hP hD hS hl)
theorem pr_aald {o n : Nat} {a : Int32} (hd : decode (pm_by y) pc = .ok (.aaload, 1)) (ho : pm_SH[o]? = some (.inr (3, n))) (hi : vp_in a n) (kk : pm_RW X d y Q (pc + 1) ls (.ref (pm_rf H o a.toNatClampNeg) :: r) H) : pm_RW X d y Q pc ls (.int a :: .ref o :: r) H :=
  fun p l e R s m args below meth c cells slots Z D tc ad A C Hp locs lsa hP hD hS hl => va_aldq C.1 C.2.1 C.2.2.2.2.2.1 hP o 3 (pm_atW ho) rfl hi hd (kk p l e R s m args below meth c cells slots Z D tc ad A C Hp locs lsa hP hD hS hl)
theorem pr_iast {o n : Nat} {a x : Int32} (hd : decode (pm_by y) pc = .ok (.iastore, 1)) (ho : pm_SH[o]? = some (.inr (0, n))) (hi : vp_in a n) (kk : pm_RW X d y Q (pc + 1) ls r (pm_up H.1 o a.toNatClampNeg x, H.2)) : pm_RW X d y Q pc ls (.int x :: .int a :: .ref o :: r) H := by
  intro p l e R s m args below meth c cells slots Z D tc ad A C Hp locs lsa hP hD hS hl
  have e0 : (pm_ws tc ad H).set o (ad o, .inl (tc 0, n, .inl (upd (H.1 o) a.toNatClampNeg x))) = pm_ws tc ad (pm_up H.1 o a.toNatClampNeg x, H.2) := pm_setI ho (by
    show Sum.inl (tc 0, n, Sum.inl (va_up H.1 o (upd (H.1 o) a.toNatClampNeg x) o)) = _
    rw [va_up_self])
  refine va_iast C.1 C.2.1 C.2.2.2.2.2.1 hP hD hS o 0 (pm_atW ho) rfl hi hd (fun H1 locs1 hP hD hS => ?_)
  rw [e0] at hP hD
  exact kk p l e R s m args below meth c cells slots Z D tc ad A C H1 locs1 lsa hP hD hS hl
theorem pr_last {o n : Nat} {a : Int32} {x : Int64} (hd : decode (pm_by y) pc = .ok (.lastore, 1)) (ho : pm_SH[o]? = some (.inr (1, n))) (hi : vp_in a n) (kk : pm_RW X d y Q (pc + 1) ls r (H.1, pm_upL H.2.1 o a.toNatClampNeg x, H.2.2)) : pm_RW X d y Q pc ls (.long x :: .int a :: .ref o :: r) H := by
  intro p l e R s m args below meth c cells slots Z D tc ad A C Hp locs lsa hP hD hS hl
  have e0 : (pm_ws tc ad H).set o (ad o, .inl (tc 1, n, .inr (.inl (vp_updL (H.2.1 o) a.toNatClampNeg x)))) = pm_ws tc ad (H.1, pm_upL H.2.1 o a.toNatClampNeg x, H.2.2) := pm_setL ho (by
    show Sum.inl (tc 1, n, Sum.inr (Sum.inl (va_up H.2.1 o (vp_updL (H.2.1 o) a.toNatClampNeg x) o))) = _
    rw [va_up_self])
  refine va_last C.1 C.2.1 C.2.2.2.2.2.1 hP hD hS o 1 (pm_atW ho) rfl hi hd (fun H1 locs1 hP hD hS => ?_)
  rw [e0] at hP hD
  exact kk p l e R s m args below meth c cells slots Z D tc ad A C H1 locs1 lsa hP hD hS hl
theorem pr_bast {o n : Nat} {a x : Int32} (hd : decode (pm_by y) pc = .ok (.bastore, 1)) (ho : pm_SH[o]? = some (.inr (2, n))) (hi : vp_in a n) (hx : x = 0 ∨ x = 1) (kk : pm_RW X d y Q (pc + 1) ls r (pm_up H.1 o a.toNatClampNeg x, H.2)) : pm_RW X d y Q pc ls (.int x :: .int a :: .ref o :: r) H := by
  intro p l e R s m args below meth c cells slots Z D tc ad A C Hp locs lsa hP hD hS hl
  have ex : vp_nar .boolean x = x := by rcases hx with rfl | rfl <;> rfl
  have e0 : (pm_ws tc ad H).set o (ad o, .inl (tc 2, n, .inl (upd (H.1 o) a.toNatClampNeg x))) = pm_ws tc ad (pm_up H.1 o a.toNatClampNeg x, H.2) := pm_setI ho (by
    show Sum.inl (tc 2, n, Sum.inl (va_up H.1 o (upd (H.1 o) a.toNatClampNeg x) o)) = _
    rw [va_up_self])
  refine va_zast C.1 C.2.1 C.2.2.2.2.2.1 hP hD hS o 2 (pm_atW ho) rfl hi hd (fun H1 locs1 hP hD hS => ?_)
  rw [ex, e0] at hP hD
  exact kk p l e R s m args below meth c cells slots Z D tc ad A C H1 locs1 lsa hP hD hS hl
end
