/-! the makings: words -/
theorem kw_oi : Cond.instanceMethod objectInit ∈ pm_tbl := (pm_inW (wi := 95) (by decide +kernel) (by decide +kernel))
theorem kw_oc : Cond.code objectInit ⟨#[0xb1]⟩ 1 none ∈ pm_tbl := (pm_inW (wi := 96) (by decide +kernel) (by decide +kernel))
theorem kw_aint : Cond.arrayClass .int ∈ pm_tbl := by decide +kernel
theorem kw_along : Cond.arrayClass .long ∈ pm_tbl := by decide +kernel
theorem kw_aboolean : Cond.arrayClass .boolean ∈ pm_tbl := by decide +kernel
theorem dc_Ea_init_0 : decode (pm_by M_Ea_init) 0 = .ok (.aload_n 0, 1) := by decide +kernel
theorem dc_Ea_init_1 : decode (pm_by M_Ea_init) 1 = .ok (.invokespecial 3, 3) := by decide +kernel
theorem dc_Ea_init_4 : decode (pm_by M_Ea_init) 4 = .ok (.aload_n 0, 1) := by decide +kernel
theorem dc_Ea_init_5 : decode (pm_by M_Ea_init) 5 = .ok (.bipush (-2), 2) := by decide +kernel
theorem dc_Ea_init_7 : decode (pm_by M_Ea_init) 7 = .ok (.putfield 9, 3) := by decide +kernel
theorem dc_Ea_init_10 : decode (pm_by M_Ea_init) 10 = .ok (.return_, 1) := by decide +kernel
abbrev at_Ea_init (D : va_G) (A : Nat → Prop) (h0 : Nat) (t : State) : Prop := va_P D vwCl [(h0, .inr (2, [.int (-2)]))] t.heap ∧ va_K D vwCl [] t ∧ va_D A [(h0, .inr (2, [.int (-2)]))]
set_option maxHeartbeats 4000000 in
set_option maxRecDepth 100000 in
theorem c_Ea_init (l : Launch) (D : va_G) (h0 sz : Nat) : Met l (pm_nm M_Ea_init) (pm_wy M_Ea_init) ({ frames := 1, cells := 0, slots := 0, locals := 12 }) (va_Pc [.ref h0] (fun U => U.heap.size = sz ∧ va_P D vwCl [(h0, .inr (2, [.int 0]))] U.heap ∧ va_K D vwCl [] U ∧ va_D (fun _ => True) [(h0, .inr (2, [.int 0]))])) (va_Qv (fun _ : Unit => True) (fun _ t => at_Ea_init D (va_A [(h0, .inr (2, [.int 0]))] sz) h0 t) (va_A [(h0, .inr (2, [.int 0]))] sz)) 0 0 (va_A [(h0, .inr (2, [.int 0]))] sz) := by
  refine Met.ofW (cc := pm_by M_Ea_init) (maxL := 1) (ret := none) (by decide) rfl ?_
  intro p e s m args below meth c s₁ B hml hv
  obtain ⟨rfl, hsz, hP, hK, hD0⟩ := hv
  have hx := B.exec
  have hb := B.bytes
  have hr := B.returns
  have hts := atoms_spec (ws := pm_wy M_Ea_init) B.pre
  have ht : ∀ w ∈ pm_tbl, w.before _ s = true := fun w hw => hts w (List.mem_cons_of_mem _ hw)
  have hown : s.vm.findClass "PractisedWrong$Ear" = some m.cls := findClass_of_methodNamed B.named
  have hin : meth.name = "<init>" := (name_of_methodNamed B.named B.method).1
  subst hsz
  have hD := hD0.self (sz := s.heap.size)
  generalize hAe : va_A [(h0, .inr (2, [.int 0]))] s.heap.size = A at hD ⊢
  have hA : ∀ q : Nat, s.heap.size ≤ q → A q := fun q h => by rw [← hAe]; exact Or.inr h
  have hS : va_S A s.heap s.heap [] := va_S.rf
  have hP : va_P D vwCl [(h0, .inr (2, [.int 0]))] s.heap := hP
  have hl := lv_entry ([.ref h0]) (n := 1) (Nat.le_of_ble_eq_true rfl)
  rw [lg_entry_eq]
  generalize (lg_sl ([.ref h0]) ++ List.replicate (1 - (lg_sl ([.ref h0])).length) Slot.unset).toArray = ls at hl ⊢
  have hl : lv_has ls 1 [(0, .ref h0)] := hl
  refine lv_aload_n hx hb dc_Ea_init_0 rfl (lv_at hl 0 rfl) ?_
  refine W.objInit hx hb hown (ht (.methodLink "PractisedWrong$Ear" 3 objectInit) (pm_inW (wi := 257) (by decide +kernel) (by decide +kernel))) (ht (.instanceMethod objectInit) kw_oi) (ht _ kw_oc) rfl (by rw [hml]; exact hl.1) rfl dc_Ea_init_1 (Nat.le_of_ble_eq_true rfl) (Nat.le_of_ble_eq_true rfl) ?_
  refine W.eq (g2 := F0 m 4 ls []) rfl ?_
  refine lv_aload_n hx hb dc_Ea_init_4 rfl (lv_at hl 0 rfl) ?_
  refine lv_bipush hx hb (v := (-2 : Int32)) dc_Ea_init_5 rfl ?_
  refine va_put (D := D) (ci := 2) (v := .int (-2)) (ty := .int) (C := RX2) (T := TX2) (N := 1) hx hb ht (pm_cls (ci := 2) rfl).1 tyX2 tyX2_ok nmX2 hown hK hP hD hS 0 rfl rfl 0 (by decide) (ht (.fieldLink "PractisedWrong$Ear" 9 "PractisedWrong$Ear" "firstBoth" "I") (pm_inW (wi := 258) (by decide +kernel) (by decide +kernel))) (fun _ h9 => h9) rfl (by decide +kernel) rfl rfl (Nat.le_of_ble_eq_true rfl) dc_Ea_init_7 (fun H locs hP hD hS => ?_)
  have hP : va_P D vwCl [(h0, .inr (2, [.int (-2)]))] H := hP
  have hD : va_D A [(h0, .inr (2, [.int (-2)]))] := hD
  have hP9 := hP
  have hD9 := hD
  exact W.vret hx hb hr (fun t ht9 hW => ⟨⟨(), rfl, trivial, by rw [ht9]; exact hP9, va_K.moved hW.alike hK, hD9⟩, hS.F ht9⟩) hS.2.2 dc_Ea_init_10
theorem dc_Ha_init_0 : decode (pm_by M_Ha_init) 0 = .ok (.aload_n 0, 1) := by decide +kernel
theorem dc_Ha_init_1 : decode (pm_by M_Ha_init) 1 = .ok (.invokespecial 3, 3) := by decide +kernel
theorem dc_Ha_init_4 : decode (pm_by M_Ha_init) 4 = .ok (.aload_n 0, 1) := by decide +kernel
theorem dc_Ha_init_5 : decode (pm_by M_Ha_init) 5 = .ok (.iconst 0, 1) := by decide +kernel
theorem dc_Ha_init_6 : decode (pm_by M_Ha_init) 6 = .ok (.putfield 9, 3) := by decide +kernel
theorem dc_Ha_init_9 : decode (pm_by M_Ha_init) 9 = .ok (.aload_n 0, 1) := by decide +kernel
theorem dc_Ha_init_10 : decode (pm_by M_Ha_init) 10 = .ok (.bipush 12, 2) := by decide +kernel
theorem dc_Ha_init_12 : decode (pm_by M_Ha_init) 12 = .ok (.newarray .int, 2) := by decide +kernel
theorem dc_Ha_init_14 : decode (pm_by M_Ha_init) 14 = .ok (.putfield 15, 3) := by decide +kernel
theorem dc_Ha_init_17 : decode (pm_by M_Ha_init) 17 = .ok (.aload_n 0, 1) := by decide +kernel
theorem dc_Ha_init_18 : decode (pm_by M_Ha_init) 18 = .ok (.bipush 12, 2) := by decide +kernel
theorem dc_Ha_init_20 : decode (pm_by M_Ha_init) 20 = .ok (.newarray .int, 2) := by decide +kernel
theorem dc_Ha_init_22 : decode (pm_by M_Ha_init) 22 = .ok (.putfield 19, 3) := by decide +kernel
theorem dc_Ha_init_25 : decode (pm_by M_Ha_init) 25 = .ok (.aload_n 0, 1) := by decide +kernel
theorem dc_Ha_init_26 : decode (pm_by M_Ha_init) 26 = .ok (.bipush 12, 2) := by decide +kernel
theorem dc_Ha_init_28 : decode (pm_by M_Ha_init) 28 = .ok (.newarray .int, 2) := by decide +kernel
theorem dc_Ha_init_30 : decode (pm_by M_Ha_init) 30 = .ok (.putfield 22, 3) := by decide +kernel
theorem dc_Ha_init_33 : decode (pm_by M_Ha_init) 33 = .ok (.aload_n 0, 1) := by decide +kernel
theorem dc_Ha_init_34 : decode (pm_by M_Ha_init) 34 = .ok (.bipush 12, 2) := by decide +kernel
theorem dc_Ha_init_36 : decode (pm_by M_Ha_init) 36 = .ok (.newarray .int, 2) := by decide +kernel
theorem dc_Ha_init_38 : decode (pm_by M_Ha_init) 38 = .ok (.putfield 25, 3) := by decide +kernel
theorem dc_Ha_init_41 : decode (pm_by M_Ha_init) 41 = .ok (.aload_n 0, 1) := by decide +kernel
theorem dc_Ha_init_42 : decode (pm_by M_Ha_init) 42 = .ok (.bipush 12, 2) := by decide +kernel
theorem dc_Ha_init_44 : decode (pm_by M_Ha_init) 44 = .ok (.newarray .int, 2) := by decide +kernel
theorem dc_Ha_init_46 : decode (pm_by M_Ha_init) 46 = .ok (.putfield 28, 3) := by decide +kernel
theorem dc_Ha_init_49 : decode (pm_by M_Ha_init) 49 = .ok (.return_, 1) := by decide +kernel
abbrev at_Ha_init (D : va_G) (A : Nat → Prop) (h0 : Nat) (t : State) : Prop := ∃ (q12 q20 q28 q36 q44 : Nat) (cA12 cA20 cA28 cA36 cA44 : ClassId), va_P D vwCl [(h0, .inr (3, [.int 0, .ref q12, .ref q20, .ref q28, .ref q36, .ref q44])), (q12, .inl (cA12, 12, .inl (fun _ => 0))), (q20, .inl (cA20, 12, .inl (fun _ => 0))), (q28, .inl (cA28, 12, .inl (fun _ => 0))), (q36, .inl (cA36, 12, .inl (fun _ => 0))), (q44, .inl (cA44, 12, .inl (fun _ => 0)))] t.heap ∧ va_K D vwCl [(cA12, .int), (cA20, .int), (cA28, .int), (cA36, .int), (cA44, .int)] t ∧ va_D A [(h0, .inr (3, [.int 0, .ref q12, .ref q20, .ref q28, .ref q36, .ref q44])), (q12, .inl (cA12, 12, .inl (fun _ => 0))), (q20, .inl (cA20, 12, .inl (fun _ => 0))), (q28, .inl (cA28, 12, .inl (fun _ => 0))), (q36, .inl (cA36, 12, .inl (fun _ => 0))), (q44, .inl (cA44, 12, .inl (fun _ => 0)))]
set_option maxHeartbeats 4000000 in
set_option maxRecDepth 100000 in
theorem c_Ha_init (l : Launch) (D : va_G) (h0 sz : Nat) : Met l (pm_nm M_Ha_init) (pm_wy M_Ha_init) ({ frames := 1, cells := 5, slots := 60, locals := 12 }) (va_Pc [.ref h0] (fun U => U.heap.size = sz ∧ va_P D vwCl [(h0, .inr (3, [.int 0, .null, .null, .null, .null, .null]))] U.heap ∧ va_K D vwCl [] U ∧ va_D (fun _ => True) [(h0, .inr (3, [.int 0, .null, .null, .null, .null, .null]))])) (va_Qv (fun _ : Unit => True) (fun _ t => at_Ha_init D (va_A [(h0, .inr (3, [.int 0, .null, .null, .null, .null, .null]))] sz) h0 t) (va_A [(h0, .inr (3, [.int 0, .null, .null, .null, .null, .null]))] sz)) 5 60 (va_A [(h0, .inr (3, [.int 0, .null, .null, .null, .null, .null]))] sz) := by
  refine Met.ofW (cc := pm_by M_Ha_init) (maxL := 1) (ret := none) (by decide) rfl ?_
  intro p e s m args below meth c s₁ B hml hv
  obtain ⟨rfl, hsz, hP, hK, hD0⟩ := hv
  have hx := B.exec
  have hb := B.bytes
  have hr := B.returns
  have hts := atoms_spec (ws := pm_wy M_Ha_init) B.pre
  have ht : ∀ w ∈ pm_tbl, w.before _ s = true := fun w hw => hts w (List.mem_cons_of_mem _ hw)
  have hown : s.vm.findClass "PractisedWrong$Hands" = some m.cls := findClass_of_methodNamed B.named
  have hin : meth.name = "<init>" := (name_of_methodNamed B.named B.method).1
  subst hsz
  have hD := hD0.self (sz := s.heap.size)
  generalize hAe : va_A [(h0, .inr (3, [.int 0, .null, .null, .null, .null, .null]))] s.heap.size = A at hD ⊢
  have hA : ∀ q : Nat, s.heap.size ≤ q → A q := fun q h => by rw [← hAe]; exact Or.inr h
  have hS : va_S A s.heap s.heap [] := va_S.rf
  have hP : va_P D vwCl [(h0, .inr (3, [.int 0, .null, .null, .null, .null, .null]))] s.heap := hP
  have hl := lv_entry ([.ref h0]) (n := 1) (Nat.le_of_ble_eq_true rfl)
  rw [lg_entry_eq]
  generalize (lg_sl ([.ref h0]) ++ List.replicate (1 - (lg_sl ([.ref h0])).length) Slot.unset).toArray = ls at hl ⊢
  have hl : lv_has ls 1 [(0, .ref h0)] := hl
  refine lv_aload_n hx hb dc_Ha_init_0 rfl (lv_at hl 0 rfl) ?_
  refine W.objInit hx hb hown (ht (.methodLink "PractisedWrong$Hands" 3 objectInit) (pm_inW (wi := 108) (by decide +kernel) (by decide +kernel))) (ht (.instanceMethod objectInit) kw_oi) (ht _ kw_oc) rfl (by rw [hml]; exact hl.1) rfl dc_Ha_init_1 (Nat.le_of_ble_eq_true rfl) (Nat.le_of_ble_eq_true rfl) ?_
  refine W.eq (g2 := F0 m 4 ls []) rfl ?_
  refine lv_aload_n hx hb dc_Ha_init_4 rfl (lv_at hl 0 rfl) ?_
  refine lv_iconst hx hb (v := (0 : Int32)) dc_Ha_init_5 rfl ?_
  refine va_put (D := D) (ci := 3) (v := .int 0) (ty := .int) (C := RX3) (T := TX3) (N := 6) hx hb ht (pm_cls (ci := 3) rfl).1 tyX3 tyX3_ok nmX3 hown hK hP hD hS 0 rfl rfl 0 (by decide) (ht (.fieldLink "PractisedWrong$Hands" 9 "PractisedWrong$Hands" "size" "I") (pm_inW (wi := 109) (by decide +kernel) (by decide +kernel))) (fun _ h9 => h9) rfl (by decide +kernel) rfl rfl (Nat.le_of_ble_eq_true rfl) dc_Ha_init_6 (fun H locs hP hD hS => ?_)
  have hP : va_P D vwCl [(h0, .inr (3, [.int 0, .null, .null, .null, .null, .null]))] H := hP
  have hD : va_D A [(h0, .inr (3, [.int 0, .null, .null, .null, .null, .null]))] := hD
  refine lv_aload_n hx hb dc_Ha_init_9 rfl (lv_at hl 0 rfl) ?_
  refine lv_bipush hx hb (v := (12 : Int32)) dc_Ha_init_10 rfl ?_
  refine va_newa (atype := .int) (ty := .int) (N' := 12) (a0 := (12, .inl (fun _ => 0))) hx hb (ht (.arrayClass .int) kw_aint) rfl hK hP hD hS hA (fun _ => rfl) (by decide) rfl (by decide) (Nat.le_of_ble_eq_true rfl) (Nat.le_of_ble_eq_true rfl) dc_Ha_init_12 (fun q12 cA12 H hK hP hD hS => ?_)
  have hP : va_P D vwCl [(h0, .inr (3, [.int 0, .null, .null, .null, .null, .null])), (q12, .inl (cA12, 12, .inl (fun _ => 0)))] H := hP
  have hD : va_D A [(h0, .inr (3, [.int 0, .null, .null, .null, .null, .null])), (q12, .inl (cA12, 12, .inl (fun _ => 0)))] := hD
  have hK : va_K D vwCl [(cA12, .int)] s := hK
  refine va_putF (D := D) (ci := 3) (v := .ref q12) (ty := .array .int) (C := RX3) (T := TX3) (N := 6) hx hb ht (pm_cls (ci := 3) rfl).1 tyX3 tyX3_ok nmX3 hown hK hP hD hS 0 rfl rfl 1 (by decide) (ht (.fieldLink "PractisedWrong$Hands" 15 "PractisedWrong$Hands" "right" "[I") (pm_inW (wi := 114) (by decide +kernel) (by decide +kernel))) (fun _ h9 => h9) rfl hin rfl (by decide +kernel) rfl rfl (Nat.le_of_ble_eq_true rfl) dc_Ha_init_14 (fun H locs hP hD hS => ?_)
  have hP : va_P D vwCl [(h0, .inr (3, [.int 0, .ref q12, .null, .null, .null, .null])), (q12, .inl (cA12, 12, .inl (fun _ => 0)))] H := hP
  have hD : va_D A [(h0, .inr (3, [.int 0, .ref q12, .null, .null, .null, .null])), (q12, .inl (cA12, 12, .inl (fun _ => 0)))] := hD
  refine lv_aload_n hx hb dc_Ha_init_17 rfl (lv_at hl 0 rfl) ?_
  refine lv_bipush hx hb (v := (12 : Int32)) dc_Ha_init_18 rfl ?_
  refine va_newa (atype := .int) (ty := .int) (N' := 12) (a0 := (12, .inl (fun _ => 0))) hx hb (ht (.arrayClass .int) kw_aint) rfl hK hP hD hS hA (fun _ => rfl) (by decide) rfl (by decide) (Nat.le_of_ble_eq_true rfl) (Nat.le_of_ble_eq_true rfl) dc_Ha_init_20 (fun q20 cA20 H hK hP hD hS => ?_)
  have hP : va_P D vwCl [(h0, .inr (3, [.int 0, .ref q12, .null, .null, .null, .null])), (q12, .inl (cA12, 12, .inl (fun _ => 0))), (q20, .inl (cA20, 12, .inl (fun _ => 0)))] H := hP
  have hD : va_D A [(h0, .inr (3, [.int 0, .ref q12, .null, .null, .null, .null])), (q12, .inl (cA12, 12, .inl (fun _ => 0))), (q20, .inl (cA20, 12, .inl (fun _ => 0)))] := hD
  have hK : va_K D vwCl [(cA12, .int), (cA20, .int)] s := hK
  refine va_putF (D := D) (ci := 3) (v := .ref q20) (ty := .array .int) (C := RX3) (T := TX3) (N := 6) hx hb ht (pm_cls (ci := 3) rfl).1 tyX3 tyX3_ok nmX3 hown hK hP hD hS 0 rfl rfl 2 (by decide) (ht (.fieldLink "PractisedWrong$Hands" 19 "PractisedWrong$Hands" "wrong" "[I") (pm_inW (wi := 118) (by decide +kernel) (by decide +kernel))) (fun _ h9 => h9) rfl hin rfl (by decide +kernel) rfl rfl (Nat.le_of_ble_eq_true rfl) dc_Ha_init_22 (fun H locs hP hD hS => ?_)
  have hP : va_P D vwCl [(h0, .inr (3, [.int 0, .ref q12, .ref q20, .null, .null, .null])), (q12, .inl (cA12, 12, .inl (fun _ => 0))), (q20, .inl (cA20, 12, .inl (fun _ => 0)))] H := hP
  have hD : va_D A [(h0, .inr (3, [.int 0, .ref q12, .ref q20, .null, .null, .null])), (q12, .inl (cA12, 12, .inl (fun _ => 0))), (q20, .inl (cA20, 12, .inl (fun _ => 0)))] := hD
  refine lv_aload_n hx hb dc_Ha_init_25 rfl (lv_at hl 0 rfl) ?_
  refine lv_bipush hx hb (v := (12 : Int32)) dc_Ha_init_26 rfl ?_
  refine va_newa (atype := .int) (ty := .int) (N' := 12) (a0 := (12, .inl (fun _ => 0))) hx hb (ht (.arrayClass .int) kw_aint) rfl hK hP hD hS hA (fun _ => rfl) (by decide) rfl (by decide) (Nat.le_of_ble_eq_true rfl) (Nat.le_of_ble_eq_true rfl) dc_Ha_init_28 (fun q28 cA28 H hK hP hD hS => ?_)
  have hP : va_P D vwCl [(h0, .inr (3, [.int 0, .ref q12, .ref q20, .null, .null, .null])), (q12, .inl (cA12, 12, .inl (fun _ => 0))), (q20, .inl (cA20, 12, .inl (fun _ => 0))), (q28, .inl (cA28, 12, .inl (fun _ => 0)))] H := hP
  have hD : va_D A [(h0, .inr (3, [.int 0, .ref q12, .ref q20, .null, .null, .null])), (q12, .inl (cA12, 12, .inl (fun _ => 0))), (q20, .inl (cA20, 12, .inl (fun _ => 0))), (q28, .inl (cA28, 12, .inl (fun _ => 0)))] := hD
  have hK : va_K D vwCl [(cA12, .int), (cA20, .int), (cA28, .int)] s := hK
  refine va_putF (D := D) (ci := 3) (v := .ref q28) (ty := .array .int) (C := RX3) (T := TX3) (N := 6) hx hb ht (pm_cls (ci := 3) rfl).1 tyX3 tyX3_ok nmX3 hown hK hP hD hS 0 rfl rfl 3 (by decide) (ht (.fieldLink "PractisedWrong$Hands" 22 "PractisedWrong$Hands" "marked" "[I") (pm_inW (wi := 123) (by decide +kernel) (by decide +kernel))) (fun _ h9 => h9) rfl hin rfl (by decide +kernel) rfl rfl (Nat.le_of_ble_eq_true rfl) dc_Ha_init_30 (fun H locs hP hD hS => ?_)
  have hP : va_P D vwCl [(h0, .inr (3, [.int 0, .ref q12, .ref q20, .ref q28, .null, .null])), (q12, .inl (cA12, 12, .inl (fun _ => 0))), (q20, .inl (cA20, 12, .inl (fun _ => 0))), (q28, .inl (cA28, 12, .inl (fun _ => 0)))] H := hP
  have hD : va_D A [(h0, .inr (3, [.int 0, .ref q12, .ref q20, .ref q28, .null, .null])), (q12, .inl (cA12, 12, .inl (fun _ => 0))), (q20, .inl (cA20, 12, .inl (fun _ => 0))), (q28, .inl (cA28, 12, .inl (fun _ => 0)))] := hD
  refine lv_aload_n hx hb dc_Ha_init_33 rfl (lv_at hl 0 rfl) ?_
  refine lv_bipush hx hb (v := (12 : Int32)) dc_Ha_init_34 rfl ?_
  refine va_newa (atype := .int) (ty := .int) (N' := 12) (a0 := (12, .inl (fun _ => 0))) hx hb (ht (.arrayClass .int) kw_aint) rfl hK hP hD hS hA (fun _ => rfl) (by decide) rfl (by decide) (Nat.le_of_ble_eq_true rfl) (Nat.le_of_ble_eq_true rfl) dc_Ha_init_36 (fun q36 cA36 H hK hP hD hS => ?_)
  have hP : va_P D vwCl [(h0, .inr (3, [.int 0, .ref q12, .ref q20, .ref q28, .null, .null])), (q12, .inl (cA12, 12, .inl (fun _ => 0))), (q20, .inl (cA20, 12, .inl (fun _ => 0))), (q28, .inl (cA28, 12, .inl (fun _ => 0))), (q36, .inl (cA36, 12, .inl (fun _ => 0)))] H := hP
  have hD : va_D A [(h0, .inr (3, [.int 0, .ref q12, .ref q20, .ref q28, .null, .null])), (q12, .inl (cA12, 12, .inl (fun _ => 0))), (q20, .inl (cA20, 12, .inl (fun _ => 0))), (q28, .inl (cA28, 12, .inl (fun _ => 0))), (q36, .inl (cA36, 12, .inl (fun _ => 0)))] := hD
  have hK : va_K D vwCl [(cA12, .int), (cA20, .int), (cA28, .int), (cA36, .int)] s := hK
  refine va_putF (D := D) (ci := 3) (v := .ref q36) (ty := .array .int) (C := RX3) (T := TX3) (N := 6) hx hb ht (pm_cls (ci := 3) rfl).1 tyX3 tyX3_ok nmX3 hown hK hP hD hS 0 rfl rfl 4 (by decide) (ht (.fieldLink "PractisedWrong$Hands" 25 "PractisedWrong$Hands" "played" "[I") (pm_inW (wi := 126) (by decide +kernel) (by decide +kernel))) (fun _ h9 => h9) rfl hin rfl (by decide +kernel) rfl rfl (Nat.le_of_ble_eq_true rfl) dc_Ha_init_38 (fun H locs hP hD hS => ?_)
  have hP : va_P D vwCl [(h0, .inr (3, [.int 0, .ref q12, .ref q20, .ref q28, .ref q36, .null])), (q12, .inl (cA12, 12, .inl (fun _ => 0))), (q20, .inl (cA20, 12, .inl (fun _ => 0))), (q28, .inl (cA28, 12, .inl (fun _ => 0))), (q36, .inl (cA36, 12, .inl (fun _ => 0)))] H := hP
  have hD : va_D A [(h0, .inr (3, [.int 0, .ref q12, .ref q20, .ref q28, .ref q36, .null])), (q12, .inl (cA12, 12, .inl (fun _ => 0))), (q20, .inl (cA20, 12, .inl (fun _ => 0))), (q28, .inl (cA28, 12, .inl (fun _ => 0))), (q36, .inl (cA36, 12, .inl (fun _ => 0)))] := hD
  refine lv_aload_n hx hb dc_Ha_init_41 rfl (lv_at hl 0 rfl) ?_
  refine lv_bipush hx hb (v := (12 : Int32)) dc_Ha_init_42 rfl ?_
  refine va_newa (atype := .int) (ty := .int) (N' := 12) (a0 := (12, .inl (fun _ => 0))) hx hb (ht (.arrayClass .int) kw_aint) rfl hK hP hD hS hA (fun _ => rfl) (by decide) rfl (by decide) (Nat.le_of_ble_eq_true rfl) (Nat.le_of_ble_eq_true rfl) dc_Ha_init_44 (fun q44 cA44 H hK hP hD hS => ?_)
  have hP : va_P D vwCl [(h0, .inr (3, [.int 0, .ref q12, .ref q20, .ref q28, .ref q36, .null])), (q12, .inl (cA12, 12, .inl (fun _ => 0))), (q20, .inl (cA20, 12, .inl (fun _ => 0))), (q28, .inl (cA28, 12, .inl (fun _ => 0))), (q36, .inl (cA36, 12, .inl (fun _ => 0))), (q44, .inl (cA44, 12, .inl (fun _ => 0)))] H := hP
  have hD : va_D A [(h0, .inr (3, [.int 0, .ref q12, .ref q20, .ref q28, .ref q36, .null])), (q12, .inl (cA12, 12, .inl (fun _ => 0))), (q20, .inl (cA20, 12, .inl (fun _ => 0))), (q28, .inl (cA28, 12, .inl (fun _ => 0))), (q36, .inl (cA36, 12, .inl (fun _ => 0))), (q44, .inl (cA44, 12, .inl (fun _ => 0)))] := hD
  have hK : va_K D vwCl [(cA12, .int), (cA20, .int), (cA28, .int), (cA36, .int), (cA44, .int)] s := hK
  refine va_putF (D := D) (ci := 3) (v := .ref q44) (ty := .array .int) (C := RX3) (T := TX3) (N := 6) hx hb ht (pm_cls (ci := 3) rfl).1 tyX3 tyX3_ok nmX3 hown hK hP hD hS 0 rfl rfl 5 (by decide) (ht (.fieldLink "PractisedWrong$Hands" 28 "PractisedWrong$Hands" "cameRight" "[I") (pm_inW (wi := 129) (by decide +kernel) (by decide +kernel))) (fun _ h9 => h9) rfl hin rfl (by decide +kernel) rfl rfl (Nat.le_of_ble_eq_true rfl) dc_Ha_init_46 (fun H locs hP hD hS => ?_)
  have hP : va_P D vwCl [(h0, .inr (3, [.int 0, .ref q12, .ref q20, .ref q28, .ref q36, .ref q44])), (q12, .inl (cA12, 12, .inl (fun _ => 0))), (q20, .inl (cA20, 12, .inl (fun _ => 0))), (q28, .inl (cA28, 12, .inl (fun _ => 0))), (q36, .inl (cA36, 12, .inl (fun _ => 0))), (q44, .inl (cA44, 12, .inl (fun _ => 0)))] H := hP
  have hD : va_D A [(h0, .inr (3, [.int 0, .ref q12, .ref q20, .ref q28, .ref q36, .ref q44])), (q12, .inl (cA12, 12, .inl (fun _ => 0))), (q20, .inl (cA20, 12, .inl (fun _ => 0))), (q28, .inl (cA28, 12, .inl (fun _ => 0))), (q36, .inl (cA36, 12, .inl (fun _ => 0))), (q44, .inl (cA44, 12, .inl (fun _ => 0)))] := hD
  have hP9 := hP
  have hD9 := hD
  exact W.vret hx hb hr (fun t ht9 hW => ⟨⟨(), rfl, trivial, q12, q20, q28, q36, q44, cA12, cA20, cA28, cA36, cA44, by rw [ht9]; exact hP9, va_K.moved hW.alike hK, hD9⟩, hS.F ht9⟩) hS.2.2 dc_Ha_init_49
theorem dc_Sh_init_0 : decode (pm_by M_Sh_init) 0 = .ok (.aload_n 0, 1) := by decide +kernel
theorem dc_Sh_init_1 : decode (pm_by M_Sh_init) 1 = .ok (.invokespecial 3, 3) := by decide +kernel
theorem dc_Sh_init_4 : decode (pm_by M_Sh_init) 4 = .ok (.aload_n 0, 1) := by decide +kernel
theorem dc_Sh_init_5 : decode (pm_by M_Sh_init) 5 = .ok (.iconst (-1), 1) := by decide +kernel
theorem dc_Sh_init_6 : decode (pm_by M_Sh_init) 6 = .ok (.putfield 9, 3) := by decide +kernel
theorem dc_Sh_init_9 : decode (pm_by M_Sh_init) 9 = .ok (.aload_n 0, 1) := by decide +kernel
theorem dc_Sh_init_10 : decode (pm_by M_Sh_init) 10 = .ok (.iconst (-1), 1) := by decide +kernel
theorem dc_Sh_init_11 : decode (pm_by M_Sh_init) 11 = .ok (.putfield 15, 3) := by decide +kernel
theorem dc_Sh_init_14 : decode (pm_by M_Sh_init) 14 = .ok (.aload_n 0, 1) := by decide +kernel
theorem dc_Sh_init_15 : decode (pm_by M_Sh_init) 15 = .ok (.iconst 0, 1) := by decide +kernel
theorem dc_Sh_init_16 : decode (pm_by M_Sh_init) 16 = .ok (.putfield 18, 3) := by decide +kernel
theorem dc_Sh_init_19 : decode (pm_by M_Sh_init) 19 = .ok (.aload_n 0, 1) := by decide +kernel
theorem dc_Sh_init_20 : decode (pm_by M_Sh_init) 20 = .ok (.bipush 60, 2) := by decide +kernel
theorem dc_Sh_init_22 : decode (pm_by M_Sh_init) 22 = .ok (.newarray .long, 2) := by decide +kernel
theorem dc_Sh_init_24 : decode (pm_by M_Sh_init) 24 = .ok (.putfield 21, 3) := by decide +kernel
theorem dc_Sh_init_27 : decode (pm_by M_Sh_init) 27 = .ok (.return_, 1) := by decide +kernel
abbrev at_Sh_init (D : va_G) (A : Nat → Prop) (h0 : Nat) (t : State) : Prop := ∃ (q22 : Nat) (cA22 : ClassId), va_P D vwCl [(h0, .inr (7, [.int (-1), .int (-1), .int 0, .ref q22])), (q22, .inl (cA22, 60, .inr (.inl (fun _ => 0))))] t.heap ∧ va_K D vwCl [(cA22, .long)] t ∧ va_D A [(h0, .inr (7, [.int (-1), .int (-1), .int 0, .ref q22])), (q22, .inl (cA22, 60, .inr (.inl (fun _ => 0))))]
set_option maxHeartbeats 4000000 in
set_option maxRecDepth 100000 in
theorem c_Sh_init (l : Launch) (D : va_G) (h0 sz : Nat) : Met l (pm_nm M_Sh_init) (pm_wy M_Sh_init) ({ frames := 1, cells := 1, slots := 60, locals := 12 }) (va_Pc [.ref h0] (fun U => U.heap.size = sz ∧ va_P D vwCl [(h0, .inr (7, [.int 0, .int 0, .int 0, .null]))] U.heap ∧ va_K D vwCl [] U ∧ va_D (fun _ => True) [(h0, .inr (7, [.int 0, .int 0, .int 0, .null]))])) (va_Qv (fun _ : Unit => True) (fun _ t => at_Sh_init D (va_A [(h0, .inr (7, [.int 0, .int 0, .int 0, .null]))] sz) h0 t) (va_A [(h0, .inr (7, [.int 0, .int 0, .int 0, .null]))] sz)) 1 60 (va_A [(h0, .inr (7, [.int 0, .int 0, .int 0, .null]))] sz) := by
  refine Met.ofW (cc := pm_by M_Sh_init) (maxL := 1) (ret := none) (by decide) rfl ?_
  intro p e s m args below meth c s₁ B hml hv
  obtain ⟨rfl, hsz, hP, hK, hD0⟩ := hv
  have hx := B.exec
  have hb := B.bytes
  have hr := B.returns
  have hts := atoms_spec (ws := pm_wy M_Sh_init) B.pre
  have ht : ∀ w ∈ pm_tbl, w.before _ s = true := fun w hw => hts w (List.mem_cons_of_mem _ hw)
  have hown : s.vm.findClass "PractisedWrong$Shelf" = some m.cls := findClass_of_methodNamed B.named
  have hin : meth.name = "<init>" := (name_of_methodNamed B.named B.method).1
  subst hsz
  have hD := hD0.self (sz := s.heap.size)
  generalize hAe : va_A [(h0, .inr (7, [.int 0, .int 0, .int 0, .null]))] s.heap.size = A at hD ⊢
  have hA : ∀ q : Nat, s.heap.size ≤ q → A q := fun q h => by rw [← hAe]; exact Or.inr h
  have hS : va_S A s.heap s.heap [] := va_S.rf
  have hP : va_P D vwCl [(h0, .inr (7, [.int 0, .int 0, .int 0, .null]))] s.heap := hP
  have hl := lv_entry ([.ref h0]) (n := 1) (Nat.le_of_ble_eq_true rfl)
  rw [lg_entry_eq]
  generalize (lg_sl ([.ref h0]) ++ List.replicate (1 - (lg_sl ([.ref h0])).length) Slot.unset).toArray = ls at hl ⊢
  have hl : lv_has ls 1 [(0, .ref h0)] := hl
  refine lv_aload_n hx hb dc_Sh_init_0 rfl (lv_at hl 0 rfl) ?_
  refine W.objInit hx hb hown (ht (.methodLink "PractisedWrong$Shelf" 3 objectInit) (pm_inW (wi := 326) (by decide +kernel) (by decide +kernel))) (ht (.instanceMethod objectInit) kw_oi) (ht _ kw_oc) rfl (by rw [hml]; exact hl.1) rfl dc_Sh_init_1 (Nat.le_of_ble_eq_true rfl) (Nat.le_of_ble_eq_true rfl) ?_
  refine W.eq (g2 := F0 m 4 ls []) rfl ?_
  refine lv_aload_n hx hb dc_Sh_init_4 rfl (lv_at hl 0 rfl) ?_
  refine lv_iconst hx hb (v := (-1 : Int32)) dc_Sh_init_5 rfl ?_
  refine va_put (D := D) (ci := 7) (v := .int (-1)) (ty := .int) (C := RX7) (T := TX7) (N := 4) hx hb ht (pm_cls (ci := 7) rfl).1 tyX7 tyX7_ok nmX7 hown hK hP hD hS 0 rfl rfl 0 (by decide) (ht (.fieldLink "PractisedWrong$Shelf" 9 "PractisedWrong$Shelf" "kept" "I") (pm_inW (wi := 327) (by decide +kernel) (by decide +kernel))) (fun _ h9 => h9) rfl (by decide +kernel) rfl rfl (Nat.le_of_ble_eq_true rfl) dc_Sh_init_6 (fun H locs hP hD hS => ?_)
  have hP : va_P D vwCl [(h0, .inr (7, [.int (-1), .int 0, .int 0, .null]))] H := hP
  have hD : va_D A [(h0, .inr (7, [.int (-1), .int 0, .int 0, .null]))] := hD
  refine lv_aload_n hx hb dc_Sh_init_9 rfl (lv_at hl 0 rfl) ?_
  refine lv_iconst hx hb (v := (-1 : Int32)) dc_Sh_init_10 rfl ?_
  refine va_put (D := D) (ci := 7) (v := .int (-1)) (ty := .int) (C := RX7) (T := TX7) (N := 4) hx hb ht (pm_cls (ci := 7) rfl).1 tyX7 tyX7_ok nmX7 hown hK hP hD hS 0 rfl rfl 1 (by decide) (ht (.fieldLink "PractisedWrong$Shelf" 15 "PractisedWrong$Shelf" "sort" "I") (pm_inW (wi := 329) (by decide +kernel) (by decide +kernel))) (fun _ h9 => h9) rfl (by decide +kernel) rfl rfl (Nat.le_of_ble_eq_true rfl) dc_Sh_init_11 (fun H locs hP hD hS => ?_)
  have hP : va_P D vwCl [(h0, .inr (7, [.int (-1), .int (-1), .int 0, .null]))] H := hP
  have hD : va_D A [(h0, .inr (7, [.int (-1), .int (-1), .int 0, .null]))] := hD
  refine lv_aload_n hx hb dc_Sh_init_14 rfl (lv_at hl 0 rfl) ?_
  refine lv_iconst hx hb (v := (0 : Int32)) dc_Sh_init_15 rfl ?_
  refine va_put (D := D) (ci := 7) (v := .int 0) (ty := .int) (C := RX7) (T := TX7) (N := 4) hx hb ht (pm_cls (ci := 7) rfl).1 tyX7 tyX7_ok nmX7 hown hK hP hD hS 0 rfl rfl 2 (by decide) (ht (.fieldLink "PractisedWrong$Shelf" 18 "PractisedWrong$Shelf" "length" "I") (pm_inW (wi := 331) (by decide +kernel) (by decide +kernel))) (fun _ h9 => h9) rfl (by decide +kernel) rfl rfl (Nat.le_of_ble_eq_true rfl) dc_Sh_init_16 (fun H locs hP hD hS => ?_)
  have hP : va_P D vwCl [(h0, .inr (7, [.int (-1), .int (-1), .int 0, .null]))] H := hP
  have hD : va_D A [(h0, .inr (7, [.int (-1), .int (-1), .int 0, .null]))] := hD
  refine lv_aload_n hx hb dc_Sh_init_19 rfl (lv_at hl 0 rfl) ?_
  refine lv_bipush hx hb (v := (60 : Int32)) dc_Sh_init_20 rfl ?_
  refine va_newa (atype := .long) (ty := .long) (N' := 60) (a0 := (60, .inr (.inl (fun _ => 0)))) hx hb (ht (.arrayClass .long) kw_along) rfl hK hP hD hS hA (fun _ => rfl) (by decide) rfl (by decide) (Nat.le_of_ble_eq_true rfl) (Nat.le_of_ble_eq_true rfl) dc_Sh_init_22 (fun q22 cA22 H hK hP hD hS => ?_)
  have hP : va_P D vwCl [(h0, .inr (7, [.int (-1), .int (-1), .int 0, .null])), (q22, .inl (cA22, 60, .inr (.inl (fun _ => 0))))] H := hP
  have hD : va_D A [(h0, .inr (7, [.int (-1), .int (-1), .int 0, .null])), (q22, .inl (cA22, 60, .inr (.inl (fun _ => 0))))] := hD
  have hK : va_K D vwCl [(cA22, .long)] s := hK
  refine va_putF (D := D) (ci := 7) (v := .ref q22) (ty := .array .long) (C := RX7) (T := TX7) (N := 4) hx hb ht (pm_cls (ci := 7) rfl).1 tyX7 tyX7_ok nmX7 hown hK hP hD hS 0 rfl rfl 3 (by decide) (ht (.fieldLink "PractisedWrong$Shelf" 21 "PractisedWrong$Shelf" "elements" "[J") (pm_inW (wi := 335) (by decide +kernel) (by decide +kernel))) (fun _ h9 => h9) rfl hin rfl (by decide +kernel) rfl rfl (Nat.le_of_ble_eq_true rfl) dc_Sh_init_24 (fun H locs hP hD hS => ?_)
  have hP : va_P D vwCl [(h0, .inr (7, [.int (-1), .int (-1), .int 0, .ref q22])), (q22, .inl (cA22, 60, .inr (.inl (fun _ => 0))))] H := hP
  have hD : va_D A [(h0, .inr (7, [.int (-1), .int (-1), .int 0, .ref q22])), (q22, .inl (cA22, 60, .inr (.inl (fun _ => 0))))] := hD
  have hP9 := hP
  have hD9 := hD
  exact W.vret hx hb hr (fun t ht9 hW => ⟨⟨(), rfl, trivial, q22, cA22, by rw [ht9]; exact hP9, va_K.moved hW.alike hK, hD9⟩, hS.F ht9⟩) hS.2.2 dc_Sh_init_27
theorem dc_Bo_init_0 : decode (pm_by M_Bo_init) 0 = .ok (.aload_n 0, 1) := by decide +kernel
theorem dc_Bo_init_1 : decode (pm_by M_Bo_init) 1 = .ok (.invokespecial 3, 3) := by decide +kernel
theorem dc_Bo_init_4 : decode (pm_by M_Bo_init) 4 = .ok (.aload_n 0, 1) := by decide +kernel
theorem dc_Bo_init_5 : decode (pm_by M_Bo_init) 5 = .ok (.bipush 50, 2) := by decide +kernel
theorem dc_Bo_init_7 : decode (pm_by M_Bo_init) 7 = .ok (.newarray .int, 2) := by decide +kernel
theorem dc_Bo_init_9 : decode (pm_by M_Bo_init) 9 = .ok (.putfield 11, 3) := by decide +kernel
theorem dc_Bo_init_12 : decode (pm_by M_Bo_init) 12 = .ok (.aload_n 0, 1) := by decide +kernel
theorem dc_Bo_init_13 : decode (pm_by M_Bo_init) 13 = .ok (.iconst 0, 1) := by decide +kernel
theorem dc_Bo_init_14 : decode (pm_by M_Bo_init) 14 = .ok (.putfield 15, 3) := by decide +kernel
theorem dc_Bo_init_17 : decode (pm_by M_Bo_init) 17 = .ok (.aload_n 0, 1) := by decide +kernel
theorem dc_Bo_init_18 : decode (pm_by M_Bo_init) 18 = .ok (.bipush 24, 2) := by decide +kernel
theorem dc_Bo_init_20 : decode (pm_by M_Bo_init) 20 = .ok (.newarray .int, 2) := by decide +kernel
theorem dc_Bo_init_22 : decode (pm_by M_Bo_init) 22 = .ok (.putfield 19, 3) := by decide +kernel
theorem dc_Bo_init_25 : decode (pm_by M_Bo_init) 25 = .ok (.aload_n 0, 1) := by decide +kernel
theorem dc_Bo_init_26 : decode (pm_by M_Bo_init) 26 = .ok (.iconst 0, 1) := by decide +kernel
theorem dc_Bo_init_27 : decode (pm_by M_Bo_init) 27 = .ok (.putfield 22, 3) := by decide +kernel
theorem dc_Bo_init_30 : decode (pm_by M_Bo_init) 30 = .ok (.aload_n 0, 1) := by decide +kernel
theorem dc_Bo_init_31 : decode (pm_by M_Bo_init) 31 = .ok (.iconst 0, 1) := by decide +kernel
theorem dc_Bo_init_32 : decode (pm_by M_Bo_init) 32 = .ok (.putfield 25, 3) := by decide +kernel
theorem dc_Bo_init_35 : decode (pm_by M_Bo_init) 35 = .ok (.return_, 1) := by decide +kernel
abbrev at_Bo_init (D : va_G) (A : Nat → Prop) (h0 : Nat) (t : State) : Prop := ∃ (q7 q20 : Nat) (cA7 cA20 : ClassId), va_P D vwCl [(h0, .inr (0, [.ref q7, .int 0, .ref q20, .int 0, .int 0])), (q7, .inl (cA7, 50, .inl (fun _ => 0))), (q20, .inl (cA20, 24, .inl (fun _ => 0)))] t.heap ∧ va_K D vwCl [(cA7, .int), (cA20, .int)] t ∧ va_D A [(h0, .inr (0, [.ref q7, .int 0, .ref q20, .int 0, .int 0])), (q7, .inl (cA7, 50, .inl (fun _ => 0))), (q20, .inl (cA20, 24, .inl (fun _ => 0)))]
set_option maxHeartbeats 4000000 in
set_option maxRecDepth 100000 in
theorem c_Bo_init (l : Launch) (D : va_G) (h0 sz : Nat) : Met l (pm_nm M_Bo_init) (pm_wy M_Bo_init) ({ frames := 1, cells := 2, slots := 74, locals := 12 }) (va_Pc [.ref h0] (fun U => U.heap.size = sz ∧ va_P D vwCl [(h0, .inr (0, [.null, .int 0, .null, .int 0, .int 0]))] U.heap ∧ va_K D vwCl [] U ∧ va_D (fun _ => True) [(h0, .inr (0, [.null, .int 0, .null, .int 0, .int 0]))])) (va_Qv (fun _ : Unit => True) (fun _ t => at_Bo_init D (va_A [(h0, .inr (0, [.null, .int 0, .null, .int 0, .int 0]))] sz) h0 t) (va_A [(h0, .inr (0, [.null, .int 0, .null, .int 0, .int 0]))] sz)) 2 74 (va_A [(h0, .inr (0, [.null, .int 0, .null, .int 0, .int 0]))] sz) := by
  refine Met.ofW (cc := pm_by M_Bo_init) (maxL := 1) (ret := none) (by decide) rfl ?_
  intro p e s m args below meth c s₁ B hml hv
  obtain ⟨rfl, hsz, hP, hK, hD0⟩ := hv
  have hx := B.exec
  have hb := B.bytes
  have hr := B.returns
  have hts := atoms_spec (ws := pm_wy M_Bo_init) B.pre
  have ht : ∀ w ∈ pm_tbl, w.before _ s = true := fun w hw => hts w (List.mem_cons_of_mem _ hw)
  have hown : s.vm.findClass "PractisedWrong$Bodies" = some m.cls := findClass_of_methodNamed B.named
  have hin : meth.name = "<init>" := (name_of_methodNamed B.named B.method).1
  subst hsz
  have hD := hD0.self (sz := s.heap.size)
  generalize hAe : va_A [(h0, .inr (0, [.null, .int 0, .null, .int 0, .int 0]))] s.heap.size = A at hD ⊢
  have hA : ∀ q : Nat, s.heap.size ≤ q → A q := fun q h => by rw [← hAe]; exact Or.inr h
  have hS : va_S A s.heap s.heap [] := va_S.rf
  have hP : va_P D vwCl [(h0, .inr (0, [.null, .int 0, .null, .int 0, .int 0]))] s.heap := hP
  have hl := lv_entry ([.ref h0]) (n := 1) (Nat.le_of_ble_eq_true rfl)
  rw [lg_entry_eq]
  generalize (lg_sl ([.ref h0]) ++ List.replicate (1 - (lg_sl ([.ref h0])).length) Slot.unset).toArray = ls at hl ⊢
  have hl : lv_has ls 1 [(0, .ref h0)] := hl
  refine lv_aload_n hx hb dc_Bo_init_0 rfl (lv_at hl 0 rfl) ?_
  refine W.objInit hx hb hown (ht (.methodLink "PractisedWrong$Bodies" 3 objectInit) (pm_inW (wi := 299) (by decide +kernel) (by decide +kernel))) (ht (.instanceMethod objectInit) kw_oi) (ht _ kw_oc) rfl (by rw [hml]; exact hl.1) rfl dc_Bo_init_1 (Nat.le_of_ble_eq_true rfl) (Nat.le_of_ble_eq_true rfl) ?_
  refine W.eq (g2 := F0 m 4 ls []) rfl ?_
  refine lv_aload_n hx hb dc_Bo_init_4 rfl (lv_at hl 0 rfl) ?_
  refine lv_bipush hx hb (v := (50 : Int32)) dc_Bo_init_5 rfl ?_
  refine va_newa (atype := .int) (ty := .int) (N' := 50) (a0 := (50, .inl (fun _ => 0))) hx hb (ht (.arrayClass .int) kw_aint) rfl hK hP hD hS hA (fun _ => rfl) (by decide) rfl (by decide) (Nat.le_of_ble_eq_true rfl) (Nat.le_of_ble_eq_true rfl) dc_Bo_init_7 (fun q7 cA7 H hK hP hD hS => ?_)
  have hP : va_P D vwCl [(h0, .inr (0, [.null, .int 0, .null, .int 0, .int 0])), (q7, .inl (cA7, 50, .inl (fun _ => 0)))] H := hP
  have hD : va_D A [(h0, .inr (0, [.null, .int 0, .null, .int 0, .int 0])), (q7, .inl (cA7, 50, .inl (fun _ => 0)))] := hD
  have hK : va_K D vwCl [(cA7, .int)] s := hK
  refine va_putF (D := D) (ci := 0) (v := .ref q7) (ty := .array .int) (C := RX0) (T := TX0) (N := 5) hx hb ht (pm_cls (ci := 0) rfl).1 tyX0 tyX0_ok nmX0 hown hK hP hD hS 0 rfl rfl 0 (by decide) (ht (.fieldLink "PractisedWrong$Bodies" 11 "PractisedWrong$Bodies" "kinds" "[I") (pm_inW (wi := 300) (by decide +kernel) (by decide +kernel))) (fun _ h9 => h9) rfl hin rfl (by decide +kernel) rfl rfl (Nat.le_of_ble_eq_true rfl) dc_Bo_init_9 (fun H locs hP hD hS => ?_)
  have hP : va_P D vwCl [(h0, .inr (0, [.ref q7, .int 0, .null, .int 0, .int 0])), (q7, .inl (cA7, 50, .inl (fun _ => 0)))] H := hP
  have hD : va_D A [(h0, .inr (0, [.ref q7, .int 0, .null, .int 0, .int 0])), (q7, .inl (cA7, 50, .inl (fun _ => 0)))] := hD
  refine lv_aload_n hx hb dc_Bo_init_12 rfl (lv_at hl 0 rfl) ?_
  refine lv_iconst hx hb (v := (0 : Int32)) dc_Bo_init_13 rfl ?_
  refine va_put (D := D) (ci := 0) (v := .int 0) (ty := .int) (C := RX0) (T := TX0) (N := 5) hx hb ht (pm_cls (ci := 0) rfl).1 tyX0 tyX0_ok nmX0 hown hK hP hD hS 0 rfl rfl 1 (by decide) (ht (.fieldLink "PractisedWrong$Bodies" 15 "PractisedWrong$Bodies" "size" "I") (pm_inW (wi := 301) (by decide +kernel) (by decide +kernel))) (fun _ h9 => h9) rfl (by decide +kernel) rfl rfl (Nat.le_of_ble_eq_true rfl) dc_Bo_init_14 (fun H locs hP hD hS => ?_)
  have hP : va_P D vwCl [(h0, .inr (0, [.ref q7, .int 0, .null, .int 0, .int 0])), (q7, .inl (cA7, 50, .inl (fun _ => 0)))] H := hP
  have hD : va_D A [(h0, .inr (0, [.ref q7, .int 0, .null, .int 0, .int 0])), (q7, .inl (cA7, 50, .inl (fun _ => 0)))] := hD
  refine lv_aload_n hx hb dc_Bo_init_17 rfl (lv_at hl 0 rfl) ?_
  refine lv_bipush hx hb (v := (24 : Int32)) dc_Bo_init_18 rfl ?_
  refine va_newa (atype := .int) (ty := .int) (N' := 24) (a0 := (24, .inl (fun _ => 0))) hx hb (ht (.arrayClass .int) kw_aint) rfl hK hP hD hS hA (fun _ => rfl) (by decide) rfl (by decide) (Nat.le_of_ble_eq_true rfl) (Nat.le_of_ble_eq_true rfl) dc_Bo_init_20 (fun q20 cA20 H hK hP hD hS => ?_)
  have hP : va_P D vwCl [(h0, .inr (0, [.ref q7, .int 0, .null, .int 0, .int 0])), (q7, .inl (cA7, 50, .inl (fun _ => 0))), (q20, .inl (cA20, 24, .inl (fun _ => 0)))] H := hP
  have hD : va_D A [(h0, .inr (0, [.ref q7, .int 0, .null, .int 0, .int 0])), (q7, .inl (cA7, 50, .inl (fun _ => 0))), (q20, .inl (cA20, 24, .inl (fun _ => 0)))] := hD
  have hK : va_K D vwCl [(cA7, .int), (cA20, .int)] s := hK
  refine va_putF (D := D) (ci := 0) (v := .ref q20) (ty := .array .int) (C := RX0) (T := TX0) (N := 5) hx hb ht (pm_cls (ci := 0) rfl).1 tyX0 tyX0_ok nmX0 hown hK hP hD hS 0 rfl rfl 2 (by decide) (ht (.fieldLink "PractisedWrong$Bodies" 19 "PractisedWrong$Bodies" "begun" "[I") (pm_inW (wi := 303) (by decide +kernel) (by decide +kernel))) (fun _ h9 => h9) rfl hin rfl (by decide +kernel) rfl rfl (Nat.le_of_ble_eq_true rfl) dc_Bo_init_22 (fun H locs hP hD hS => ?_)
  have hP : va_P D vwCl [(h0, .inr (0, [.ref q7, .int 0, .ref q20, .int 0, .int 0])), (q7, .inl (cA7, 50, .inl (fun _ => 0))), (q20, .inl (cA20, 24, .inl (fun _ => 0)))] H := hP
  have hD : va_D A [(h0, .inr (0, [.ref q7, .int 0, .ref q20, .int 0, .int 0])), (q7, .inl (cA7, 50, .inl (fun _ => 0))), (q20, .inl (cA20, 24, .inl (fun _ => 0)))] := hD
  refine lv_aload_n hx hb dc_Bo_init_25 rfl (lv_at hl 0 rfl) ?_
  refine lv_iconst hx hb (v := (0 : Int32)) dc_Bo_init_26 rfl ?_
  refine va_put (D := D) (ci := 0) (v := .int 0) (ty := .int) (C := RX0) (T := TX0) (N := 5) hx hb ht (pm_cls (ci := 0) rfl).1 tyX0 tyX0_ok nmX0 hown hK hP hD hS 0 rfl rfl 3 (by decide) (ht (.fieldLink "PractisedWrong$Bodies" 22 "PractisedWrong$Bodies" "ran" "I") (pm_inW (wi := 304) (by decide +kernel) (by decide +kernel))) (fun _ h9 => h9) rfl (by decide +kernel) rfl rfl (Nat.le_of_ble_eq_true rfl) dc_Bo_init_27 (fun H locs hP hD hS => ?_)
  have hP : va_P D vwCl [(h0, .inr (0, [.ref q7, .int 0, .ref q20, .int 0, .int 0])), (q7, .inl (cA7, 50, .inl (fun _ => 0))), (q20, .inl (cA20, 24, .inl (fun _ => 0)))] H := hP
  have hD : va_D A [(h0, .inr (0, [.ref q7, .int 0, .ref q20, .int 0, .int 0])), (q7, .inl (cA7, 50, .inl (fun _ => 0))), (q20, .inl (cA20, 24, .inl (fun _ => 0)))] := hD
  refine lv_aload_n hx hb dc_Bo_init_30 rfl (lv_at hl 0 rfl) ?_
  refine lv_iconst hx hb (v := (0 : Int32)) dc_Bo_init_31 rfl ?_
  refine va_put (D := D) (ci := 0) (v := .int 0) (ty := .int) (C := RX0) (T := TX0) (N := 5) hx hb ht (pm_cls (ci := 0) rfl).1 tyX0 tyX0_ok nmX0 hown hK hP hD hS 0 rfl rfl 4 (by decide) (ht (.fieldLink "PractisedWrong$Bodies" 25 "PractisedWrong$Bodies" "self" "I") (pm_inW (wi := 306) (by decide +kernel) (by decide +kernel))) (fun _ h9 => h9) rfl (by decide +kernel) rfl rfl (Nat.le_of_ble_eq_true rfl) dc_Bo_init_32 (fun H locs hP hD hS => ?_)
  have hP : va_P D vwCl [(h0, .inr (0, [.ref q7, .int 0, .ref q20, .int 0, .int 0])), (q7, .inl (cA7, 50, .inl (fun _ => 0))), (q20, .inl (cA20, 24, .inl (fun _ => 0)))] H := hP
  have hD : va_D A [(h0, .inr (0, [.ref q7, .int 0, .ref q20, .int 0, .int 0])), (q7, .inl (cA7, 50, .inl (fun _ => 0))), (q20, .inl (cA20, 24, .inl (fun _ => 0)))] := hD
  have hP9 := hP
  have hD9 := hD
  exact W.vret hx hb hr (fun t ht9 hW => ⟨⟨(), rfl, trivial, q7, q20, cA7, cA20, by rw [ht9]; exact hP9, va_K.moved hW.alike hK, hD9⟩, hS.F ht9⟩) hS.2.2 dc_Bo_init_35
theorem dc_Ch_init_0 : decode (pm_by M_Ch_init) 0 = .ok (.aload_n 0, 1) := by decide +kernel
theorem dc_Ch_init_1 : decode (pm_by M_Ch_init) 1 = .ok (.invokespecial 1, 3) := by decide +kernel
theorem dc_Ch_init_4 : decode (pm_by M_Ch_init) 4 = .ok (.aload_n 0, 1) := by decide +kernel
theorem dc_Ch_init_5 : decode (pm_by M_Ch_init) 5 = .ok (.bipush 40, 2) := by decide +kernel
theorem dc_Ch_init_7 : decode (pm_by M_Ch_init) 7 = .ok (.newarray .int, 2) := by decide +kernel
theorem dc_Ch_init_9 : decode (pm_by M_Ch_init) 9 = .ok (.putfield 9, 3) := by decide +kernel
theorem dc_Ch_init_12 : decode (pm_by M_Ch_init) 12 = .ok (.aload_n 0, 1) := by decide +kernel
theorem dc_Ch_init_13 : decode (pm_by M_Ch_init) 13 = .ok (.bipush 40, 2) := by decide +kernel
theorem dc_Ch_init_15 : decode (pm_by M_Ch_init) 15 = .ok (.newarray .int, 2) := by decide +kernel
theorem dc_Ch_init_17 : decode (pm_by M_Ch_init) 17 = .ok (.putfield 13, 3) := by decide +kernel
theorem dc_Ch_init_20 : decode (pm_by M_Ch_init) 20 = .ok (.aload_n 0, 1) := by decide +kernel
theorem dc_Ch_init_21 : decode (pm_by M_Ch_init) 21 = .ok (.bipush 40, 2) := by decide +kernel
theorem dc_Ch_init_23 : decode (pm_by M_Ch_init) 23 = .ok (.newarray .int, 2) := by decide +kernel
theorem dc_Ch_init_25 : decode (pm_by M_Ch_init) 25 = .ok (.putfield 16, 3) := by decide +kernel
theorem dc_Ch_init_28 : decode (pm_by M_Ch_init) 28 = .ok (.aload_n 0, 1) := by decide +kernel
theorem dc_Ch_init_29 : decode (pm_by M_Ch_init) 29 = .ok (.bipush 40, 2) := by decide +kernel
theorem dc_Ch_init_31 : decode (pm_by M_Ch_init) 31 = .ok (.newarray .int, 2) := by decide +kernel
theorem dc_Ch_init_33 : decode (pm_by M_Ch_init) 33 = .ok (.putfield 19, 3) := by decide +kernel
theorem dc_Ch_init_36 : decode (pm_by M_Ch_init) 36 = .ok (.aload_n 0, 1) := by decide +kernel
theorem dc_Ch_init_37 : decode (pm_by M_Ch_init) 37 = .ok (.iconst 0, 1) := by decide +kernel
theorem dc_Ch_init_38 : decode (pm_by M_Ch_init) 38 = .ok (.putfield 22, 3) := by decide +kernel
theorem dc_Ch_init_41 : decode (pm_by M_Ch_init) 41 = .ok (.aload_n 0, 1) := by decide +kernel
theorem dc_Ch_init_42 : decode (pm_by M_Ch_init) 42 = .ok (.iconst 0, 1) := by decide +kernel
theorem dc_Ch_init_43 : decode (pm_by M_Ch_init) 43 = .ok (.putfield 26, 3) := by decide +kernel
theorem dc_Ch_init_46 : decode (pm_by M_Ch_init) 46 = .ok (.return_, 1) := by decide +kernel
abbrev at_Ch_init (D : va_G) (A : Nat → Prop) (h0 : Nat) (t : State) : Prop := ∃ (q7 q15 q23 q31 : Nat) (cA7 cA15 cA23 cA31 : ClassId), va_P D vwCl [(h0, .inr (1, [.ref q7, .ref q15, .ref q23, .ref q31, .int 0, .int 0])), (q7, .inl (cA7, 40, .inl (fun _ => 0))), (q15, .inl (cA15, 40, .inl (fun _ => 0))), (q23, .inl (cA23, 40, .inl (fun _ => 0))), (q31, .inl (cA31, 40, .inl (fun _ => 0)))] t.heap ∧ va_K D vwCl [(cA7, .int), (cA15, .int), (cA23, .int), (cA31, .int)] t ∧ va_D A [(h0, .inr (1, [.ref q7, .ref q15, .ref q23, .ref q31, .int 0, .int 0])), (q7, .inl (cA7, 40, .inl (fun _ => 0))), (q15, .inl (cA15, 40, .inl (fun _ => 0))), (q23, .inl (cA23, 40, .inl (fun _ => 0))), (q31, .inl (cA31, 40, .inl (fun _ => 0)))]
set_option maxHeartbeats 4000000 in
set_option maxRecDepth 100000 in
theorem c_Ch_init (l : Launch) (D : va_G) (h0 sz : Nat) : Met l (pm_nm M_Ch_init) (pm_wy M_Ch_init) ({ frames := 1, cells := 4, slots := 160, locals := 12 }) (va_Pc [.ref h0] (fun U => U.heap.size = sz ∧ va_P D vwCl [(h0, .inr (1, [.null, .null, .null, .null, .int 0, .int 0]))] U.heap ∧ va_K D vwCl [] U ∧ va_D (fun _ => True) [(h0, .inr (1, [.null, .null, .null, .null, .int 0, .int 0]))])) (va_Qv (fun _ : Unit => True) (fun _ t => at_Ch_init D (va_A [(h0, .inr (1, [.null, .null, .null, .null, .int 0, .int 0]))] sz) h0 t) (va_A [(h0, .inr (1, [.null, .null, .null, .null, .int 0, .int 0]))] sz)) 4 160 (va_A [(h0, .inr (1, [.null, .null, .null, .null, .int 0, .int 0]))] sz) := by
  refine Met.ofW (cc := pm_by M_Ch_init) (maxL := 1) (ret := none) (by decide) rfl ?_
  intro p e s m args below meth c s₁ B hml hv
  obtain ⟨rfl, hsz, hP, hK, hD0⟩ := hv
  have hx := B.exec
  have hb := B.bytes
  have hr := B.returns
  have hts := atoms_spec (ws := pm_wy M_Ch_init) B.pre
  have ht : ∀ w ∈ pm_tbl, w.before _ s = true := fun w hw => hts w (List.mem_cons_of_mem _ hw)
  have hown : s.vm.findClass "PractisedWrong$Changes" = some m.cls := findClass_of_methodNamed B.named
  have hin : meth.name = "<init>" := (name_of_methodNamed B.named B.method).1
  subst hsz
  have hD := hD0.self (sz := s.heap.size)
  generalize hAe : va_A [(h0, .inr (1, [.null, .null, .null, .null, .int 0, .int 0]))] s.heap.size = A at hD ⊢
  have hA : ∀ q : Nat, s.heap.size ≤ q → A q := fun q h => by rw [← hAe]; exact Or.inr h
  have hS : va_S A s.heap s.heap [] := va_S.rf
  have hP : va_P D vwCl [(h0, .inr (1, [.null, .null, .null, .null, .int 0, .int 0]))] s.heap := hP
  have hl := lv_entry ([.ref h0]) (n := 1) (Nat.le_of_ble_eq_true rfl)
  rw [lg_entry_eq]
  generalize (lg_sl ([.ref h0]) ++ List.replicate (1 - (lg_sl ([.ref h0])).length) Slot.unset).toArray = ls at hl ⊢
  have hl : lv_has ls 1 [(0, .ref h0)] := hl
  refine lv_aload_n hx hb dc_Ch_init_0 rfl (lv_at hl 0 rfl) ?_
  refine W.objInit hx hb hown (ht (.methodLink "PractisedWrong$Changes" 1 objectInit) (pm_inW (wi := 268) (by decide +kernel) (by decide +kernel))) (ht (.instanceMethod objectInit) kw_oi) (ht _ kw_oc) rfl (by rw [hml]; exact hl.1) rfl dc_Ch_init_1 (Nat.le_of_ble_eq_true rfl) (Nat.le_of_ble_eq_true rfl) ?_
  refine W.eq (g2 := F0 m 4 ls []) rfl ?_
  refine lv_aload_n hx hb dc_Ch_init_4 rfl (lv_at hl 0 rfl) ?_
  refine lv_bipush hx hb (v := (40 : Int32)) dc_Ch_init_5 rfl ?_
  refine va_newa (atype := .int) (ty := .int) (N' := 40) (a0 := (40, .inl (fun _ => 0))) hx hb (ht (.arrayClass .int) kw_aint) rfl hK hP hD hS hA (fun _ => rfl) (by decide) rfl (by decide) (Nat.le_of_ble_eq_true rfl) (Nat.le_of_ble_eq_true rfl) dc_Ch_init_7 (fun q7 cA7 H hK hP hD hS => ?_)
  have hP : va_P D vwCl [(h0, .inr (1, [.null, .null, .null, .null, .int 0, .int 0])), (q7, .inl (cA7, 40, .inl (fun _ => 0)))] H := hP
  have hD : va_D A [(h0, .inr (1, [.null, .null, .null, .null, .int 0, .int 0])), (q7, .inl (cA7, 40, .inl (fun _ => 0)))] := hD
  have hK : va_K D vwCl [(cA7, .int)] s := hK
  refine va_putF (D := D) (ci := 1) (v := .ref q7) (ty := .array .int) (C := RX1) (T := TX1) (N := 6) hx hb ht (pm_cls (ci := 1) rfl).1 tyX1 tyX1_ok nmX1 hown hK hP hD hS 0 rfl rfl 0 (by decide) (ht (.fieldLink "PractisedWrong$Changes" 9 "PractisedWrong$Changes" "number" "[I") (pm_inW (wi := 269) (by decide +kernel) (by decide +kernel))) (fun _ h9 => h9) rfl hin rfl (by decide +kernel) rfl rfl (Nat.le_of_ble_eq_true rfl) dc_Ch_init_9 (fun H locs hP hD hS => ?_)
  have hP : va_P D vwCl [(h0, .inr (1, [.ref q7, .null, .null, .null, .int 0, .int 0])), (q7, .inl (cA7, 40, .inl (fun _ => 0)))] H := hP
  have hD : va_D A [(h0, .inr (1, [.ref q7, .null, .null, .null, .int 0, .int 0])), (q7, .inl (cA7, 40, .inl (fun _ => 0)))] := hD
  refine lv_aload_n hx hb dc_Ch_init_12 rfl (lv_at hl 0 rfl) ?_
  refine lv_bipush hx hb (v := (40 : Int32)) dc_Ch_init_13 rfl ?_
  refine va_newa (atype := .int) (ty := .int) (N' := 40) (a0 := (40, .inl (fun _ => 0))) hx hb (ht (.arrayClass .int) kw_aint) rfl hK hP hD hS hA (fun _ => rfl) (by decide) rfl (by decide) (Nat.le_of_ble_eq_true rfl) (Nat.le_of_ble_eq_true rfl) dc_Ch_init_15 (fun q15 cA15 H hK hP hD hS => ?_)
  have hP : va_P D vwCl [(h0, .inr (1, [.ref q7, .null, .null, .null, .int 0, .int 0])), (q7, .inl (cA7, 40, .inl (fun _ => 0))), (q15, .inl (cA15, 40, .inl (fun _ => 0)))] H := hP
  have hD : va_D A [(h0, .inr (1, [.ref q7, .null, .null, .null, .int 0, .int 0])), (q7, .inl (cA7, 40, .inl (fun _ => 0))), (q15, .inl (cA15, 40, .inl (fun _ => 0)))] := hD
  have hK : va_K D vwCl [(cA7, .int), (cA15, .int)] s := hK
  refine va_putF (D := D) (ci := 1) (v := .ref q15) (ty := .array .int) (C := RX1) (T := TX1) (N := 6) hx hb ht (pm_cls (ci := 1) rfl).1 tyX1 tyX1_ok nmX1 hown hK hP hD hS 0 rfl rfl 1 (by decide) (ht (.fieldLink "PractisedWrong$Changes" 13 "PractisedWrong$Changes" "what" "[I") (pm_inW (wi := 271) (by decide +kernel) (by decide +kernel))) (fun _ h9 => h9) rfl hin rfl (by decide +kernel) rfl rfl (Nat.le_of_ble_eq_true rfl) dc_Ch_init_17 (fun H locs hP hD hS => ?_)
  have hP : va_P D vwCl [(h0, .inr (1, [.ref q7, .ref q15, .null, .null, .int 0, .int 0])), (q7, .inl (cA7, 40, .inl (fun _ => 0))), (q15, .inl (cA15, 40, .inl (fun _ => 0)))] H := hP
  have hD : va_D A [(h0, .inr (1, [.ref q7, .ref q15, .null, .null, .int 0, .int 0])), (q7, .inl (cA7, 40, .inl (fun _ => 0))), (q15, .inl (cA15, 40, .inl (fun _ => 0)))] := hD
  refine lv_aload_n hx hb dc_Ch_init_20 rfl (lv_at hl 0 rfl) ?_
  refine lv_bipush hx hb (v := (40 : Int32)) dc_Ch_init_21 rfl ?_
  refine va_newa (atype := .int) (ty := .int) (N' := 40) (a0 := (40, .inl (fun _ => 0))) hx hb (ht (.arrayClass .int) kw_aint) rfl hK hP hD hS hA (fun _ => rfl) (by decide) rfl (by decide) (Nat.le_of_ble_eq_true rfl) (Nat.le_of_ble_eq_true rfl) dc_Ch_init_23 (fun q23 cA23 H hK hP hD hS => ?_)
  have hP : va_P D vwCl [(h0, .inr (1, [.ref q7, .ref q15, .null, .null, .int 0, .int 0])), (q7, .inl (cA7, 40, .inl (fun _ => 0))), (q15, .inl (cA15, 40, .inl (fun _ => 0))), (q23, .inl (cA23, 40, .inl (fun _ => 0)))] H := hP
  have hD : va_D A [(h0, .inr (1, [.ref q7, .ref q15, .null, .null, .int 0, .int 0])), (q7, .inl (cA7, 40, .inl (fun _ => 0))), (q15, .inl (cA15, 40, .inl (fun _ => 0))), (q23, .inl (cA23, 40, .inl (fun _ => 0)))] := hD
  have hK : va_K D vwCl [(cA7, .int), (cA15, .int), (cA23, .int)] s := hK
  refine va_putF (D := D) (ci := 1) (v := .ref q23) (ty := .array .int) (C := RX1) (T := TX1) (N := 6) hx hb ht (pm_cls (ci := 1) rfl).1 tyX1 tyX1_ok nmX1 hown hK hP hD hS 0 rfl rfl 2 (by decide) (ht (.fieldLink "PractisedWrong$Changes" 16 "PractisedWrong$Changes" "was" "[I") (pm_inW (wi := 273) (by decide +kernel) (by decide +kernel))) (fun _ h9 => h9) rfl hin rfl (by decide +kernel) rfl rfl (Nat.le_of_ble_eq_true rfl) dc_Ch_init_25 (fun H locs hP hD hS => ?_)
  have hP : va_P D vwCl [(h0, .inr (1, [.ref q7, .ref q15, .ref q23, .null, .int 0, .int 0])), (q7, .inl (cA7, 40, .inl (fun _ => 0))), (q15, .inl (cA15, 40, .inl (fun _ => 0))), (q23, .inl (cA23, 40, .inl (fun _ => 0)))] H := hP
  have hD : va_D A [(h0, .inr (1, [.ref q7, .ref q15, .ref q23, .null, .int 0, .int 0])), (q7, .inl (cA7, 40, .inl (fun _ => 0))), (q15, .inl (cA15, 40, .inl (fun _ => 0))), (q23, .inl (cA23, 40, .inl (fun _ => 0)))] := hD
  refine lv_aload_n hx hb dc_Ch_init_28 rfl (lv_at hl 0 rfl) ?_
  refine lv_bipush hx hb (v := (40 : Int32)) dc_Ch_init_29 rfl ?_
  refine va_newa (atype := .int) (ty := .int) (N' := 40) (a0 := (40, .inl (fun _ => 0))) hx hb (ht (.arrayClass .int) kw_aint) rfl hK hP hD hS hA (fun _ => rfl) (by decide) rfl (by decide) (Nat.le_of_ble_eq_true rfl) (Nat.le_of_ble_eq_true rfl) dc_Ch_init_31 (fun q31 cA31 H hK hP hD hS => ?_)
  have hP : va_P D vwCl [(h0, .inr (1, [.ref q7, .ref q15, .ref q23, .null, .int 0, .int 0])), (q7, .inl (cA7, 40, .inl (fun _ => 0))), (q15, .inl (cA15, 40, .inl (fun _ => 0))), (q23, .inl (cA23, 40, .inl (fun _ => 0))), (q31, .inl (cA31, 40, .inl (fun _ => 0)))] H := hP
  have hD : va_D A [(h0, .inr (1, [.ref q7, .ref q15, .ref q23, .null, .int 0, .int 0])), (q7, .inl (cA7, 40, .inl (fun _ => 0))), (q15, .inl (cA15, 40, .inl (fun _ => 0))), (q23, .inl (cA23, 40, .inl (fun _ => 0))), (q31, .inl (cA31, 40, .inl (fun _ => 0)))] := hD
  have hK : va_K D vwCl [(cA7, .int), (cA15, .int), (cA23, .int), (cA31, .int)] s := hK
  refine va_putF (D := D) (ci := 1) (v := .ref q31) (ty := .array .int) (C := RX1) (T := TX1) (N := 6) hx hb ht (pm_cls (ci := 1) rfl).1 tyX1 tyX1_ok nmX1 hown hK hP hD hS 0 rfl rfl 3 (by decide) (ht (.fieldLink "PractisedWrong$Changes" 19 "PractisedWrong$Changes" "became" "[I") (pm_inW (wi := 275) (by decide +kernel) (by decide +kernel))) (fun _ h9 => h9) rfl hin rfl (by decide +kernel) rfl rfl (Nat.le_of_ble_eq_true rfl) dc_Ch_init_33 (fun H locs hP hD hS => ?_)
  have hP : va_P D vwCl [(h0, .inr (1, [.ref q7, .ref q15, .ref q23, .ref q31, .int 0, .int 0])), (q7, .inl (cA7, 40, .inl (fun _ => 0))), (q15, .inl (cA15, 40, .inl (fun _ => 0))), (q23, .inl (cA23, 40, .inl (fun _ => 0))), (q31, .inl (cA31, 40, .inl (fun _ => 0)))] H := hP
  have hD : va_D A [(h0, .inr (1, [.ref q7, .ref q15, .ref q23, .ref q31, .int 0, .int 0])), (q7, .inl (cA7, 40, .inl (fun _ => 0))), (q15, .inl (cA15, 40, .inl (fun _ => 0))), (q23, .inl (cA23, 40, .inl (fun _ => 0))), (q31, .inl (cA31, 40, .inl (fun _ => 0)))] := hD
  refine lv_aload_n hx hb dc_Ch_init_36 rfl (lv_at hl 0 rfl) ?_
  refine lv_iconst hx hb (v := (0 : Int32)) dc_Ch_init_37 rfl ?_
  refine va_put (D := D) (ci := 1) (v := .int 0) (ty := .int) (C := RX1) (T := TX1) (N := 6) hx hb ht (pm_cls (ci := 1) rfl).1 tyX1 tyX1_ok nmX1 hown hK hP hD hS 0 rfl rfl 4 (by decide) (ht (.fieldLink "PractisedWrong$Changes" 22 "PractisedWrong$Changes" "done" "I") (pm_inW (wi := 277) (by decide +kernel) (by decide +kernel))) (fun _ h9 => h9) rfl (by decide +kernel) rfl rfl (Nat.le_of_ble_eq_true rfl) dc_Ch_init_38 (fun H locs hP hD hS => ?_)
  have hP : va_P D vwCl [(h0, .inr (1, [.ref q7, .ref q15, .ref q23, .ref q31, .int 0, .int 0])), (q7, .inl (cA7, 40, .inl (fun _ => 0))), (q15, .inl (cA15, 40, .inl (fun _ => 0))), (q23, .inl (cA23, 40, .inl (fun _ => 0))), (q31, .inl (cA31, 40, .inl (fun _ => 0)))] H := hP
  have hD : va_D A [(h0, .inr (1, [.ref q7, .ref q15, .ref q23, .ref q31, .int 0, .int 0])), (q7, .inl (cA7, 40, .inl (fun _ => 0))), (q15, .inl (cA15, 40, .inl (fun _ => 0))), (q23, .inl (cA23, 40, .inl (fun _ => 0))), (q31, .inl (cA31, 40, .inl (fun _ => 0)))] := hD
  refine lv_aload_n hx hb dc_Ch_init_41 rfl (lv_at hl 0 rfl) ?_
  refine lv_iconst hx hb (v := (0 : Int32)) dc_Ch_init_42 rfl ?_
  refine va_put (D := D) (ci := 1) (v := .int 0) (ty := .int) (C := RX1) (T := TX1) (N := 6) hx hb ht (pm_cls (ci := 1) rfl).1 tyX1 tyX1_ok nmX1 hown hK hP hD hS 0 rfl rfl 5 (by decide) (ht (.fieldLink "PractisedWrong$Changes" 26 "PractisedWrong$Changes" "told" "I") (pm_inW (wi := 279) (by decide +kernel) (by decide +kernel))) (fun _ h9 => h9) rfl (by decide +kernel) rfl rfl (Nat.le_of_ble_eq_true rfl) dc_Ch_init_43 (fun H locs hP hD hS => ?_)
  have hP : va_P D vwCl [(h0, .inr (1, [.ref q7, .ref q15, .ref q23, .ref q31, .int 0, .int 0])), (q7, .inl (cA7, 40, .inl (fun _ => 0))), (q15, .inl (cA15, 40, .inl (fun _ => 0))), (q23, .inl (cA23, 40, .inl (fun _ => 0))), (q31, .inl (cA31, 40, .inl (fun _ => 0)))] H := hP
  have hD : va_D A [(h0, .inr (1, [.ref q7, .ref q15, .ref q23, .ref q31, .int 0, .int 0])), (q7, .inl (cA7, 40, .inl (fun _ => 0))), (q15, .inl (cA15, 40, .inl (fun _ => 0))), (q23, .inl (cA23, 40, .inl (fun _ => 0))), (q31, .inl (cA31, 40, .inl (fun _ => 0)))] := hD
  have hP9 := hP
  have hD9 := hD
  exact W.vret hx hb hr (fun t ht9 hW => ⟨⟨(), rfl, trivial, q7, q15, q23, q31, cA7, cA15, cA23, cA31, by rw [ht9]; exact hP9, va_K.moved hW.alike hK, hD9⟩, hS.F ht9⟩) hS.2.2 dc_Ch_init_46
theorem dc_Pl_init_0 : decode (pm_by M_Pl_init) 0 = .ok (.aload_n 0, 1) := by decide +kernel
theorem dc_Pl_init_1 : decode (pm_by M_Pl_init) 1 = .ok (.invokespecial 3, 3) := by decide +kernel
theorem dc_Pl_init_4 : decode (pm_by M_Pl_init) 4 = .ok (.aload_n 0, 1) := by decide +kernel
theorem dc_Pl_init_5 : decode (pm_by M_Pl_init) 5 = .ok (.iconst 0, 1) := by decide +kernel
theorem dc_Pl_init_6 : decode (pm_by M_Pl_init) 6 = .ok (.putfield 9, 3) := by decide +kernel
theorem dc_Pl_init_9 : decode (pm_by M_Pl_init) 9 = .ok (.aload_n 0, 1) := by decide +kernel
theorem dc_Pl_init_10 : decode (pm_by M_Pl_init) 10 = .ok (.iconst 0, 1) := by decide +kernel
theorem dc_Pl_init_11 : decode (pm_by M_Pl_init) 11 = .ok (.putfield 15, 3) := by decide +kernel
theorem dc_Pl_init_14 : decode (pm_by M_Pl_init) 14 = .ok (.aload_n 0, 1) := by decide +kernel
theorem dc_Pl_init_15 : decode (pm_by M_Pl_init) 15 = .ok (.bipush (-2), 2) := by decide +kernel
theorem dc_Pl_init_17 : decode (pm_by M_Pl_init) 17 = .ok (.putfield 18, 3) := by decide +kernel
theorem dc_Pl_init_20 : decode (pm_by M_Pl_init) 20 = .ok (.aload_n 0, 1) := by decide +kernel
theorem dc_Pl_init_21 : decode (pm_by M_Pl_init) 21 = .ok (.bipush 12, 2) := by decide +kernel
theorem dc_Pl_init_23 : decode (pm_by M_Pl_init) 23 = .ok (.newarray .int, 2) := by decide +kernel
theorem dc_Pl_init_25 : decode (pm_by M_Pl_init) 25 = .ok (.putfield 21, 3) := by decide +kernel
theorem dc_Pl_init_28 : decode (pm_by M_Pl_init) 28 = .ok (.aload_n 0, 1) := by decide +kernel
theorem dc_Pl_init_29 : decode (pm_by M_Pl_init) 29 = .ok (.iconst 0, 1) := by decide +kernel
theorem dc_Pl_init_30 : decode (pm_by M_Pl_init) 30 = .ok (.putfield 25, 3) := by decide +kernel
theorem dc_Pl_init_33 : decode (pm_by M_Pl_init) 33 = .ok (.aload_n 0, 1) := by decide +kernel
theorem dc_Pl_init_34 : decode (pm_by M_Pl_init) 34 = .ok (.iconst 0, 1) := by decide +kernel
theorem dc_Pl_init_35 : decode (pm_by M_Pl_init) 35 = .ok (.putfield 28, 3) := by decide +kernel
theorem dc_Pl_init_38 : decode (pm_by M_Pl_init) 38 = .ok (.aload_n 0, 1) := by decide +kernel
theorem dc_Pl_init_39 : decode (pm_by M_Pl_init) 39 = .ok (.iconst 5, 1) := by decide +kernel
theorem dc_Pl_init_40 : decode (pm_by M_Pl_init) 40 = .ok (.newarray .int, 2) := by decide +kernel
theorem dc_Pl_init_42 : decode (pm_by M_Pl_init) 42 = .ok (.putfield 31, 3) := by decide +kernel
theorem dc_Pl_init_45 : decode (pm_by M_Pl_init) 45 = .ok (.aload_n 0, 1) := by decide +kernel
theorem dc_Pl_init_46 : decode (pm_by M_Pl_init) 46 = .ok (.iconst 0, 1) := by decide +kernel
theorem dc_Pl_init_47 : decode (pm_by M_Pl_init) 47 = .ok (.putfield 34, 3) := by decide +kernel
theorem dc_Pl_init_50 : decode (pm_by M_Pl_init) 50 = .ok (.aload_n 0, 1) := by decide +kernel
theorem dc_Pl_init_51 : decode (pm_by M_Pl_init) 51 = .ok (.iconst 5, 1) := by decide +kernel
theorem dc_Pl_init_52 : decode (pm_by M_Pl_init) 52 = .ok (.newarray .int, 2) := by decide +kernel
theorem dc_Pl_init_54 : decode (pm_by M_Pl_init) 54 = .ok (.putfield 37, 3) := by decide +kernel
theorem dc_Pl_init_57 : decode (pm_by M_Pl_init) 57 = .ok (.aload_n 0, 1) := by decide +kernel
theorem dc_Pl_init_58 : decode (pm_by M_Pl_init) 58 = .ok (.ldc 40, 2) := by decide +kernel
theorem dc_Pl_init_60 : decode (pm_by M_Pl_init) 60 = .ok (.putfield 41, 3) := by decide +kernel
theorem dc_Pl_init_63 : decode (pm_by M_Pl_init) 63 = .ok (.return_, 1) := by decide +kernel
abbrev at_Pl_init (D : va_G) (A : Nat → Prop) (h0 : Nat) (t : State) : Prop := ∃ (q23 q40 q52 : Nat) (cA23 cA40 cA52 : ClassId), va_P D vwCl [(h0, .inr (5, [.int 0, .int 0, .int (-2), .ref q23, .int 0, .int 0, .ref q40, .int 0, .ref q52, .int (-2000000000)])), (q23, .inl (cA23, 12, .inl (fun _ => 0))), (q40, .inl (cA40, 5, .inl (fun _ => 0))), (q52, .inl (cA52, 5, .inl (fun _ => 0)))] t.heap ∧ va_K D vwCl [(cA23, .int), (cA40, .int), (cA52, .int)] t ∧ va_D A [(h0, .inr (5, [.int 0, .int 0, .int (-2), .ref q23, .int 0, .int 0, .ref q40, .int 0, .ref q52, .int (-2000000000)])), (q23, .inl (cA23, 12, .inl (fun _ => 0))), (q40, .inl (cA40, 5, .inl (fun _ => 0))), (q52, .inl (cA52, 5, .inl (fun _ => 0)))]
set_option maxHeartbeats 4000000 in
set_option maxRecDepth 100000 in
theorem c_Pl_init (l : Launch) (D : va_G) (h0 sz : Nat) : Met l (pm_nm M_Pl_init) (pm_wy M_Pl_init) ({ frames := 1, cells := 3, slots := 22, locals := 12 }) (va_Pc [.ref h0] (fun U => U.heap.size = sz ∧ va_P D vwCl [(h0, .inr (5, [.int 0, .int 0, .int 0, .null, .int 0, .int 0, .null, .int 0, .null, .int 0]))] U.heap ∧ va_K D vwCl [] U ∧ va_D (fun _ => True) [(h0, .inr (5, [.int 0, .int 0, .int 0, .null, .int 0, .int 0, .null, .int 0, .null, .int 0]))])) (va_Qv (fun _ : Unit => True) (fun _ t => at_Pl_init D (va_A [(h0, .inr (5, [.int 0, .int 0, .int 0, .null, .int 0, .int 0, .null, .int 0, .null, .int 0]))] sz) h0 t) (va_A [(h0, .inr (5, [.int 0, .int 0, .int 0, .null, .int 0, .int 0, .null, .int 0, .null, .int 0]))] sz)) 3 22 (va_A [(h0, .inr (5, [.int 0, .int 0, .int 0, .null, .int 0, .int 0, .null, .int 0, .null, .int 0]))] sz) := by
  refine Met.ofW (cc := pm_by M_Pl_init) (maxL := 1) (ret := none) (by decide) rfl ?_
  intro p e s m args below meth c s₁ B hml hv
  obtain ⟨rfl, hsz, hP, hK, hD0⟩ := hv
  have hx := B.exec
  have hb := B.bytes
  have hr := B.returns
  have hts := atoms_spec (ws := pm_wy M_Pl_init) B.pre
  have ht : ∀ w ∈ pm_tbl, w.before _ s = true := fun w hw => hts w (List.mem_cons_of_mem _ hw)
  have hown : s.vm.findClass "PractisedWrong$Planner" = some m.cls := findClass_of_methodNamed B.named
  have hin : meth.name = "<init>" := (name_of_methodNamed B.named B.method).1
  subst hsz
  have hD := hD0.self (sz := s.heap.size)
  generalize hAe : va_A [(h0, .inr (5, [.int 0, .int 0, .int 0, .null, .int 0, .int 0, .null, .int 0, .null, .int 0]))] s.heap.size = A at hD ⊢
  have hA : ∀ q : Nat, s.heap.size ≤ q → A q := fun q h => by rw [← hAe]; exact Or.inr h
  have hS : va_S A s.heap s.heap [] := va_S.rf
  have hP : va_P D vwCl [(h0, .inr (5, [.int 0, .int 0, .int 0, .null, .int 0, .int 0, .null, .int 0, .null, .int 0]))] s.heap := hP
  have hl := lv_entry ([.ref h0]) (n := 1) (Nat.le_of_ble_eq_true rfl)
  rw [lg_entry_eq]
  generalize (lg_sl ([.ref h0]) ++ List.replicate (1 - (lg_sl ([.ref h0])).length) Slot.unset).toArray = ls at hl ⊢
  have hl : lv_has ls 1 [(0, .ref h0)] := hl
  refine lv_aload_n hx hb dc_Pl_init_0 rfl (lv_at hl 0 rfl) ?_
  refine W.objInit hx hb hown (ht (.methodLink "PractisedWrong$Planner" 3 objectInit) (pm_inW (wi := 212) (by decide +kernel) (by decide +kernel))) (ht (.instanceMethod objectInit) kw_oi) (ht _ kw_oc) rfl (by rw [hml]; exact hl.1) rfl dc_Pl_init_1 (Nat.le_of_ble_eq_true rfl) (Nat.le_of_ble_eq_true rfl) ?_
  refine W.eq (g2 := F0 m 4 ls []) rfl ?_
  refine lv_aload_n hx hb dc_Pl_init_4 rfl (lv_at hl 0 rfl) ?_
  refine lv_iconst hx hb (v := (0 : Int32)) dc_Pl_init_5 rfl ?_
  refine va_put (D := D) (ci := 5) (v := .int 0) (ty := .int) (C := RX5) (T := TX5) (N := 10) hx hb ht (pm_cls (ci := 5) rfl).1 tyX5 tyX5_ok nmX5 hown hK hP hD hS 0 rfl rfl 0 (by decide) (ht (.fieldLink "PractisedWrong$Planner" 9 "PractisedWrong$Planner" "counted" "I") (pm_inW (wi := 214) (by decide +kernel) (by decide +kernel))) (fun _ h9 => h9) rfl (by decide +kernel) rfl rfl (Nat.le_of_ble_eq_true rfl) dc_Pl_init_6 (fun H locs hP hD hS => ?_)
  have hP : va_P D vwCl [(h0, .inr (5, [.int 0, .int 0, .int 0, .null, .int 0, .int 0, .null, .int 0, .null, .int 0]))] H := hP
  have hD : va_D A [(h0, .inr (5, [.int 0, .int 0, .int 0, .null, .int 0, .int 0, .null, .int 0, .null, .int 0]))] := hD
  refine lv_aload_n hx hb dc_Pl_init_9 rfl (lv_at hl 0 rfl) ?_
  refine lv_iconst hx hb (v := (0 : Int32)) dc_Pl_init_10 rfl ?_
  refine va_put (D := D) (ci := 5) (v := .int 0) (ty := .int) (C := RX5) (T := TX5) (N := 10) hx hb ht (pm_cls (ci := 5) rfl).1 tyX5 tyX5_ok nmX5 hown hK hP hD hS 0 rfl rfl 1 (by decide) (ht (.fieldLink "PractisedWrong$Planner" 15 "PractisedWrong$Planner" "rightOnes" "I") (pm_inW (wi := 216) (by decide +kernel) (by decide +kernel))) (fun _ h9 => h9) rfl (by decide +kernel) rfl rfl (Nat.le_of_ble_eq_true rfl) dc_Pl_init_11 (fun H locs hP hD hS => ?_)
  have hP : va_P D vwCl [(h0, .inr (5, [.int 0, .int 0, .int 0, .null, .int 0, .int 0, .null, .int 0, .null, .int 0]))] H := hP
  have hD : va_D A [(h0, .inr (5, [.int 0, .int 0, .int 0, .null, .int 0, .int 0, .null, .int 0, .null, .int 0]))] := hD
  refine lv_aload_n hx hb dc_Pl_init_14 rfl (lv_at hl 0 rfl) ?_
  refine lv_bipush hx hb (v := (-2 : Int32)) dc_Pl_init_15 rfl ?_
  refine va_put (D := D) (ci := 5) (v := .int (-2)) (ty := .int) (C := RX5) (T := TX5) (N := 10) hx hb ht (pm_cls (ci := 5) rfl).1 tyX5 tyX5_ok nmX5 hown hK hP hD hS 0 rfl rfl 2 (by decide) (ht (.fieldLink "PractisedWrong$Planner" 18 "PractisedWrong$Planner" "latest" "I") (pm_inW (wi := 218) (by decide +kernel) (by decide +kernel))) (fun _ h9 => h9) rfl (by decide +kernel) rfl rfl (Nat.le_of_ble_eq_true rfl) dc_Pl_init_17 (fun H locs hP hD hS => ?_)
  have hP : va_P D vwCl [(h0, .inr (5, [.int 0, .int 0, .int (-2), .null, .int 0, .int 0, .null, .int 0, .null, .int 0]))] H := hP
  have hD : va_D A [(h0, .inr (5, [.int 0, .int 0, .int (-2), .null, .int 0, .int 0, .null, .int 0, .null, .int 0]))] := hD
  refine lv_aload_n hx hb dc_Pl_init_20 rfl (lv_at hl 0 rfl) ?_
  refine lv_bipush hx hb (v := (12 : Int32)) dc_Pl_init_21 rfl ?_
  refine va_newa (atype := .int) (ty := .int) (N' := 12) (a0 := (12, .inl (fun _ => 0))) hx hb (ht (.arrayClass .int) kw_aint) rfl hK hP hD hS hA (fun _ => rfl) (by decide) rfl (by decide) (Nat.le_of_ble_eq_true rfl) (Nat.le_of_ble_eq_true rfl) dc_Pl_init_23 (fun q23 cA23 H hK hP hD hS => ?_)
  have hP : va_P D vwCl [(h0, .inr (5, [.int 0, .int 0, .int (-2), .null, .int 0, .int 0, .null, .int 0, .null, .int 0])), (q23, .inl (cA23, 12, .inl (fun _ => 0)))] H := hP
  have hD : va_D A [(h0, .inr (5, [.int 0, .int 0, .int (-2), .null, .int 0, .int 0, .null, .int 0, .null, .int 0])), (q23, .inl (cA23, 12, .inl (fun _ => 0)))] := hD
  have hK : va_K D vwCl [(cA23, .int)] s := hK
  refine va_putF (D := D) (ci := 5) (v := .ref q23) (ty := .array .int) (C := RX5) (T := TX5) (N := 10) hx hb ht (pm_cls (ci := 5) rfl).1 tyX5 tyX5_ok nmX5 hown hK hP hD hS 0 rfl rfl 3 (by decide) (ht (.fieldLink "PractisedWrong$Planner" 21 "PractisedWrong$Planner" "cost" "[I") (pm_inW (wi := 220) (by decide +kernel) (by decide +kernel))) (fun _ h9 => h9) rfl hin rfl (by decide +kernel) rfl rfl (Nat.le_of_ble_eq_true rfl) dc_Pl_init_25 (fun H locs hP hD hS => ?_)
  have hP : va_P D vwCl [(h0, .inr (5, [.int 0, .int 0, .int (-2), .ref q23, .int 0, .int 0, .null, .int 0, .null, .int 0])), (q23, .inl (cA23, 12, .inl (fun _ => 0)))] H := hP
  have hD : va_D A [(h0, .inr (5, [.int 0, .int 0, .int (-2), .ref q23, .int 0, .int 0, .null, .int 0, .null, .int 0])), (q23, .inl (cA23, 12, .inl (fun _ => 0)))] := hD
  refine lv_aload_n hx hb dc_Pl_init_28 rfl (lv_at hl 0 rfl) ?_
  refine lv_iconst hx hb (v := (0 : Int32)) dc_Pl_init_29 rfl ?_
  refine va_put (D := D) (ci := 5) (v := .int 0) (ty := .int) (C := RX5) (T := TX5) (N := 10) hx hb ht (pm_cls (ci := 5) rfl).1 tyX5 tyX5_ok nmX5 hown hK hP hD hS 0 rfl rfl 4 (by decide) (ht (.fieldLink "PractisedWrong$Planner" 25 "PractisedWrong$Planner" "chosenBits" "I") (pm_inW (wi := 221) (by decide +kernel) (by decide +kernel))) (fun _ h9 => h9) rfl (by decide +kernel) rfl rfl (Nat.le_of_ble_eq_true rfl) dc_Pl_init_30 (fun H locs hP hD hS => ?_)
  have hP : va_P D vwCl [(h0, .inr (5, [.int 0, .int 0, .int (-2), .ref q23, .int 0, .int 0, .null, .int 0, .null, .int 0])), (q23, .inl (cA23, 12, .inl (fun _ => 0)))] H := hP
  have hD : va_D A [(h0, .inr (5, [.int 0, .int 0, .int (-2), .ref q23, .int 0, .int 0, .null, .int 0, .null, .int 0])), (q23, .inl (cA23, 12, .inl (fun _ => 0)))] := hD
  refine lv_aload_n hx hb dc_Pl_init_33 rfl (lv_at hl 0 rfl) ?_
  refine lv_iconst hx hb (v := (0 : Int32)) dc_Pl_init_34 rfl ?_
  refine va_put (D := D) (ci := 5) (v := .int 0) (ty := .int) (C := RX5) (T := TX5) (N := 10) hx hb ht (pm_cls (ci := 5) rfl).1 tyX5 tyX5_ok nmX5 hown hK hP hD hS 0 rfl rfl 5 (by decide) (ht (.fieldLink "PractisedWrong$Planner" 28 "PractisedWrong$Planner" "chosenPlayings" "I") (pm_inW (wi := 223) (by decide +kernel) (by decide +kernel))) (fun _ h9 => h9) rfl (by decide +kernel) rfl rfl (Nat.le_of_ble_eq_true rfl) dc_Pl_init_35 (fun H locs hP hD hS => ?_)
  have hP : va_P D vwCl [(h0, .inr (5, [.int 0, .int 0, .int (-2), .ref q23, .int 0, .int 0, .null, .int 0, .null, .int 0])), (q23, .inl (cA23, 12, .inl (fun _ => 0)))] H := hP
  have hD : va_D A [(h0, .inr (5, [.int 0, .int 0, .int (-2), .ref q23, .int 0, .int 0, .null, .int 0, .null, .int 0])), (q23, .inl (cA23, 12, .inl (fun _ => 0)))] := hD
  refine lv_aload_n hx hb dc_Pl_init_38 rfl (lv_at hl 0 rfl) ?_
  refine lv_iconst hx hb (v := (5 : Int32)) dc_Pl_init_39 rfl ?_
  refine va_newa (atype := .int) (ty := .int) (N' := 5) (a0 := (5, .inl (fun _ => 0))) hx hb (ht (.arrayClass .int) kw_aint) rfl hK hP hD hS hA (fun _ => rfl) (by decide) rfl (by decide) (Nat.le_of_ble_eq_true rfl) (Nat.le_of_ble_eq_true rfl) dc_Pl_init_40 (fun q40 cA40 H hK hP hD hS => ?_)
  have hP : va_P D vwCl [(h0, .inr (5, [.int 0, .int 0, .int (-2), .ref q23, .int 0, .int 0, .null, .int 0, .null, .int 0])), (q23, .inl (cA23, 12, .inl (fun _ => 0))), (q40, .inl (cA40, 5, .inl (fun _ => 0)))] H := hP
  have hD : va_D A [(h0, .inr (5, [.int 0, .int 0, .int (-2), .ref q23, .int 0, .int 0, .null, .int 0, .null, .int 0])), (q23, .inl (cA23, 12, .inl (fun _ => 0))), (q40, .inl (cA40, 5, .inl (fun _ => 0)))] := hD
  have hK : va_K D vwCl [(cA23, .int), (cA40, .int)] s := hK
  refine va_putF (D := D) (ci := 5) (v := .ref q40) (ty := .array .int) (C := RX5) (T := TX5) (N := 10) hx hb ht (pm_cls (ci := 5) rfl).1 tyX5 tyX5_ok nmX5 hown hK hP hD hS 0 rfl rfl 6 (by decide) (ht (.fieldLink "PractisedWrong$Planner" 31 "PractisedWrong$Planner" "days" "[I") (pm_inW (wi := 225) (by decide +kernel) (by decide +kernel))) (fun _ h9 => h9) rfl hin rfl (by decide +kernel) rfl rfl (Nat.le_of_ble_eq_true rfl) dc_Pl_init_42 (fun H locs hP hD hS => ?_)
  have hP : va_P D vwCl [(h0, .inr (5, [.int 0, .int 0, .int (-2), .ref q23, .int 0, .int 0, .ref q40, .int 0, .null, .int 0])), (q23, .inl (cA23, 12, .inl (fun _ => 0))), (q40, .inl (cA40, 5, .inl (fun _ => 0)))] H := hP
  have hD : va_D A [(h0, .inr (5, [.int 0, .int 0, .int (-2), .ref q23, .int 0, .int 0, .ref q40, .int 0, .null, .int 0])), (q23, .inl (cA23, 12, .inl (fun _ => 0))), (q40, .inl (cA40, 5, .inl (fun _ => 0)))] := hD
  refine lv_aload_n hx hb dc_Pl_init_45 rfl (lv_at hl 0 rfl) ?_
  refine lv_iconst hx hb (v := (0 : Int32)) dc_Pl_init_46 rfl ?_
  refine va_put (D := D) (ci := 5) (v := .int 0) (ty := .int) (C := RX5) (T := TX5) (N := 10) hx hb ht (pm_cls (ci := 5) rfl).1 tyX5 tyX5_ok nmX5 hown hK hP hD hS 0 rfl rfl 7 (by decide) (ht (.fieldLink "PractisedWrong$Planner" 34 "PractisedWrong$Planner" "lastDay" "I") (pm_inW (wi := 226) (by decide +kernel) (by decide +kernel))) (fun _ h9 => h9) rfl (by decide +kernel) rfl rfl (Nat.le_of_ble_eq_true rfl) dc_Pl_init_47 (fun H locs hP hD hS => ?_)
  have hP : va_P D vwCl [(h0, .inr (5, [.int 0, .int 0, .int (-2), .ref q23, .int 0, .int 0, .ref q40, .int 0, .null, .int 0])), (q23, .inl (cA23, 12, .inl (fun _ => 0))), (q40, .inl (cA40, 5, .inl (fun _ => 0)))] H := hP
  have hD : va_D A [(h0, .inr (5, [.int 0, .int 0, .int (-2), .ref q23, .int 0, .int 0, .ref q40, .int 0, .null, .int 0])), (q23, .inl (cA23, 12, .inl (fun _ => 0))), (q40, .inl (cA40, 5, .inl (fun _ => 0)))] := hD
  refine lv_aload_n hx hb dc_Pl_init_50 rfl (lv_at hl 0 rfl) ?_
  refine lv_iconst hx hb (v := (5 : Int32)) dc_Pl_init_51 rfl ?_
  refine va_newa (atype := .int) (ty := .int) (N' := 5) (a0 := (5, .inl (fun _ => 0))) hx hb (ht (.arrayClass .int) kw_aint) rfl hK hP hD hS hA (fun _ => rfl) (by decide) rfl (by decide) (Nat.le_of_ble_eq_true rfl) (Nat.le_of_ble_eq_true rfl) dc_Pl_init_52 (fun q52 cA52 H hK hP hD hS => ?_)
  have hP : va_P D vwCl [(h0, .inr (5, [.int 0, .int 0, .int (-2), .ref q23, .int 0, .int 0, .ref q40, .int 0, .null, .int 0])), (q23, .inl (cA23, 12, .inl (fun _ => 0))), (q40, .inl (cA40, 5, .inl (fun _ => 0))), (q52, .inl (cA52, 5, .inl (fun _ => 0)))] H := hP
  have hD : va_D A [(h0, .inr (5, [.int 0, .int 0, .int (-2), .ref q23, .int 0, .int 0, .ref q40, .int 0, .null, .int 0])), (q23, .inl (cA23, 12, .inl (fun _ => 0))), (q40, .inl (cA40, 5, .inl (fun _ => 0))), (q52, .inl (cA52, 5, .inl (fun _ => 0)))] := hD
  have hK : va_K D vwCl [(cA23, .int), (cA40, .int), (cA52, .int)] s := hK
  refine va_putF (D := D) (ci := 5) (v := .ref q52) (ty := .array .int) (C := RX5) (T := TX5) (N := 10) hx hb ht (pm_cls (ci := 5) rfl).1 tyX5 tyX5_ok nmX5 hown hK hP hD hS 0 rfl rfl 8 (by decide) (ht (.fieldLink "PractisedWrong$Planner" 37 "PractisedWrong$Planner" "bestDays" "[I") (pm_inW (wi := 227) (by decide +kernel) (by decide +kernel))) (fun _ h9 => h9) rfl hin rfl (by decide +kernel) rfl rfl (Nat.le_of_ble_eq_true rfl) dc_Pl_init_54 (fun H locs hP hD hS => ?_)
  have hP : va_P D vwCl [(h0, .inr (5, [.int 0, .int 0, .int (-2), .ref q23, .int 0, .int 0, .ref q40, .int 0, .ref q52, .int 0])), (q23, .inl (cA23, 12, .inl (fun _ => 0))), (q40, .inl (cA40, 5, .inl (fun _ => 0))), (q52, .inl (cA52, 5, .inl (fun _ => 0)))] H := hP
  have hD : va_D A [(h0, .inr (5, [.int 0, .int 0, .int (-2), .ref q23, .int 0, .int 0, .ref q40, .int 0, .ref q52, .int 0])), (q23, .inl (cA23, 12, .inl (fun _ => 0))), (q40, .inl (cA40, 5, .inl (fun _ => 0))), (q52, .inl (cA52, 5, .inl (fun _ => 0)))] := hD
  refine lv_aload_n hx hb dc_Pl_init_57 rfl (lv_at hl 0 rfl) ?_
  refine lv_ldc hx hb hown (v := (-2000000000 : Int32)) (ht (Jvm.Cond.constant "PractisedWrong$Planner" 40 (-2000000000)) (pm_inW (wi := 213) (by decide +kernel) (by decide +kernel))) dc_Pl_init_58 ?_
  refine va_put (D := D) (ci := 5) (v := .int (-2000000000)) (ty := .int) (C := RX5) (T := TX5) (N := 10) hx hb ht (pm_cls (ci := 5) rfl).1 tyX5 tyX5_ok nmX5 hown hK hP hD hS 0 rfl rfl 9 (by decide) (ht (.fieldLink "PractisedWrong$Planner" 41 "PractisedWrong$Planner" "bestLead" "I") (pm_inW (wi := 229) (by decide +kernel) (by decide +kernel))) (fun _ h9 => h9) rfl (by decide +kernel) rfl rfl (Nat.le_of_ble_eq_true rfl) dc_Pl_init_60 (fun H locs hP hD hS => ?_)
  have hP : va_P D vwCl [(h0, .inr (5, [.int 0, .int 0, .int (-2), .ref q23, .int 0, .int 0, .ref q40, .int 0, .ref q52, .int (-2000000000)])), (q23, .inl (cA23, 12, .inl (fun _ => 0))), (q40, .inl (cA40, 5, .inl (fun _ => 0))), (q52, .inl (cA52, 5, .inl (fun _ => 0)))] H := hP
  have hD : va_D A [(h0, .inr (5, [.int 0, .int 0, .int (-2), .ref q23, .int 0, .int 0, .ref q40, .int 0, .ref q52, .int (-2000000000)])), (q23, .inl (cA23, 12, .inl (fun _ => 0))), (q40, .inl (cA40, 5, .inl (fun _ => 0))), (q52, .inl (cA52, 5, .inl (fun _ => 0)))] := hD
  have hP9 := hP
  have hD9 := hD
  exact W.vret hx hb hr (fun t ht9 hW => ⟨⟨(), rfl, trivial, q23, q40, q52, cA23, cA40, cA52, by rw [ht9]; exact hP9, va_K.moved hW.alike hK, hD9⟩, hS.F ht9⟩) hS.2.2 dc_Pl_init_63
theorem dc_La_init_0 : decode (pm_by M_La_init) 0 = .ok (.aload_n 0, 1) := by decide +kernel
theorem dc_La_init_1 : decode (pm_by M_La_init) 1 = .ok (.invokespecial 3, 3) := by decide +kernel
theorem dc_La_init_4 : decode (pm_by M_La_init) 4 = .ok (.aload_n 0, 1) := by decide +kernel
theorem dc_La_init_5 : decode (pm_by M_La_init) 5 = .ok (.bipush 120, 2) := by decide +kernel
theorem dc_La_init_7 : decode (pm_by M_La_init) 7 = .ok (.newarray .int, 2) := by decide +kernel
theorem dc_La_init_9 : decode (pm_by M_La_init) 9 = .ok (.putfield 11, 3) := by decide +kernel
theorem dc_La_init_12 : decode (pm_by M_La_init) 12 = .ok (.aload_n 0, 1) := by decide +kernel
theorem dc_La_init_13 : decode (pm_by M_La_init) 13 = .ok (.iconst 0, 1) := by decide +kernel
theorem dc_La_init_14 : decode (pm_by M_La_init) 14 = .ok (.putfield 15, 3) := by decide +kernel
theorem dc_La_init_17 : decode (pm_by M_La_init) 17 = .ok (.aload_n 0, 1) := by decide +kernel
theorem dc_La_init_18 : decode (pm_by M_La_init) 18 = .ok (.iconst 0, 1) := by decide +kernel
theorem dc_La_init_19 : decode (pm_by M_La_init) 19 = .ok (.putfield 19, 3) := by decide +kernel
theorem dc_La_init_22 : decode (pm_by M_La_init) 22 = .ok (.aload_n 0, 1) := by decide +kernel
theorem dc_La_init_23 : decode (pm_by M_La_init) 23 = .ok (.bipush 124, 2) := by decide +kernel
theorem dc_La_init_25 : decode (pm_by M_La_init) 25 = .ok (.newarray .int, 2) := by decide +kernel
theorem dc_La_init_27 : decode (pm_by M_La_init) 27 = .ok (.putfield 22, 3) := by decide +kernel
theorem dc_La_init_30 : decode (pm_by M_La_init) 30 = .ok (.aload_n 0, 1) := by decide +kernel
theorem dc_La_init_31 : decode (pm_by M_La_init) 31 = .ok (.iconst 0, 1) := by decide +kernel
theorem dc_La_init_32 : decode (pm_by M_La_init) 32 = .ok (.putfield 25, 3) := by decide +kernel
theorem dc_La_init_35 : decode (pm_by M_La_init) 35 = .ok (.aload_n 0, 1) := by decide +kernel
theorem dc_La_init_36 : decode (pm_by M_La_init) 36 = .ok (.bipush 124, 2) := by decide +kernel
theorem dc_La_init_38 : decode (pm_by M_La_init) 38 = .ok (.newarray .int, 2) := by decide +kernel
theorem dc_La_init_40 : decode (pm_by M_La_init) 40 = .ok (.putfield 28, 3) := by decide +kernel
theorem dc_La_init_43 : decode (pm_by M_La_init) 43 = .ok (.aload_n 0, 1) := by decide +kernel
theorem dc_La_init_44 : decode (pm_by M_La_init) 44 = .ok (.iconst 0, 1) := by decide +kernel
theorem dc_La_init_45 : decode (pm_by M_La_init) 45 = .ok (.putfield 31, 3) := by decide +kernel
theorem dc_La_init_48 : decode (pm_by M_La_init) 48 = .ok (.aload_n 0, 1) := by decide +kernel
theorem dc_La_init_49 : decode (pm_by M_La_init) 49 = .ok (.bipush 64, 2) := by decide +kernel
theorem dc_La_init_51 : decode (pm_by M_La_init) 51 = .ok (.newarray .int, 2) := by decide +kernel
theorem dc_La_init_53 : decode (pm_by M_La_init) 53 = .ok (.putfield 34, 3) := by decide +kernel
theorem dc_La_init_56 : decode (pm_by M_La_init) 56 = .ok (.aload_n 0, 1) := by decide +kernel
theorem dc_La_init_57 : decode (pm_by M_La_init) 57 = .ok (.bipush 6, 2) := by decide +kernel
theorem dc_La_init_59 : decode (pm_by M_La_init) 59 = .ok (.newarray .int, 2) := by decide +kernel
theorem dc_La_init_61 : decode (pm_by M_La_init) 61 = .ok (.putfield 37, 3) := by decide +kernel
theorem dc_La_init_64 : decode (pm_by M_La_init) 64 = .ok (.return_, 1) := by decide +kernel
abbrev at_La_init (D : va_G) (A : Nat → Prop) (h0 : Nat) (t : State) : Prop := ∃ (q7 q25 q38 q51 q59 : Nat) (cA7 cA25 cA38 cA51 cA59 : ClassId), va_P D vwCl [(h0, .inr (4, [.ref q7, .int 0, .int 0, .ref q25, .int 0, .ref q38, .int 0, .ref q51, .ref q59])), (q7, .inl (cA7, 120, .inl (fun _ => 0))), (q25, .inl (cA25, 124, .inl (fun _ => 0))), (q38, .inl (cA38, 124, .inl (fun _ => 0))), (q51, .inl (cA51, 64, .inl (fun _ => 0))), (q59, .inl (cA59, 6, .inl (fun _ => 0)))] t.heap ∧ va_K D vwCl [(cA7, .int), (cA25, .int), (cA38, .int), (cA51, .int), (cA59, .int)] t ∧ va_D A [(h0, .inr (4, [.ref q7, .int 0, .int 0, .ref q25, .int 0, .ref q38, .int 0, .ref q51, .ref q59])), (q7, .inl (cA7, 120, .inl (fun _ => 0))), (q25, .inl (cA25, 124, .inl (fun _ => 0))), (q38, .inl (cA38, 124, .inl (fun _ => 0))), (q51, .inl (cA51, 64, .inl (fun _ => 0))), (q59, .inl (cA59, 6, .inl (fun _ => 0)))]
set_option maxHeartbeats 4000000 in
set_option maxRecDepth 100000 in
theorem c_La_init (l : Launch) (D : va_G) (h0 sz : Nat) : Met l (pm_nm M_La_init) (pm_wy M_La_init) ({ frames := 1, cells := 5, slots := 438, locals := 12 }) (va_Pc [.ref h0] (fun U => U.heap.size = sz ∧ va_P D vwCl [(h0, .inr (4, [.null, .int 0, .int 0, .null, .int 0, .null, .int 0, .null, .null]))] U.heap ∧ va_K D vwCl [] U ∧ va_D (fun _ => True) [(h0, .inr (4, [.null, .int 0, .int 0, .null, .int 0, .null, .int 0, .null, .null]))])) (va_Qv (fun _ : Unit => True) (fun _ t => at_La_init D (va_A [(h0, .inr (4, [.null, .int 0, .int 0, .null, .int 0, .null, .int 0, .null, .null]))] sz) h0 t) (va_A [(h0, .inr (4, [.null, .int 0, .int 0, .null, .int 0, .null, .int 0, .null, .null]))] sz)) 5 438 (va_A [(h0, .inr (4, [.null, .int 0, .int 0, .null, .int 0, .null, .int 0, .null, .null]))] sz) := by
  refine Met.ofW (cc := pm_by M_La_init) (maxL := 1) (ret := none) (by decide) rfl ?_
  intro p e s m args below meth c s₁ B hml hv
  obtain ⟨rfl, hsz, hP, hK, hD0⟩ := hv
  have hx := B.exec
  have hb := B.bytes
  have hr := B.returns
  have hts := atoms_spec (ws := pm_wy M_La_init) B.pre
  have ht : ∀ w ∈ pm_tbl, w.before _ s = true := fun w hw => hts w (List.mem_cons_of_mem _ hw)
  have hown : s.vm.findClass "PractisedWrong$Law" = some m.cls := findClass_of_methodNamed B.named
  have hin : meth.name = "<init>" := (name_of_methodNamed B.named B.method).1
  subst hsz
  have hD := hD0.self (sz := s.heap.size)
  generalize hAe : va_A [(h0, .inr (4, [.null, .int 0, .int 0, .null, .int 0, .null, .int 0, .null, .null]))] s.heap.size = A at hD ⊢
  have hA : ∀ q : Nat, s.heap.size ≤ q → A q := fun q h => by rw [← hAe]; exact Or.inr h
  have hS : va_S A s.heap s.heap [] := va_S.rf
  have hP : va_P D vwCl [(h0, .inr (4, [.null, .int 0, .int 0, .null, .int 0, .null, .int 0, .null, .null]))] s.heap := hP
  have hl := lv_entry ([.ref h0]) (n := 1) (Nat.le_of_ble_eq_true rfl)
  rw [lg_entry_eq]
  generalize (lg_sl ([.ref h0]) ++ List.replicate (1 - (lg_sl ([.ref h0])).length) Slot.unset).toArray = ls at hl ⊢
  have hl : lv_has ls 1 [(0, .ref h0)] := hl
  refine lv_aload_n hx hb dc_La_init_0 rfl (lv_at hl 0 rfl) ?_
  refine W.objInit hx hb hown (ht (.methodLink "PractisedWrong$Law" 3 objectInit) (pm_inW (wi := 151) (by decide +kernel) (by decide +kernel))) (ht (.instanceMethod objectInit) kw_oi) (ht _ kw_oc) rfl (by rw [hml]; exact hl.1) rfl dc_La_init_1 (Nat.le_of_ble_eq_true rfl) (Nat.le_of_ble_eq_true rfl) ?_
  refine W.eq (g2 := F0 m 4 ls []) rfl ?_
  refine lv_aload_n hx hb dc_La_init_4 rfl (lv_at hl 0 rfl) ?_
  refine lv_bipush hx hb (v := (120 : Int32)) dc_La_init_5 rfl ?_
  refine va_newa (atype := .int) (ty := .int) (N' := 120) (a0 := (120, .inl (fun _ => 0))) hx hb (ht (.arrayClass .int) kw_aint) rfl hK hP hD hS hA (fun _ => rfl) (by decide) rfl (by decide) (Nat.le_of_ble_eq_true rfl) (Nat.le_of_ble_eq_true rfl) dc_La_init_7 (fun q7 cA7 H hK hP hD hS => ?_)
  have hP : va_P D vwCl [(h0, .inr (4, [.null, .int 0, .int 0, .null, .int 0, .null, .int 0, .null, .null])), (q7, .inl (cA7, 120, .inl (fun _ => 0)))] H := hP
  have hD : va_D A [(h0, .inr (4, [.null, .int 0, .int 0, .null, .int 0, .null, .int 0, .null, .null])), (q7, .inl (cA7, 120, .inl (fun _ => 0)))] := hD
  have hK : va_K D vwCl [(cA7, .int)] s := hK
  refine va_putF (D := D) (ci := 4) (v := .ref q7) (ty := .array .int) (C := RX4) (T := TX4) (N := 9) hx hb ht (pm_cls (ci := 4) rfl).1 tyX4 tyX4_ok nmX4 hown hK hP hD hS 0 rfl rfl 0 (by decide) (ht (.fieldLink "PractisedWrong$Law" 11 "PractisedWrong$Law" "tape" "[I") (pm_inW (wi := 152) (by decide +kernel) (by decide +kernel))) (fun _ h9 => h9) rfl hin rfl (by decide +kernel) rfl rfl (Nat.le_of_ble_eq_true rfl) dc_La_init_9 (fun H locs hP hD hS => ?_)
  have hP : va_P D vwCl [(h0, .inr (4, [.ref q7, .int 0, .int 0, .null, .int 0, .null, .int 0, .null, .null])), (q7, .inl (cA7, 120, .inl (fun _ => 0)))] H := hP
  have hD : va_D A [(h0, .inr (4, [.ref q7, .int 0, .int 0, .null, .int 0, .null, .int 0, .null, .null])), (q7, .inl (cA7, 120, .inl (fun _ => 0)))] := hD
  refine lv_aload_n hx hb dc_La_init_12 rfl (lv_at hl 0 rfl) ?_
  refine lv_iconst hx hb (v := (0 : Int32)) dc_La_init_13 rfl ?_
  refine va_put (D := D) (ci := 4) (v := .int 0) (ty := .int) (C := RX4) (T := TX4) (N := 9) hx hb ht (pm_cls (ci := 4) rfl).1 tyX4 tyX4_ok nmX4 hown hK hP hD hS 0 rfl rfl 1 (by decide) (ht (.fieldLink "PractisedWrong$Law" 15 "PractisedWrong$Law" "tapeLength" "I") (pm_inW (wi := 153) (by decide +kernel) (by decide +kernel))) (fun _ h9 => h9) rfl (by decide +kernel) rfl rfl (Nat.le_of_ble_eq_true rfl) dc_La_init_14 (fun H locs hP hD hS => ?_)
  have hP : va_P D vwCl [(h0, .inr (4, [.ref q7, .int 0, .int 0, .null, .int 0, .null, .int 0, .null, .null])), (q7, .inl (cA7, 120, .inl (fun _ => 0)))] H := hP
  have hD : va_D A [(h0, .inr (4, [.ref q7, .int 0, .int 0, .null, .int 0, .null, .int 0, .null, .null])), (q7, .inl (cA7, 120, .inl (fun _ => 0)))] := hD
  refine lv_aload_n hx hb dc_La_init_17 rfl (lv_at hl 0 rfl) ?_
  refine lv_iconst hx hb (v := (0 : Int32)) dc_La_init_18 rfl ?_
  refine va_put (D := D) (ci := 4) (v := .int 0) (ty := .int) (C := RX4) (T := TX4) (N := 9) hx hb ht (pm_cls (ci := 4) rfl).1 tyX4 tyX4_ok nmX4 hown hK hP hD hS 0 rfl rfl 2 (by decide) (ht (.fieldLink "PractisedWrong$Law" 19 "PractisedWrong$Law" "place" "I") (pm_inW (wi := 155) (by decide +kernel) (by decide +kernel))) (fun _ h9 => h9) rfl (by decide +kernel) rfl rfl (Nat.le_of_ble_eq_true rfl) dc_La_init_19 (fun H locs hP hD hS => ?_)
  have hP : va_P D vwCl [(h0, .inr (4, [.ref q7, .int 0, .int 0, .null, .int 0, .null, .int 0, .null, .null])), (q7, .inl (cA7, 120, .inl (fun _ => 0)))] H := hP
  have hD : va_D A [(h0, .inr (4, [.ref q7, .int 0, .int 0, .null, .int 0, .null, .int 0, .null, .null])), (q7, .inl (cA7, 120, .inl (fun _ => 0)))] := hD
  refine lv_aload_n hx hb dc_La_init_22 rfl (lv_at hl 0 rfl) ?_
  refine lv_bipush hx hb (v := (124 : Int32)) dc_La_init_23 rfl ?_
  refine va_newa (atype := .int) (ty := .int) (N' := 124) (a0 := (124, .inl (fun _ => 0))) hx hb (ht (.arrayClass .int) kw_aint) rfl hK hP hD hS hA (fun _ => rfl) (by decide) rfl (by decide) (Nat.le_of_ble_eq_true rfl) (Nat.le_of_ble_eq_true rfl) dc_La_init_25 (fun q25 cA25 H hK hP hD hS => ?_)
  have hP : va_P D vwCl [(h0, .inr (4, [.ref q7, .int 0, .int 0, .null, .int 0, .null, .int 0, .null, .null])), (q7, .inl (cA7, 120, .inl (fun _ => 0))), (q25, .inl (cA25, 124, .inl (fun _ => 0)))] H := hP
  have hD : va_D A [(h0, .inr (4, [.ref q7, .int 0, .int 0, .null, .int 0, .null, .int 0, .null, .null])), (q7, .inl (cA7, 120, .inl (fun _ => 0))), (q25, .inl (cA25, 124, .inl (fun _ => 0)))] := hD
  have hK : va_K D vwCl [(cA7, .int), (cA25, .int)] s := hK
  refine va_put (D := D) (ci := 4) (v := .ref q25) (ty := .array .int) (C := RX4) (T := TX4) (N := 9) hx hb ht (pm_cls (ci := 4) rfl).1 tyX4 tyX4_ok nmX4 hown hK hP hD hS 0 rfl rfl 3 (by decide) (ht (.fieldLink "PractisedWrong$Law" 22 "PractisedWrong$Law" "draft" "[I") (pm_inW (wi := 156) (by decide +kernel) (by decide +kernel))) (fun _ h9 => h9) rfl (by decide +kernel) rfl rfl (Nat.le_of_ble_eq_true rfl) dc_La_init_27 (fun H locs hP hD hS => ?_)
  have hP : va_P D vwCl [(h0, .inr (4, [.ref q7, .int 0, .int 0, .ref q25, .int 0, .null, .int 0, .null, .null])), (q7, .inl (cA7, 120, .inl (fun _ => 0))), (q25, .inl (cA25, 124, .inl (fun _ => 0)))] H := hP
  have hD : va_D A [(h0, .inr (4, [.ref q7, .int 0, .int 0, .ref q25, .int 0, .null, .int 0, .null, .null])), (q7, .inl (cA7, 120, .inl (fun _ => 0))), (q25, .inl (cA25, 124, .inl (fun _ => 0)))] := hD
  refine lv_aload_n hx hb dc_La_init_30 rfl (lv_at hl 0 rfl) ?_
  refine lv_iconst hx hb (v := (0 : Int32)) dc_La_init_31 rfl ?_
  refine va_put (D := D) (ci := 4) (v := .int 0) (ty := .int) (C := RX4) (T := TX4) (N := 9) hx hb ht (pm_cls (ci := 4) rfl).1 tyX4 tyX4_ok nmX4 hown hK hP hD hS 0 rfl rfl 4 (by decide) (ht (.fieldLink "PractisedWrong$Law" 25 "PractisedWrong$Law" "draftLength" "I") (pm_inW (wi := 157) (by decide +kernel) (by decide +kernel))) (fun _ h9 => h9) rfl (by decide +kernel) rfl rfl (Nat.le_of_ble_eq_true rfl) dc_La_init_32 (fun H locs hP hD hS => ?_)
  have hP : va_P D vwCl [(h0, .inr (4, [.ref q7, .int 0, .int 0, .ref q25, .int 0, .null, .int 0, .null, .null])), (q7, .inl (cA7, 120, .inl (fun _ => 0))), (q25, .inl (cA25, 124, .inl (fun _ => 0)))] H := hP
  have hD : va_D A [(h0, .inr (4, [.ref q7, .int 0, .int 0, .ref q25, .int 0, .null, .int 0, .null, .null])), (q7, .inl (cA7, 120, .inl (fun _ => 0))), (q25, .inl (cA25, 124, .inl (fun _ => 0)))] := hD
  refine lv_aload_n hx hb dc_La_init_35 rfl (lv_at hl 0 rfl) ?_
  refine lv_bipush hx hb (v := (124 : Int32)) dc_La_init_36 rfl ?_
  refine va_newa (atype := .int) (ty := .int) (N' := 124) (a0 := (124, .inl (fun _ => 0))) hx hb (ht (.arrayClass .int) kw_aint) rfl hK hP hD hS hA (fun _ => rfl) (by decide) rfl (by decide) (Nat.le_of_ble_eq_true rfl) (Nat.le_of_ble_eq_true rfl) dc_La_init_38 (fun q38 cA38 H hK hP hD hS => ?_)
  have hP : va_P D vwCl [(h0, .inr (4, [.ref q7, .int 0, .int 0, .ref q25, .int 0, .null, .int 0, .null, .null])), (q7, .inl (cA7, 120, .inl (fun _ => 0))), (q25, .inl (cA25, 124, .inl (fun _ => 0))), (q38, .inl (cA38, 124, .inl (fun _ => 0)))] H := hP
  have hD : va_D A [(h0, .inr (4, [.ref q7, .int 0, .int 0, .ref q25, .int 0, .null, .int 0, .null, .null])), (q7, .inl (cA7, 120, .inl (fun _ => 0))), (q25, .inl (cA25, 124, .inl (fun _ => 0))), (q38, .inl (cA38, 124, .inl (fun _ => 0)))] := hD
  have hK : va_K D vwCl [(cA7, .int), (cA25, .int), (cA38, .int)] s := hK
  refine va_put (D := D) (ci := 4) (v := .ref q38) (ty := .array .int) (C := RX4) (T := TX4) (N := 9) hx hb ht (pm_cls (ci := 4) rfl).1 tyX4 tyX4_ok nmX4 hown hK hP hD hS 0 rfl rfl 5 (by decide) (ht (.fieldLink "PractisedWrong$Law" 28 "PractisedWrong$Law" "code" "[I") (pm_inW (wi := 158) (by decide +kernel) (by decide +kernel))) (fun _ h9 => h9) rfl (by decide +kernel) rfl rfl (Nat.le_of_ble_eq_true rfl) dc_La_init_40 (fun H locs hP hD hS => ?_)
  have hP : va_P D vwCl [(h0, .inr (4, [.ref q7, .int 0, .int 0, .ref q25, .int 0, .ref q38, .int 0, .null, .null])), (q7, .inl (cA7, 120, .inl (fun _ => 0))), (q25, .inl (cA25, 124, .inl (fun _ => 0))), (q38, .inl (cA38, 124, .inl (fun _ => 0)))] H := hP
  have hD : va_D A [(h0, .inr (4, [.ref q7, .int 0, .int 0, .ref q25, .int 0, .ref q38, .int 0, .null, .null])), (q7, .inl (cA7, 120, .inl (fun _ => 0))), (q25, .inl (cA25, 124, .inl (fun _ => 0))), (q38, .inl (cA38, 124, .inl (fun _ => 0)))] := hD
  refine lv_aload_n hx hb dc_La_init_43 rfl (lv_at hl 0 rfl) ?_
  refine lv_iconst hx hb (v := (0 : Int32)) dc_La_init_44 rfl ?_
  refine va_put (D := D) (ci := 4) (v := .int 0) (ty := .int) (C := RX4) (T := TX4) (N := 9) hx hb ht (pm_cls (ci := 4) rfl).1 tyX4 tyX4_ok nmX4 hown hK hP hD hS 0 rfl rfl 6 (by decide) (ht (.fieldLink "PractisedWrong$Law" 31 "PractisedWrong$Law" "codeLength" "I") (pm_inW (wi := 159) (by decide +kernel) (by decide +kernel))) (fun _ h9 => h9) rfl (by decide +kernel) rfl rfl (Nat.le_of_ble_eq_true rfl) dc_La_init_45 (fun H locs hP hD hS => ?_)
  have hP : va_P D vwCl [(h0, .inr (4, [.ref q7, .int 0, .int 0, .ref q25, .int 0, .ref q38, .int 0, .null, .null])), (q7, .inl (cA7, 120, .inl (fun _ => 0))), (q25, .inl (cA25, 124, .inl (fun _ => 0))), (q38, .inl (cA38, 124, .inl (fun _ => 0)))] H := hP
  have hD : va_D A [(h0, .inr (4, [.ref q7, .int 0, .int 0, .ref q25, .int 0, .ref q38, .int 0, .null, .null])), (q7, .inl (cA7, 120, .inl (fun _ => 0))), (q25, .inl (cA25, 124, .inl (fun _ => 0))), (q38, .inl (cA38, 124, .inl (fun _ => 0)))] := hD
  refine lv_aload_n hx hb dc_La_init_48 rfl (lv_at hl 0 rfl) ?_
  refine lv_bipush hx hb (v := (64 : Int32)) dc_La_init_49 rfl ?_
  refine va_newa (atype := .int) (ty := .int) (N' := 64) (a0 := (64, .inl (fun _ => 0))) hx hb (ht (.arrayClass .int) kw_aint) rfl hK hP hD hS hA (fun _ => rfl) (by decide) rfl (by decide) (Nat.le_of_ble_eq_true rfl) (Nat.le_of_ble_eq_true rfl) dc_La_init_51 (fun q51 cA51 H hK hP hD hS => ?_)
  have hP : va_P D vwCl [(h0, .inr (4, [.ref q7, .int 0, .int 0, .ref q25, .int 0, .ref q38, .int 0, .null, .null])), (q7, .inl (cA7, 120, .inl (fun _ => 0))), (q25, .inl (cA25, 124, .inl (fun _ => 0))), (q38, .inl (cA38, 124, .inl (fun _ => 0))), (q51, .inl (cA51, 64, .inl (fun _ => 0)))] H := hP
  have hD : va_D A [(h0, .inr (4, [.ref q7, .int 0, .int 0, .ref q25, .int 0, .ref q38, .int 0, .null, .null])), (q7, .inl (cA7, 120, .inl (fun _ => 0))), (q25, .inl (cA25, 124, .inl (fun _ => 0))), (q38, .inl (cA38, 124, .inl (fun _ => 0))), (q51, .inl (cA51, 64, .inl (fun _ => 0)))] := hD
  have hK : va_K D vwCl [(cA7, .int), (cA25, .int), (cA38, .int), (cA51, .int)] s := hK
  refine va_putF (D := D) (ci := 4) (v := .ref q51) (ty := .array .int) (C := RX4) (T := TX4) (N := 9) hx hb ht (pm_cls (ci := 4) rfl).1 tyX4 tyX4_ok nmX4 hown hK hP hD hS 0 rfl rfl 7 (by decide) (ht (.fieldLink "PractisedWrong$Law" 34 "PractisedWrong$Law" "stack" "[I") (pm_inW (wi := 160) (by decide +kernel) (by decide +kernel))) (fun _ h9 => h9) rfl hin rfl (by decide +kernel) rfl rfl (Nat.le_of_ble_eq_true rfl) dc_La_init_53 (fun H locs hP hD hS => ?_)
  have hP : va_P D vwCl [(h0, .inr (4, [.ref q7, .int 0, .int 0, .ref q25, .int 0, .ref q38, .int 0, .ref q51, .null])), (q7, .inl (cA7, 120, .inl (fun _ => 0))), (q25, .inl (cA25, 124, .inl (fun _ => 0))), (q38, .inl (cA38, 124, .inl (fun _ => 0))), (q51, .inl (cA51, 64, .inl (fun _ => 0)))] H := hP
  have hD : va_D A [(h0, .inr (4, [.ref q7, .int 0, .int 0, .ref q25, .int 0, .ref q38, .int 0, .ref q51, .null])), (q7, .inl (cA7, 120, .inl (fun _ => 0))), (q25, .inl (cA25, 124, .inl (fun _ => 0))), (q38, .inl (cA38, 124, .inl (fun _ => 0))), (q51, .inl (cA51, 64, .inl (fun _ => 0)))] := hD
  refine lv_aload_n hx hb dc_La_init_56 rfl (lv_at hl 0 rfl) ?_
  refine lv_bipush hx hb (v := (6 : Int32)) dc_La_init_57 rfl ?_
  refine va_newa (atype := .int) (ty := .int) (N' := 6) (a0 := (6, .inl (fun _ => 0))) hx hb (ht (.arrayClass .int) kw_aint) rfl hK hP hD hS hA (fun _ => rfl) (by decide) rfl (by decide) (Nat.le_of_ble_eq_true rfl) (Nat.le_of_ble_eq_true rfl) dc_La_init_59 (fun q59 cA59 H hK hP hD hS => ?_)
  have hP : va_P D vwCl [(h0, .inr (4, [.ref q7, .int 0, .int 0, .ref q25, .int 0, .ref q38, .int 0, .ref q51, .null])), (q7, .inl (cA7, 120, .inl (fun _ => 0))), (q25, .inl (cA25, 124, .inl (fun _ => 0))), (q38, .inl (cA38, 124, .inl (fun _ => 0))), (q51, .inl (cA51, 64, .inl (fun _ => 0))), (q59, .inl (cA59, 6, .inl (fun _ => 0)))] H := hP
  have hD : va_D A [(h0, .inr (4, [.ref q7, .int 0, .int 0, .ref q25, .int 0, .ref q38, .int 0, .ref q51, .null])), (q7, .inl (cA7, 120, .inl (fun _ => 0))), (q25, .inl (cA25, 124, .inl (fun _ => 0))), (q38, .inl (cA38, 124, .inl (fun _ => 0))), (q51, .inl (cA51, 64, .inl (fun _ => 0))), (q59, .inl (cA59, 6, .inl (fun _ => 0)))] := hD
  have hK : va_K D vwCl [(cA7, .int), (cA25, .int), (cA38, .int), (cA51, .int), (cA59, .int)] s := hK
  refine va_putF (D := D) (ci := 4) (v := .ref q59) (ty := .array .int) (C := RX4) (T := TX4) (N := 9) hx hb ht (pm_cls (ci := 4) rfl).1 tyX4 tyX4_ok nmX4 hown hK hP hD hS 0 rfl rfl 8 (by decide) (ht (.fieldLink "PractisedWrong$Law" 37 "PractisedWrong$Law" "names" "[I") (pm_inW (wi := 161) (by decide +kernel) (by decide +kernel))) (fun _ h9 => h9) rfl hin rfl (by decide +kernel) rfl rfl (Nat.le_of_ble_eq_true rfl) dc_La_init_61 (fun H locs hP hD hS => ?_)
  have hP : va_P D vwCl [(h0, .inr (4, [.ref q7, .int 0, .int 0, .ref q25, .int 0, .ref q38, .int 0, .ref q51, .ref q59])), (q7, .inl (cA7, 120, .inl (fun _ => 0))), (q25, .inl (cA25, 124, .inl (fun _ => 0))), (q38, .inl (cA38, 124, .inl (fun _ => 0))), (q51, .inl (cA51, 64, .inl (fun _ => 0))), (q59, .inl (cA59, 6, .inl (fun _ => 0)))] H := hP
  have hD : va_D A [(h0, .inr (4, [.ref q7, .int 0, .int 0, .ref q25, .int 0, .ref q38, .int 0, .ref q51, .ref q59])), (q7, .inl (cA7, 120, .inl (fun _ => 0))), (q25, .inl (cA25, 124, .inl (fun _ => 0))), (q38, .inl (cA38, 124, .inl (fun _ => 0))), (q51, .inl (cA51, 64, .inl (fun _ => 0))), (q59, .inl (cA59, 6, .inl (fun _ => 0)))] := hD
  have hP9 := hP
  have hD9 := hD
  exact W.vret hx hb hr (fun t ht9 hW => ⟨⟨(), rfl, trivial, q7, q25, q38, q51, q59, cA7, cA25, cA38, cA51, cA59, by rw [ht9]; exact hP9, va_K.moved hW.alike hK, hD9⟩, hS.F ht9⟩) hS.2.2 dc_La_init_64
