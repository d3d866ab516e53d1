/-! soundness: statics, the moving rows, copying, calls, ends -/
section
variable {X : Option (Nat × (Nat → Int32))} {d y : Nat} {Q : pmQ} {pc : Nat} {ls : pmL} {r : List Value} {H : pmT}
theorem pm_rf_2000 : ∀ o, o < 85 → ∀ k, k < 60 → (pm_rfl.getD o []).getD k 999 = 2000 → o = 14 ∧ k = 3 := by decide +kernel
theorem pm_rf_2001 : ∀ o, o < 85 → ∀ k, k < 60 → (pm_rfl.getD o []).getD k 999 = 2001 → o = 14 ∧ k = 5 := by decide +kernel
theorem pr_putD {j x : Nat} (hd : decode (pm_by y) pc = .ok (.putfield j, 3)) (hw : Jvm.Cond.fieldLink (pm_nm y).cls j "PractisedWrong$Law" "draft" "[I" ∈ pm_tbl) (kk : pm_RW X d y Q (pc + 3) ls r (H.1, H.2.1, x, H.2.2.2)) : pm_RW X d y Q pc ls (.ref x :: .ref 14 :: r) H := by
  intro p l e R s m args below meth c cells slots Z D tc ad A C Hp locs lsa hP hD hS hl
  have hc : vwCl[4]? = some (RX4, TX4, 9) := rfl
  have ho : pm_SH[14]? = some (.inl 4) := rfl
  obtain ⟨ty0, hty⟩ := (pm_cls hc).2.1
  have e0 : (pm_ws tc ad H).set 14 (ad 14, .inr (4, (pm_fs ad H 14 4).set 3 (.ref (ad x)))) = pm_ws tc ad (H.1, H.2.1, x, H.2.2.2) := pm_setW ho (fun o' s' hn hs => pm_cellR (by rw [← pm_SH_len]; exact pm_lt hs) hn rfl rfl) rfl
  refine va_put (v := .ref (ad x)) (C := RX4) (T := TX4) (N := 9) C.1 C.2.1 C.2.2.2.2.1.1 (pm_cls hc).1 ty0 hty (pm_cls hc).2.2 C.2.2.2.1 C.2.2.2.2.2.1 hP hD hS 14 (pm_atW ho) hc 3 (by decide) (C.2.2.2.2.1.1 _ hw) (fun _ h9 => h9) rfl (tyX4_ok 3 (by decide)) rfl rfl (by rw [pm_fs_len]; decide) hd (fun H1 locs1 hP hD hS => ?_)
  rw [e0] at hP hD
  exact kk p l e R s m args below meth c cells slots Z D tc ad A C H1 locs1 lsa hP hD hS hl
theorem pr_putC {j x : Nat} (hd : decode (pm_by y) pc = .ok (.putfield j, 3)) (hw : Jvm.Cond.fieldLink (pm_nm y).cls j "PractisedWrong$Law" "code" "[I" ∈ pm_tbl) (kk : pm_RW X d y Q (pc + 3) ls r (H.1, H.2.1, H.2.2.1, x)) : pm_RW X d y Q pc ls (.ref x :: .ref 14 :: r) H := by
  intro p l e R s m args below meth c cells slots Z D tc ad A C Hp locs lsa hP hD hS hl
  have hc : vwCl[4]? = some (RX4, TX4, 9) := rfl
  have ho : pm_SH[14]? = some (.inl 4) := rfl
  obtain ⟨ty0, hty⟩ := (pm_cls hc).2.1
  have e0 : (pm_ws tc ad H).set 14 (ad 14, .inr (4, (pm_fs ad H 14 4).set 5 (.ref (ad x)))) = pm_ws tc ad (H.1, H.2.1, H.2.2.1, x) := pm_setW ho (fun o' s' hn hs => pm_cellR (by rw [← pm_SH_len]; exact pm_lt hs) hn rfl rfl) rfl
  refine va_put (v := .ref (ad x)) (C := RX4) (T := TX4) (N := 9) C.1 C.2.1 C.2.2.2.2.1.1 (pm_cls hc).1 ty0 hty (pm_cls hc).2.2 C.2.2.2.1 C.2.2.2.2.2.1 hP hD hS 14 (pm_atW ho) hc 5 (by decide) (C.2.2.2.2.1.1 _ hw) (fun _ h9 => h9) rfl (tyX4_ok 5 (by decide)) rfl rfl (by rw [pm_fs_len]; decide) hd (fun H1 locs1 hP hD hS => ?_)
  rw [e0] at hP hD
  exact kk p l e R s m args below meth c cells slots Z D tc ad A C H1 locs1 lsa hP hD hS hl
/-- what a static's place is: class, name -/
def pm_sn (j : Nat) : String × String := match j with
  | 0 => ("PractisedWrong", "GREATEST")
  | 1 => ("PractisedWrong$Bodies", "ABOVE")
  | _ => ("PractisedWrong$Bodies", "OWN")
theorem pr_gets {j i : Nat} (hj : j < 3) (hd : decode (pm_by y) pc = .ok (.getstatic i, 3)) (hw : Jvm.Cond.fieldLink (pm_nm y).cls i (pm_sn j).1 (pm_sn j).2 "[I" ∈ pm_tbl) (kk : pm_RW X d y Q (pc + 3) ls (.ref (1000 + j) :: r) H) : pm_RW X d y Q pc ls r H := by
  intro p l e R s m args below meth c cells slots Z D tc ad A C Hp locs lsa hP hD hS hl
  have hZ : va_Z (pm_sn j).1 (pm_sn j).2 "[I" (.ref (ad (1000 + j))) A s s.heap := by
    match j, hj with
    | 0, _ => exact C.2.2.2.2.2.2.1.1.1
    | 1, _ => exact C.2.2.2.2.2.2.1.2.1.1
    | 2, _ => exact C.2.2.2.2.2.2.1.2.2.1
  exact va_gets C.1 C.2.1 hZ hS C.2.2.2.1 (C.2.2.2.2.1.1 _ hw) (fun _ h => h) hd (kk p l e R s m args below meth c cells slots Z D tc ad A C Hp locs lsa hP hD hS hl)
theorem pr_oldG {a : Int32} (hd : decode (pm_by y) pc = .ok (.iaload, 1)) (hi : vp_in a 8) (kk : pm_RW X d y Q (pc + 1) ls (.int (pm_G a.toNatClampNeg) :: r) H) : pm_RW X d y Q pc ls (.int a :: .ref 1000 :: r) H :=
  fun p l e R s m args below meth c cells slots Z D tc ad A C Hp locs lsa hP hD hS hl => va_ti C.1 C.2.1 C.2.2.2.2.2.2.1.1.2 hS hi rfl hd (kk p l e R s m args below meth c cells slots Z D tc ad A C Hp locs lsa hP hD hS hl)
theorem pr_oldA {a : Int32} (hd : decode (pm_by y) pc = .ok (.iaload, 1)) (hi : vp_in a 8) (kk : pm_RW X d y Q (pc + 1) ls (.int (pm_AB a.toNatClampNeg) :: r) H) : pm_RW X d y Q pc ls (.int a :: .ref 1001 :: r) H :=
  fun p l e R s m args below meth c cells slots Z D tc ad A C Hp locs lsa hP hD hS hl => va_ti C.1 C.2.1 C.2.2.2.2.2.2.1.2.1.2 hS hi rfl hd (kk p l e R s m args below meth c cells slots Z D tc ad A C Hp locs lsa hP hD hS hl)
theorem pr_oldO {a : Int32} (hd : decode (pm_by y) pc = .ok (.iaload, 1)) (hi : vp_in a 32) (kk : pm_RW X d y Q (pc + 1) ls (.int (pm_OW a.toNatClampNeg) :: r) H) : pm_RW X d y Q pc ls (.int a :: .ref 1002 :: r) H :=
  fun p l e R s m args below meth c cells slots Z D tc ad A C Hp locs lsa hP hD hS hl => va_ti C.1 C.2.1 C.2.2.2.2.2.2.1.2.2.2 hS hi rfl hd (kk p l e R s m args below meth c cells slots Z D tc ad A C Hp locs lsa hP hD hS hl)
theorem pr_oldX {a : Int32} {L : Nat} {xs : Nat → Int32} (hd : decode (pm_by y) pc = .ok (.iaload, 1)) (hi : vp_in a L) (kk : pm_RW (some (L, xs)) d y Q (pc + 1) ls (.int (xs a.toNatClampNeg) :: r) H) : pm_RW (some (L, xs)) d y Q pc ls (.int a :: .ref 1003 :: r) H :=
  fun p l e R s m args below meth c cells slots Z D tc ad A C Hp locs lsa hP hD hS hl => va_sld C.1 C.2.1 C.2.2.2.2.2.2.2.1.1 C.2.2.2.2.2.2.2.1.2.1 C.2.2.2.2.2.2.2.1.2.2 hS hi hd (kk p l e R s m args below meth c cells slots Z D tc ad A C Hp locs lsa hP hD hS hl)
theorem pr_lenG (hd : decode (pm_by y) pc = .ok (.arraylength, 1)) (kk : pm_RW X d y Q (pc + 1) ls (.int (Int32.ofNat 8) :: r) H) : pm_RW X d y Q pc ls (.ref 1000 :: r) H :=
  fun p l e R s m args below meth c cells slots Z D tc ad A C Hp locs lsa hP hD hS hl => va_tlen C.1 C.2.1 C.2.2.2.2.2.2.1.1.2 hS rfl hd (kk p l e R s m args below meth c cells slots Z D tc ad A C Hp locs lsa hP hD hS hl)
theorem pr_lenA (hd : decode (pm_by y) pc = .ok (.arraylength, 1)) (kk : pm_RW X d y Q (pc + 1) ls (.int (Int32.ofNat 8) :: r) H) : pm_RW X d y Q pc ls (.ref 1001 :: r) H :=
  fun p l e R s m args below meth c cells slots Z D tc ad A C Hp locs lsa hP hD hS hl => va_tlen C.1 C.2.1 C.2.2.2.2.2.2.1.2.1.2 hS rfl hd (kk p l e R s m args below meth c cells slots Z D tc ad A C Hp locs lsa hP hD hS hl)
theorem pr_lenO (hd : decode (pm_by y) pc = .ok (.arraylength, 1)) (kk : pm_RW X d y Q (pc + 1) ls (.int (Int32.ofNat 32) :: r) H) : pm_RW X d y Q pc ls (.ref 1002 :: r) H :=
  fun p l e R s m args below meth c cells slots Z D tc ad A C Hp locs lsa hP hD hS hl => va_tlen C.1 C.2.1 C.2.2.2.2.2.2.1.2.2.2 hS rfl hd (kk p l e R s m args below meth c cells slots Z D tc ad A C Hp locs lsa hP hD hS hl)
theorem pr_lenX {L : Nat} {xs : Nat → Int32} (hd : decode (pm_by y) pc = .ok (.arraylength, 1)) (kk : pm_RW (some (L, xs)) d y Q (pc + 1) ls (.int (Int32.ofNat L) :: r) H) : pm_RW (some (L, xs)) d y Q pc ls (.ref 1003 :: r) H :=
  fun p l e R s m args below meth c cells slots Z D tc ad A C Hp locs lsa hP hD hS hl => va_slen C.1 C.2.1 C.2.2.2.2.2.2.2.1.1 C.2.2.2.2.2.2.2.1.2.1 C.2.2.2.2.2.2.2.1.2.2 hS hd (kk p l e R s m args below meth c cells slots Z D tc ad A C Hp locs lsa hP hD hS hl)
theorem pm_cat_map (ad : Nat → Nat) (st : List Value) : ((st.map (pm_mv ad)).map fun v => v.category) = st.map fun v => v.category := by
  rw [List.map_map]
  exact List.map_congr_left fun v _ => pm_mv_cat ad v
theorem pm_inW {wi : Nat} {w : Cond} (h : lw_tbl[wi]? = some w) (hg : goodWord w = true) : w ∈ pm_tbl := List.mem_filter.mpr ⟨List.mem_of_getElem? h, hg⟩
theorem pm_w_nat : Cond.native arraycopyName ∈ pm_tbl := by decide +kernel
theorem pm_w_sta : Cond.static arraycopyName ∈ pm_tbl := by decide +kernel
theorem pm_w_sys : Cond.initialized "java/lang/System" ∈ pm_tbl := by decide +kernel
theorem pr_copyI {j a b n0 n1 : Nat} {n dp sp : Int32} (hd : decode (pm_by y) pc = .ok (.invokestatic j, 3)) (hw : Jvm.Cond.methodLink (pm_nm y).cls j arraycopyName ∈ pm_tbl) (hb : pm_SH[b]? = some (.inr (0, n0))) (ha : pm_SH[a]? = some (.inr (0, n1))) (hin : pm_cpin sp dp n n0 n1) (hr : pm_wd r ≤ 8) (hdd : 1 ≤ d)
    (kk : pm_RW X d y Q (pc + 3) ls r (va_up H.1 a (va_cpy (H.1 b) (H.1 a) sp.toNatClampNeg dp.toNatClampNeg n.toNatClampNeg), H.2)) : pm_RW X d y Q pc ls (.int n :: .int dp :: .ref a :: .int sp :: .ref b :: r) H := by
  intro p l e R s m args below meth c cells slots Z D tc ad A C Hp locs lsa hP hD hS hl
  have e0 : (pm_ws tc ad H).set a (ad a, .inl (tc 0, n1, .inl (va_cpy (H.1 b) (H.1 a) sp.toNatClampNeg dp.toNatClampNeg n.toNatClampNeg))) = pm_ws tc ad (va_up H.1 a (va_cpy (H.1 b) (H.1 a) sp.toNatClampNeg dp.toNatClampNeg n.toNatClampNeg), H.2) := pm_setI ha (by
    show Sum.inl (tc 0, n1, Sum.inl (va_up H.1 a (va_cpy (H.1 b) (H.1 a) sp.toNatClampNeg dp.toNatClampNeg n.toNatClampNeg) a)) = _
    rw [va_up_self])
  have hroom := C.2.2.2.2.2.2.2.2.2.1
  refine va_copyi C.1 C.2.1 (C.2.2.1.trans hl.1.symm) C.2.2.2.1 (C.2.2.2.2.1.1 _ hw) (C.2.2.2.2.1.1 _ pm_w_nat) (C.2.2.2.2.1.1 _ pm_w_sta) (C.2.2.2.2.1.1 _ pm_w_sys) C.2.2.2.2.2.1 hP hD hS b a 0 0 (pm_atW hb) (pm_atW ha) rfl rfl rfl hin.1 hin.2.1 hin.2.2.1 hin.2.2.2.1 hin.2.2.2.2 (fun _ _ => rfl) (Nat.le_trans hdd hroom.1) ?_ hd (fun H1 locs1 hP hD hS => ?_)
  · rw [pm_cat_map]
    have e1 : nativeFrameWords "java/lang/System" "arraycopy" 5 + 11 ≤ 56 := by decide +kernel
    have e2 : (r.map fun v => v.category).sum ≤ 8 := hr
    have e3 : 64 * d ≤ R.locals := hroom.2.1
    omega
  · rw [e0] at hP hD
    exact kk p l e R s m args below meth c cells slots Z D tc ad A C H1 locs1 lsa hP hD hS hl
theorem pr_copyL {j a b n0 n1 : Nat} {n dp sp : Int32} (hd : decode (pm_by y) pc = .ok (.invokestatic j, 3)) (hw : Jvm.Cond.methodLink (pm_nm y).cls j arraycopyName ∈ pm_tbl) (hb : pm_SH[b]? = some (.inr (1, n0))) (ha : pm_SH[a]? = some (.inr (1, n1))) (hin : pm_cpin sp dp n n0 n1) (hr : pm_wd r ≤ 8) (hdd : 1 ≤ d)
    (kk : pm_RW X d y Q (pc + 3) ls r (H.1, va_up H.2.1 a (va_cpy (H.2.1 b) (H.2.1 a) sp.toNatClampNeg dp.toNatClampNeg n.toNatClampNeg), H.2.2)) : pm_RW X d y Q pc ls (.int n :: .int dp :: .ref a :: .int sp :: .ref b :: r) H := by
  intro p l e R s m args below meth c cells slots Z D tc ad A C Hp locs lsa hP hD hS hl
  have e0 : (pm_ws tc ad H).set a (ad a, .inl (tc 1, n1, .inr (.inl (va_cpy (H.2.1 b) (H.2.1 a) sp.toNatClampNeg dp.toNatClampNeg n.toNatClampNeg)))) = pm_ws tc ad (H.1, va_up H.2.1 a (va_cpy (H.2.1 b) (H.2.1 a) sp.toNatClampNeg dp.toNatClampNeg n.toNatClampNeg), H.2.2) := pm_setL ha (by
    show Sum.inl (tc 1, n1, Sum.inr (Sum.inl (va_up H.2.1 a (va_cpy (H.2.1 b) (H.2.1 a) sp.toNatClampNeg dp.toNatClampNeg n.toNatClampNeg) a))) = _
    rw [va_up_self])
  have hroom := C.2.2.2.2.2.2.2.2.2.1
  refine va_copyl C.1 C.2.1 (C.2.2.1.trans hl.1.symm) C.2.2.2.1 (C.2.2.2.2.1.1 _ hw) (C.2.2.2.2.1.1 _ pm_w_nat) (C.2.2.2.2.1.1 _ pm_w_sta) (C.2.2.2.2.1.1 _ pm_w_sys) C.2.2.2.2.2.1 hP hD hS b a 1 1 (pm_atW hb) (pm_atW ha) rfl rfl rfl hin.1 hin.2.1 hin.2.2.1 hin.2.2.2.1 hin.2.2.2.2 (fun _ _ => rfl) (Nat.le_trans hdd hroom.1) ?_ hd (fun H1 locs1 hP hD hS => ?_)
  · rw [pm_cat_map]
    have e1 : nativeFrameWords "java/lang/System" "arraycopy" 5 + 11 ≤ 56 := by decide +kernel
    have e2 : (r.map fun v => v.category).sum ≤ 8 := hr
    have e3 : 64 * d ≤ R.locals := hroom.2.1
    omega
  · rw [e0] at hP hD
    exact kk p l e R s m args below meth c cells slots Z D tc ad A C H1 locs1 lsa hP hD hS hl
end
