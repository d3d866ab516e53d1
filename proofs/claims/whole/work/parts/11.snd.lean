theorem pm_w_math : Cond.initialized "java/lang/Math" ∈ pm_tbl := by decide +kernel
section
variable {X : Option (Nat × (Nat → Int32))} {d y : Nat} {Q : pmQ} {K : List pmE → pmL → List Value → pmT → Prop} {tab rest : List pmE} {pc how a wi : Nat} {cut : List Nat} {ls : pmL} {st : List Value} {H : pmT}
theorem pm_kind {k : List Value → pmT → Prop} {d' y' cnt rk : Nat} {av r : List Value} (he : cnt % 4 = rk) (hx : match cnt % 4 with
        | 0 => pm_R d' y' av H (pm_v fun H' => k r H')
        | 1 => pm_R d' y' av H (pm_i fun x H' => k (.int x :: r) H')
        | _ => pm_R d' y' av H (pm_l fun x H' => k (.long x :: r) H')) : ∃ Q', pm_R d' y' av H Q' ∧ ∀ v H', Q' v H' → pm_vk rk v → k (v.toList ++ r) H' := by
  rw [he] at hx
  match rk, hx with
  | 0, hx => exact ⟨_, hx, fun v H' hv hk => by rw [show v = none from hk] at hv ⊢; exact hv⟩
  | 1, hx => exact ⟨_, hx, fun v H' hv hk => by obtain ⟨x, rfl⟩ := (hk : ∃ x, v = some (.int x)); exact hv⟩
  | n + 2, hx => exact ⟨_, hx, fun v H' hv hk => by obtain ⟨x, rfl⟩ := (hk : ∃ x, v = some (.long x)); exact hv⟩
theorem ps_invokeinterface {y' cnt : Nat} (hK : pm_IH X d y Q K) (hE : ∀ ls st H, ¬ K [] ls st H) (hT : pm_okT y tab = true) (hR : pm_okT y rest = true) (he : pm_okE y (pm_hd rest) (pc, cut, .invokeinterface y' cnt, how, a, wi) = true) (h : pm_one X d Q K tab rest (.invokeinterface y' cnt) ls st H) : pm_RW X d y Q pc ls st H := by
  simp only [pm_okE, Bool.and_eq_true, decide_eq_true_eq] at he
  obtain ⟨⟨⟨h1, h2⟩, h3⟩, h4⟩ := he
  have hrk := Nat.eq_of_beq_eq_true h1
  simp only [pm_one] at h
  cases d with
  | zero => exact h.elim
  | succ d =>
  simp only [pm_call] at h
  cases hb : (Nat.ble (cnt / 4 % 16) st.length && Nat.ble (pm_wd (st.drop (cnt / 4 % 16))) 8) with
  | false => rw [hb] at h; exact h.elim
  | true =>
  rw [hb] at h
  simp only [cond_true] at h
  simp only [Bool.and_eq_true] at hb
  have hlen := Nat.le_of_ble_eq_true hb.1
  have hwd := Nat.le_of_ble_eq_true hb.2
  have hst : st = (st.take (cnt / 4 % 16)).reverse.reverse ++ st.drop (cnt / 4 % 16) := by rw [List.reverse_reverse, List.take_append_drop]
  have hal : (st.take (cnt / 4 % 16)).reverse.length = cnt / 4 % 16 := by rw [List.length_reverse, List.length_take]; omega
  generalize hav : (st.take (cnt / 4 % 16)).reverse = av at h hst hal
  generalize hr0 : st.drop (cnt / 4 % 16) = r at h hst hwd
  subst hst
  cases hsta : pm_sta y' with
  | true =>
    have hrc0 : cnt / 64 = 0 := by
      unfold pm_rcok at h2
      split at h2
      · assumption
      · rw [hsta] at h2; simp at h2
    rw [hrc0] at h
    have hn : (parseMethodDescriptor (pm_nm y').desc).map (fun d => d.parameters.length) = some av.length := by
      rw [hal]; rw [hsta] at h3; simpa using h3
    obtain ⟨Q', hQ, hk⟩ := pm_kind (rk := pm_rk y') (k := fun st' H' => K rest ls st' H') hrk h
    split at h4
    · rw [hsta] at h4; simp at h4
    · simp only [Bool.and_eq_true] at h4
      have hd := pm_dc_of h4.1.1
      exact pr_callS hd.1 hsta (pm_wb_of h4.2) hn hwd hQ (fun v H' hv hvk => pm_K hK hR hd.2 (hk v H' hv hvk))
    · simp only [Bool.and_eq_true] at h4
      have hd := pm_dc_of h4.1.1
      have hw : Jvm.Cond.methodLinkNest (pm_nm y).cls a (pm_nm y') "PractisedWrong" ∈ pm_nst := by
        have := h4.2
        unfold pm_nstb at this
        obtain ⟨w, hw1, hw2⟩ := List.any_eq_true.mp this
        rw [← of_decide_eq_true hw2]; exact hw1
      exact pr_callSN hd.1 hsta hw hn hwd hQ (fun v H' hv hvk => pm_K hK hR hd.2 (hk v H' hv hvk))
  | false =>
    have hrc : ∃ ci q, cnt / 64 = ci + 1 ∧ vwCl[ci]? = some q ∧ q.1 = (pm_nm y').cls := by
      unfold pm_rcok at h2
      split at h2
      · rw [hsta] at h2; cases h2
      · rename_i ci hci
        simp only [Bool.and_eq_true] at h2
        replace h2 := h2.2
        split at h2
        · rename_i q hq
          exact ⟨ci, q, hci, hq, of_decide_eq_true h2⟩
        · cases h2
    obtain ⟨ci, q, hci, hq, hqn⟩ := hrc
    rw [hci] at h
    have h' : ∃ b as, av = .ref b :: as ∧ pm_chkO b ci (match cnt % 4 with
        | 0 => pm_R d y' av H (pm_v fun H' => K rest ls r H')
        | 1 => pm_R d y' av H (pm_i fun x H' => K rest ls (.int x :: r) H')
        | _ => pm_R d y' av H (pm_l fun x H' => K rest ls (.long x :: r) H')) := by
      have hb0 : Nat.beq (ci + 1) 0 = false := rfl
      unfold pm_rcv at h
      rw [hb0] at h
      simp only [cond_false] at h
      split at h
      · exact ⟨_, _, rfl, h⟩
      · exact h.elim
    obtain ⟨b, as, rfl, hx⟩ := h'
    obtain ⟨hb0, hx⟩ := pm_chkO_of hx
    have hn : (parseMethodDescriptor (pm_nm y').desc).map (fun d => d.parameters.length) = some as.length := by
      rw [hsta] at h3
      simp only [cond_false] at h3
      simp only [List.length_cons] at hal
      cases hp : parseMethodDescriptor (pm_nm y').desc with
      | none => rw [hp] at h3; cases h3
      | some sg =>
        rw [hp] at h3
        simp only [Option.map_some, Option.some.injEq] at h3 ⊢
        omega
    obtain ⟨Q', hQ, hk⟩ := pm_kind (rk := pm_rk y') (k := fun st' H' => K rest ls st' H') hrk hx
    have est : (Value.ref b :: as).reverse ++ r = as.reverse ++ .ref b :: r := by simp
    rw [est]
    split at h4
    · simp only [Bool.and_eq_true] at h4
      have hd := pm_dc_of h4.1.1
      exact pr_callV hd.1 hsta (pm_wb_of h4.2) hn hwd hb0 hq hqn hQ (fun v H' hv hvk => pm_K hK hR hd.2 (hk v H' hv hvk))
    · rw [hsta] at h4; simp at h4
    · rw [hsta] at h4; simp at h4
theorem pm_end {v : Option Value} (hr : pm_rt y = none → v = none) (hk : pm_kd y v) (hd : decode (pm_by y) pc = .ok (pm_ri y, 1)) (h : Q v H) : pm_RW X d y Q pc ls v.toList H := by
  intro p l e R s m args below meth c cells slots Z D tc ad A C Hp locs lsa hP hD hS hl
  have e0 : v.toList.map (pm_mv ad) = v.toList := by
    unfold pm_kd at hk
    split at hk
    · rw [hk]; rfl
    · obtain ⟨x, rfl⟩ := hk; rfl
    · obtain ⟨x, rfl, -⟩ := hk; rfl
    · obtain ⟨x, rfl⟩ := hk; rfl
    · exact hk.elim
  rw [e0]
  exact C.2.2.2.2.2.2.2.2.2.2 v H Hp locs pc lsa h hk hP hD hS hd
theorem pm_w_max1 : Cond.static Lib.Math.max.name ∈ pm_tbl := by decide +kernel
theorem pm_w_max2 : Cond.code Lib.Math.max.name Lib.Math.max.code 2 (some .int) ∈ pm_tbl := by decide +kernel
theorem ps_fadd (hK : pm_IH X d y Q K) (hE : ∀ ls st H, ¬ K [] ls st H) (hT : pm_okT y tab = true) (hR : pm_okT y rest = true) (he : pm_okE y (pm_hd rest) (pc, cut, .fadd, how, a, wi) = true) (h : pm_one X d Q K tab rest .fadd ls st H) : pm_RW X d y Q pc ls st H := by
  simp only [pm_okE, Bool.and_eq_true] at he
  have hd := pm_dc_of he.1
  have hw := pm_wb_of he.2
  simp only [pm_one] at h
  split at h
  · rename_i y1 x1 r
    cases hb : (Nat.ble 1 d && Nat.ble (pm_wd r) 8) with
    | false => rw [hb] at h; exact h.elim
    | true =>
      rw [hb] at h
      simp only [cond_true] at h
      simp only [Bool.and_eq_true] at hb
      have k := pm_K hK hR hd.2 h
      intro p l e R s m args below meth c cells slots Z D tc ad A C Hp locs lsa hP hD hS hl
      have hroom := C.2.2.2.2.2.2.2.2.2.1
      have e1 : 1 ≤ d := Nat.le_of_ble_eq_true hb.1
      have e2 : (r.map fun v => v.category).sum ≤ 8 := Nat.le_of_ble_eq_true hb.2
      have e3 : 64 * d ≤ R.locals := hroom.2.1
      exact va_mmax C.1 C.2.1 (C.2.2.1.trans hl.1.symm) C.2.2.2.1 (C.2.2.2.2.1.1 _ hw) (C.2.2.2.2.1.1 _ pm_w_max1) (C.2.2.2.2.1.1 _ pm_w_math) (C.2.2.2.2.1.1 _ pm_w_max2) (Nat.le_trans e1 hroom.1) (by rw [pm_cat_map]; omega) hroom.2.2.1 hroom.2.2.2 hd.1 (k p l e R s m args below meth c cells slots Z D tc ad A C Hp locs lsa hP hD hS hl)
  · exact h.elim
theorem pm_w_min1 : Cond.static Lib.Math.min.name ∈ pm_tbl := by decide +kernel
theorem pm_w_min2 : Cond.code Lib.Math.min.name Lib.Math.min.code 2 (some .int) ∈ pm_tbl := by decide +kernel
theorem ps_fsub (hK : pm_IH X d y Q K) (hE : ∀ ls st H, ¬ K [] ls st H) (hT : pm_okT y tab = true) (hR : pm_okT y rest = true) (he : pm_okE y (pm_hd rest) (pc, cut, .fsub, how, a, wi) = true) (h : pm_one X d Q K tab rest .fsub ls st H) : pm_RW X d y Q pc ls st H := by
  simp only [pm_okE, Bool.and_eq_true] at he
  have hd := pm_dc_of he.1
  have hw := pm_wb_of he.2
  simp only [pm_one] at h
  split at h
  · rename_i y1 x1 r
    cases hb : (Nat.ble 1 d && Nat.ble (pm_wd r) 8) with
    | false => rw [hb] at h; exact h.elim
    | true =>
      rw [hb] at h
      simp only [cond_true] at h
      simp only [Bool.and_eq_true] at hb
      have k := pm_K hK hR hd.2 h
      intro p l e R s m args below meth c cells slots Z D tc ad A C Hp locs lsa hP hD hS hl
      have hroom := C.2.2.2.2.2.2.2.2.2.1
      have e1 : 1 ≤ d := Nat.le_of_ble_eq_true hb.1
      have e2 : (r.map fun v => v.category).sum ≤ 8 := Nat.le_of_ble_eq_true hb.2
      have e3 : 64 * d ≤ R.locals := hroom.2.1
      exact va_mmin C.1 C.2.1 (C.2.2.1.trans hl.1.symm) C.2.2.2.1 (C.2.2.2.2.1.1 _ hw) (C.2.2.2.2.1.1 _ pm_w_min1) (C.2.2.2.2.1.1 _ pm_w_math) (C.2.2.2.2.1.1 _ pm_w_min2) (Nat.le_trans e1 hroom.1) (by rw [pm_cat_map]; omega) hroom.2.2.1 hroom.2.2.2 hd.1 (k p l e R s m args below meth c cells slots Z D tc ad A C Hp locs lsa hP hD hS hl)
  · exact h.elim
theorem ps_ireturn (hK : pm_IH X d y Q K) (hE : ∀ ls st H, ¬ K [] ls st H) (hT : pm_okT y tab = true) (hR : pm_okT y rest = true) (he : pm_okE y (pm_hd rest) (pc, cut, .ireturn, how, a, wi) = true) (h : pm_one X d Q K tab rest .ireturn ls st H) : pm_RW X d y Q pc ls st H := by
  simp only [pm_okE, Bool.and_eq_true, decide_eq_true_eq] at he
  simp only [pm_one] at h
  split at h
  · exact pm_end (v := some (.int _)) (fun z => by rw [he.2] at z; cases z) (by unfold pm_kd; rw [he.2]; exact ⟨_, rfl⟩) (by unfold pm_ri; rw [he.2]; exact he.1) h
  · exact h.elim
theorem ps_areturn (hK : pm_IH X d y Q K) (hE : ∀ ls st H, ¬ K [] ls st H) (hT : pm_okT y tab = true) (hR : pm_okT y rest = true) (he : pm_okE y (pm_hd rest) (pc, cut, .areturn, how, a, wi) = true) (h : pm_one X d Q K tab rest .areturn ls st H) : pm_RW X d y Q pc ls st H := by
  simp only [pm_okE, Bool.and_eq_true, decide_eq_true_eq] at he
  simp only [pm_one] at h
  split at h
  · exact pm_end (v := some (.int _)) (fun z => by rw [he.2] at z; cases z) (by unfold pm_kd; rw [he.2]; exact ⟨_, rfl, h.1⟩) (by unfold pm_ri; rw [he.2]; exact he.1) h.2
  · exact h.elim
theorem ps_lreturn (hK : pm_IH X d y Q K) (hE : ∀ ls st H, ¬ K [] ls st H) (hT : pm_okT y tab = true) (hR : pm_okT y rest = true) (he : pm_okE y (pm_hd rest) (pc, cut, .lreturn, how, a, wi) = true) (h : pm_one X d Q K tab rest .lreturn ls st H) : pm_RW X d y Q pc ls st H := by
  simp only [pm_okE, Bool.and_eq_true, decide_eq_true_eq] at he
  simp only [pm_one] at h
  split at h
  · exact pm_end (v := some (.long _)) (fun z => by rw [he.2] at z; cases z) (by unfold pm_kd; rw [he.2]; exact ⟨_, rfl⟩) (by unfold pm_ri; rw [he.2]; exact he.1) h
  · exact h.elim
theorem ps_return_ (hK : pm_IH X d y Q K) (hE : ∀ ls st H, ¬ K [] ls st H) (hT : pm_okT y tab = true) (hR : pm_okT y rest = true) (he : pm_okE y (pm_hd rest) (pc, cut, .return_, how, a, wi) = true) (h : pm_one X d Q K tab rest .return_ ls st H) : pm_RW X d y Q pc ls st H := by
  simp only [pm_okE, Bool.and_eq_true, decide_eq_true_eq] at he
  simp only [pm_one] at h
  split at h
  · exact pm_end (v := none) (fun _ => rfl) (by unfold pm_kd; rw [he.2]) (by unfold pm_ri; rw [he.2]; exact he.1) h
  · exact h.elim
theorem pm_one_sound (hK : pm_IH X d y Q K) (hE : ∀ ls st H, ¬ K [] ls st H) (hT : pm_okT y tab = true) (hR : pm_okT y rest = true) {i : Instr} (he : pm_okE y (pm_hd rest) (pc, cut, i, how, a, wi) = true) (h : pm_one X d Q K tab rest i ls st H) : pm_RW X d y Q pc ls st H := by
  cases i
  case iconst => exact ps_iconst hK hE hT hR he h
  case jsr => exact ps_jsr hK hE hT hR he h
  case iload => exact ps_iload hK hE hT hR he h
  case lload => exact ps_lload hK hE hT hR he h
  case aload => exact ps_aload hK hE hT hR he h
  case istore => exact ps_istore hK hE hT hR he h
  case lstore => exact ps_lstore hK hE hT hR he h
  case astore => exact ps_astore hK hE hT hR he h
  case iinc => exact ps_iinc hK hE hT hR he h
  case iadd => exact ps_iadd hK hE hT hR he h
  case isub => exact ps_isub hK hE hT hR he h
  case imul => exact ps_imul hK hE hT hR he h
  case idiv => exact ps_idiv hK hE hT hR he h
  case irem => exact ps_irem hK hE hT hR he h
  case ineg => exact ps_ineg hK hE hT hR he h
  case iand => exact ps_iand hK hE hT hR he h
  case ior => exact ps_ior hK hE hT hR he h
  case ixor => exact ps_ixor hK hE hT hR he h
  case ishl => exact ps_ishl hK hE hT hR he h
  case ishr => exact ps_ishr hK hE hT hR he h
  case iushr => exact ps_iushr hK hE hT hR he h
  case ladd => exact ps_ladd hK hE hT hR he h
  case lsub => exact ps_lsub hK hE hT hR he h
  case lmul => exact ps_lmul hK hE hT hR he h
  case ldiv => exact ps_ldiv hK hE hT hR he h
  case lrem => exact ps_lrem hK hE hT hR he h
  case land => exact ps_land hK hE hT hR he h
  case lor => exact ps_lor hK hE hT hR he h
  case lshl => exact ps_lshl hK hE hT hR he h
  case lcmp => exact ps_lcmp hK hE hT hR he h
  case i2l => exact ps_i2l hK hE hT hR he h
  case l2i => exact ps_l2i hK hE hT hR he h
  case i2b => exact ps_i2b hK hE hT hR he h
  case i2s => exact ps_i2s hK hE hT hR he h
  case dup => exact ps_dup hK hE hT hR he h
  case dup2 => exact ps_dup2 hK hE hT hR he h
  case pop => exact ps_pop hK hE hT hR he h
  case if_icmp => exact ps_if_icmp hK hE hT hR he h
  case ifCond => exact ps_ifCond hK hE hT hR he h
  case goto => exact ps_goto hK hE hT hR he h
  case lookupswitch => exact ps_lookupswitch hK hE hT hR he h
  case getfield => exact ps_getfield hK hE hT hR he h
  case putfield => exact ps_putfield hK hE hT hR he h
  case getstatic => exact ps_getstatic hK hE hT hR he h
  case iaload => exact ps_iaload hK hE hT hR he h
  case laload => exact ps_laload hK hE hT hR he h
  case baload => exact ps_baload hK hE hT hR he h
  case aaload => exact ps_aaload hK hE hT hR he h
  case iastore => exact ps_iastore hK hE hT hR he h
  case lastore => exact ps_lastore hK hE hT hR he h
  case bastore => exact ps_bastore hK hE hT hR he h
  case arraylength => exact ps_arraylength hK hE hT hR he h
  case fadd => exact ps_fadd hK hE hT hR he h
  case fsub => exact ps_fsub hK hE hT hR he h
  case invokeinterface => exact ps_invokeinterface hK hE hT hR he h
  case invokedynamic => exact ps_invokedynamic hK hE hT hR he h
  case ireturn => exact ps_ireturn hK hE hT hR he h
  case areturn => exact ps_areturn hK hE hT hR he h
  case lreturn => exact ps_lreturn hK hE hT hR he h
  case return_ => exact ps_return_ hK hE hT hR he h
  all_goals exact False.elim h
end
theorem pm_sound {X : Option (Nat × (Nat → Int32))} {d y : Nat} {Q : pmQ} {tab : List pmE} (hT : pm_okT y tab = true) : ∀ n, pm_IH X d y Q (pm_wp X d y Q tab n)
  | 0 => fun code _ ls st H h => by
    cases code with
    | nil => exact h.elim
    | cons e r => exact h
  | n + 1 => fun code hc ls st H h => by
    cases code with
    | nil => exact h.elim
    | cons e r =>
      have hc2 := hc
      simp only [pm_okT, Bool.and_eq_true] at hc2
      obtain ⟨pc, cut, i, how, a, wi⟩ := e
      cases cut with
      | nil => exact pm_one_sound (pm_sound hT n) (fun ls st H q => by cases n <;> exact q) hT hc2.2 hc2.1 h
      | cons k ks => exact pr_pick h
/-- a loop's body, from its head on -/
theorem pm_body {X : Option (Nat × (Nat → Int32))} {d y : Nat} {Q : pmQ} {tab : List pmE} (hT : pm_okT y tab = true) (n t : Nat) {ls : pmL} {st : List Value} {H : pmT} (h : pm_wh X d y Q tab n (pm_jmp t tab) ls st H) : pm_RW X d y Q t ls st H := by
  have hJ := pm_okT_jmp t hT
  rcases pm_hd_jmp t tab with e | e
  · rw [e] at h; exact h.elim
  · cases hj : pm_jmp t tab with
    | nil => rw [hj] at h; exact h.elim
    | cons e0 r =>
      rw [hj] at h hJ e
      simp only [pm_okT, Bool.and_eq_true] at hJ
      obtain ⟨pc, cut, i, how, a, wi⟩ := e0
      have e1 : pc = t := e
      subst e1
      exact pm_one_sound (pm_sound hT n) (fun ls st H q => by cases n <;> exact q) hT hJ.2 hJ.1 h
theorem pm_args (ad : Nat → Nat) : ∀ (av : List Value) (i : Nat), lv_args i (av.map (pm_mv ad)) = (lv_args i av).map (pm_mq ad)
  | [], _ => rfl
  | v :: vs, i => by
    simp only [List.map_cons, lv_args, pm_mv_cat]
    rw [pm_args ad vs]
    rfl
theorem pm_sl (ad : Nat → Nat) : ∀ (av : List Value), (lg_sl (av.map (pm_mv ad))).length = (lg_sl av).length
  | [] => rfl
  | v :: vs => by
    have ih := pm_sl ad vs
    simp only [lg_sl] at ih
    simp only [lg_sl, List.map_cons, List.flatMap_cons, List.length_append, pm_mv_cat, ih]
    split <;> rfl
/-- the contract out of the walk -/
theorem pm_meth {d y : Nat} {Q : pmQ} {av : List Value} {H : pmT} (hk : pm_okm y) (hs : (lg_sl av).length ≤ pm_ml y) (h : pm_RW none d y Q 0 (lv_args 0 av) [] H) : pm_R d y av H Q := by
  refine ⟨hk, fun l D tc ad sz => ?_⟩
  refine Met.ofW (cc := pm_by y) (maxL := pm_ml y) (ret := pm_rt y) hk.2.1 rfl ?_
  intro p e s m args below meth c s₁ B hml hv
  obtain ⟨rfl, hsz, hP, hK, hD0, hSt, hN⟩ := hv
  have hts := atoms_spec (ws := pm_wy y) B.pre
  have hlocks := B.notSynchronized
  have hr := B.returns
  subst hsz
  have hA : ∀ q : Nat, s.heap.size ≤ q → pm_A ad s.heap.size q := fun q h => Or.inr h
  have hD : va_D (pm_A ad s.heap.size) (pm_ws tc ad H) := ⟨hD0.1, fun k q hq => by
    have hlt : k < pm_SH.length := by
      have := (List.getElem?_eq_some_iff.mp hq).1
      simpa [pm_ws] using this
    rw [pm_atW (List.getElem?_eq_getElem hlt)] at hq
    cases hq
    exact Or.inl ⟨k, hlt, rfl⟩⟩
  have hl := lv_entry (av.map (pm_mv ad)) (n := pm_ml y) (by rw [pm_sl]; exact hs)
  rw [lg_entry_eq]
  rw [pm_args] at hl
  refine h p l e _ s m _ below meth c 0 0 _ D tc ad (pm_A ad s.heap.size) ⟨B.exec, B.bytes, hml, findClass_of_methodNamed B.named, ⟨fun w hw => hts w (List.mem_cons_of_mem _ hw), hN⟩, hK, hSt, trivial, hA, ⟨Nat.le_refl _, Nat.le_refl _, Nat.le_refl _, Nat.le_refl _⟩, ?_⟩ s.heap [] _ hP hD va_S.rf hl
  intro v H' Hp locs pc lsa hQ hkd hP' hD' hS' hdec
  unfold pm_ri at hdec
  unfold pm_kd at hkd
  have hx := B.exec
  have hb := B.bytes
  have hF : ∀ t : State, t.heap = Hp → pm_Bt D tc ad (pm_A ad s.heap.size) H' t := fun t ht => ⟨by rw [ht]; exact hP', hD'⟩
  cases hrt : pm_rt y with
  | none =>
    rw [hrt] at hkd hdec hr
    have hv : v = none := hkd
    subst hv
    have e : pm_rk y = 0 := by unfold pm_rk; rw [hrt]
    rw [e]
    exact W.vret hx hb hr (fun t ht hW => ⟨⟨H', rfl, hQ, hF t ht⟩, hS'.F ht⟩) hS'.2.2 hdec
  | some ft =>
    rw [hrt] at hkd hdec hr
    cases ft with
    | int =>
      obtain ⟨x, rfl⟩ := (hkd : ∃ x, v = some (.int x))
      have e : pm_rk y = 1 := by unfold pm_rk; rw [hrt]
      rw [e]
      exact W.iret (v := x) hx hb hr (fun t ht hW => ⟨⟨x, H', rfl, hQ, hF t ht⟩, hS'.F ht⟩) hS'.2.2 hdec
    | boolean =>
      obtain ⟨x, rfl, h01⟩ := (hkd : ∃ x, v = some (.int x) ∧ (x = 0 ∨ x = 1))
      have e : pm_rk y = 1 := by unfold pm_rk; rw [hrt]
      rw [e]
      exact W.zret (v := x) hx hb hr (by rcases h01 with z | z <;> rw [z] <;> rfl) (fun t ht hW => ⟨⟨x, H', rfl, hQ, hF t ht⟩, hS'.F ht⟩) hS'.2.2 hdec
    | long =>
      obtain ⟨x, rfl⟩ := (hkd : ∃ x, v = some (.long x))
      have e : pm_rk y = 2 := by unfold pm_rk; rw [hrt]
      rw [e]
      exact W.lret (v := x) hx hb hr (fun t ht hW => ⟨⟨x, H', rfl, hQ, hF t ht⟩, hS'.F ht⟩) hS'.2.2 hdec
    | _ => exact (hkd : False).elim
/-- a method out of its table -/
theorem pm_walk {d y n : Nat} {Q : pmQ} {av : List Value} {H : pmT} {tab : List pmE} (hk : pm_okm y) (hT : pm_okT y tab = true) (h0 : pm_hd tab = 0) (hs : (lg_sl av).length ≤ pm_ml y) (h : pm_wp none d y Q tab n tab (lv_args 0 av) [] H) : pm_R d y av H Q :=
  pm_meth hk hs (by have := pm_sound hT n tab hT _ _ _ h; rw [h0] at this; exact this)
