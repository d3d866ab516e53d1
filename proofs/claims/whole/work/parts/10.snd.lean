section
variable {X : Option (Nat × (Nat → Int32))} {d y : Nat} {Q : pmQ} {K : List pmE → pmL → List Value → pmT → Prop} {tab rest : List pmE} {pc how a wi : Nat} {cut : List Nat} {ls : pmL} {st : List Value} {H : pmT}
theorem pm_sw_off {kj : Nat → Prop} {x : Int32} {pc d : Nat} : ∀ (ps : List (Int × Int)), (∀ q ∈ ps, 0 ≤ q.2 ∧ (Int32.ofInt q.1).toInt = q.1) → pm_sw kj x d ps → ∃ t : Nat, kj t ∧ (pc : Int) + Op.lookupswitch.offset (ps.map fun q => (q.1, q.2 - (pc : Int))) ((d : Int) - pc) x.toInt = (t : Int)
  | [], _, h => ⟨d, h, by
    have e : Op.lookupswitch.offset ([] : List (Int × Int)) ((d : Int) - pc) x.toInt = (d : Int) - pc := rfl
    rw [List.map_nil, e]; omega⟩
  | q :: r, hq, h => by
    have h0 := hq q List.mem_cons_self
    by_cases hx : x = Int32.ofInt q.1
    · refine ⟨q.2.toNat, h.1 hx, ?_⟩
      rw [List.map_cons, Op.lookupswitch.offset_cons, if_pos (by rw [hx]; exact h0.2.symm)]
      omega
    · obtain ⟨t, h1, h2⟩ := pm_sw_off r (fun q' h' => hq q' (List.mem_cons_of_mem _ h')) (h.2 hx)
      refine ⟨t, h1, ?_⟩
      rw [List.map_cons, lv_osw hx h0.2]
      exact h2
theorem ps_lookupswitch {t : Int} {ps : Array (Int × Int)} (hK : pm_IH X d y Q K) (hE : ∀ ls st H, ¬ K [] ls st H) (hT : pm_okT y tab = true) (hR : pm_okT y rest = true) (he : pm_okE y (pm_hd rest) (pc, cut, .lookupswitch t ps, how, a, wi) = true) (h : pm_one X d Q K tab rest (.lookupswitch t ps) ls st H) : pm_RW X d y Q pc ls st H := by
  have h' : ∃ x r, st = .int x :: r ∧ pm_sw (fun j => K (pm_jmp j tab) ls r H) x t.toNat ps.toList := by
    simp only [pm_one] at h
    split at h
    · exact ⟨_, _, rfl, h⟩
    · exact h.elim
  obtain ⟨x, r, rfl, hx⟩ := h'
  simp only [pm_okE, Bool.and_eq_true, decide_eq_true_eq] at he
  obtain ⟨⟨h0, hall⟩, hm⟩ := he
  have hall' : ∀ q ∈ ps.toList, 0 ≤ q.2 ∧ (Int32.ofInt q.1).toInt = q.1 := fun q hq => by
    have := List.all_eq_true.mp hall q hq
    simpa using this
  obtain ⟨tg, hj, ht⟩ := pm_sw_off (pc := pc) ps.toList hall' hx
  have e0 : ((t.toNat : Int) - (pc : Int)) = t - pc := by omega
  rw [e0] at ht
  split at hm
  · simp only [Bool.and_eq_true, decide_eq_true_eq] at hm
    exact pr_lookup hm.1 hm.2 rfl ht (pm_J hK hE hT tg hj)
  · split at hm
    · cases hm
    · rename_i q0 qs hps
      simp only [Bool.and_eq_true, decide_eq_true_eq] at hm
      obtain ⟨hdec, hz⟩ := hm
      have hz' : ∀ (i : Nat) (q : Int × Int), ps.toList[i]? = some q → q.1 = q0.1 + (i : Int) := fun i q hi => by
        have hmem : (q, i) ∈ ps.toList.zipIdx := List.mem_zipIdx_iff_getElem?.mpr hi
        have := List.all_eq_true.mp hz (q, i) hmem
        simpa using this
      -- which offset the switch takes
      have key : ∀ (l : List (Int × Int)) (n : Nat), (∀ (i : Nat) (q : Int × Int), l[i]? = some q → q.1 = q0.1 + ((n + i : Nat) : Int)) → (q0.1 + (n : Int) ≤ x.toInt ∧ x.toInt < q0.1 + (n : Int) + (l.length : Int) → ∃ o, l[(x.toInt - q0.1 - (n : Int)).toNat]? = some o ∧ Op.lookupswitch.offset (l.map fun q => (q.1, q.2 - (pc : Int))) (t - pc) x.toInt = o.2 - (pc : Int)) ∧ (x.toInt < q0.1 + (n : Int) ∨ q0.1 + (n : Int) + (l.length : Int) ≤ x.toInt → Op.lookupswitch.offset (l.map fun q => (q.1, q.2 - (pc : Int))) (t - pc) x.toInt = t - pc) := by
        intro l
        induction l with
        | nil => intro n hl; exact ⟨fun q => by simp at q; omega, fun _ => rfl⟩
        | cons c cs ih =>
          intro n hl
          have hc : c.1 = q0.1 + (n : Int) := by have := hl 0 c rfl; simpa using this
          obtain ⟨i1, i2⟩ := ih (n + 1) (fun i q hi => by rw [hl (i + 1) q (by simpa using hi)]; congr 1; push_cast; omega)
          rw [List.map_cons, Op.lookupswitch.offset_cons]
          by_cases hxc : x.toInt = c.1
          · refine ⟨fun _ => ⟨c, ?_, ?_⟩, fun q => ?_⟩
            · rw [show (x.toInt - q0.1 - (n : Int)).toNat = 0 by omega]; rfl
            · rw [if_pos hxc.symm]
            · exfalso; simp only [List.length_cons] at q; omega
          · rw [if_neg (fun z => hxc z.symm)]
            refine ⟨fun q => ?_, fun q => ?_⟩
            · simp only [List.length_cons] at q
              obtain ⟨o, o1, o2⟩ := i1 ⟨by push_cast; omega, by push_cast at q ⊢; omega⟩
              refine ⟨o, ?_, o2⟩
              rw [show (x.toInt - q0.1 - (n : Int)).toNat = (x.toInt - q0.1 - ((n + 1 : Nat) : Int)).toNat + 1 by push_cast; omega]
              simpa using o1
            · simp only [List.length_cons] at q
              exact i2 (by push_cast at q ⊢; omega)
      have hk := key ps.toList 0 (fun i q hi => by rw [hz' i q hi]; simp)
      simp only [Int.natCast_zero, Int.add_zero, Int.sub_zero] at hk
      by_cases hlo : x.toInt < q0.1
      · exact pr_tableOut hdec (Or.inl hlo) (by rw [← ht, hk.2 (Or.inl hlo)]) (pm_J hK hE hT tg hj)
      · by_cases hhi : q0.1 + (ps.toList.length : Int) - 1 < x.toInt
        · exact pr_tableOut hdec (Or.inr hhi) (by rw [← ht, hk.2 (Or.inr (by omega))]) (pm_J hK hE hT tg hj)
        · obtain ⟨o, o1, o2⟩ := hk.1 ⟨by omega, by omega⟩
          refine pr_tableIn (off := o.2 - (pc : Int)) hdec hlo hhi ?_ (by rw [← ht, o2]) (pm_J hK hE hT tg hj)
          simp [o1]
theorem pm_fok_of {ci k : Nat} (h : pm_fok y ci k a wi = true) : ∃ q, vwCl[ci]? = some q ∧ k < q.2.2 ∧ Jvm.Cond.fieldLink (pm_nm y).cls a (q.2.1 k).1 (q.2.1 k).2.1 (q.2.1 k).2.2.1 ∈ pm_tbl ∧ (pm_ftl.getD ci [])[k]? = some (pm_ft ci k) := by
  unfold pm_fok at h
  split at h
  · rename_i q hq
    simp only [Bool.and_eq_true, decide_eq_true_eq] at h
    exact ⟨q, hq, h.1.1, pm_wb_of h.1.2, h.2⟩
  · cases h
theorem pm_chkO_of {o ci : Nat} {P : Prop} (h : pm_chkO o ci P) : pm_SH[o]? = some (.inl ci) ∧ P := by
  unfold pm_chkO at h
  split at h
  · rename_i c hc
    cases hb : Nat.beq c ci with
    | true => rw [hb] at h; rw [hc, Nat.eq_of_beq_eq_true hb]; exact ⟨rfl, h⟩
    | false => rw [hb] at h; exact h.elim
  · exact h.elim
theorem pm_chkA_of {o t : Nat} {f : Nat → Prop} (h : pm_chkA o t f) : ∃ n, pm_SH[o]? = some (.inr (t, n)) ∧ f n := by
  unfold pm_chkA at h
  split at h
  · rename_i q hq
    cases hb : Nat.beq q.1 t with
    | true => rw [hb] at h; exact ⟨q.2, by rw [hq, ← Nat.eq_of_beq_eq_true hb], h⟩
    | false => rw [hb] at h; exact h.elim
  · exact h.elim
theorem pm_shelves : ∀ o, o < 85 → pm_SH[o]? = some (.inl 7) → ∀ k, k < 4 → pm_ft 7 k = 2 → (pm_rfl.getD o []).getD k 999 = o + 1 := by decide +kernel
theorem pm_rf_shelf (H : pmT) (o : Nat) (ho : pm_SH[o]? = some (.inl 7)) (k : Nat) (hk : k < 4) (hf : pm_ft 7 k = 2) : pm_rf H o k = o + 1 := by
  have hlt : o < 85 := by rw [← pm_SH_len]; exact pm_lt ho
  have e := pm_shelves o hlt ho k hk hf
  unfold pm_rf
  rw [e]
  rw [pm_nbeq (by omega), pm_nbeq (by omega)]
  rfl
def pm_row3b (o : Nat) (s : pmS) : Bool := match s with
  | .inr q => !(Nat.beq q.1 3) || (Nat.beq o 34 && Nat.beq q.2 6)
  | _ => true
theorem pm_row3 (o : Nat) (ho : o < 85) (q : Nat × Nat) (hq : pm_SH[o]? = some (.inr q)) (h3 : q.1 = 3) : o = 34 ∧ q.2 = 6 := by
  have h : ∀ o, o < 85 → (pm_SH[o]?.all fun s => pm_row3b o s) = true := by decide +kernel
  have h0 := h o ho
  rw [hq] at h0
  have h1 : pm_row3b o (.inr q) = true := h0
  simp only [pm_row3b, h3, Bool.or_eq_true, Bool.and_eq_true] at h1
  rcases h1 with z | z
  · cases z
  · exact ⟨Nat.eq_of_beq_eq_true z.1, Nat.eq_of_beq_eq_true z.2⟩
theorem pm_rf_sv (H : pmT) (k : Nat) (hk : k < 6) : pm_rf H 34 k = 43 + 2 * k := by
  match k, hk with
  | 0, _ => rfl
  | 1, _ => rfl
  | 2, _ => rfl
  | 3, _ => rfl
  | 4, _ => rfl
  | 5, _ => rfl
theorem ps_getfield {q : Nat} (hK : pm_IH X d y Q K) (hE : ∀ ls st H, ¬ K [] ls st H) (hT : pm_okT y tab = true) (hR : pm_okT y rest = true) (he : pm_okE y (pm_hd rest) (pc, cut, .getfield q, how, a, wi) = true) (h : pm_one X d Q K tab rest (.getfield q) ls st H) : pm_RW X d y Q pc ls st H := by
  have h' : ∃ o r, st = .ref o :: r ∧ pm_chkO o (q / 64) (cond (Nat.beq (pm_ft (q / 64) (q % 64)) 2) (K rest ls (.ref (cond (Nat.beq (q / 64) 7) (o + 1) (pm_rf H o (q % 64))) :: r) H) (K rest ls (.int (H.1 o (q % 64)) :: r) H)) := by
    simp only [pm_one] at h
    split at h
    · exact ⟨_, _, rfl, h⟩
    · exact h.elim
  obtain ⟨o, r, rfl, hx⟩ := h'
  simp only [pm_okE, Bool.and_eq_true] at he
  have hd := pm_dc_of he.1
  obtain ⟨cq, hc, hk, hw, hf⟩ := pm_fok_of he.2
  obtain ⟨ho, hx⟩ := pm_chkO_of hx
  cases hb : Nat.beq (pm_ft (q / 64) (q % 64)) 2 with
  | true =>
    rw [hb] at hx
    rw [Nat.eq_of_beq_eq_true hb] at hf
    refine pr_getR hd.1 ho hc hk hw hf (pm_K hK hR hd.2 ?_)
    cases hs : Nat.beq (q / 64) 7 with
    | true =>
      rw [hs] at hx
      have e7 := Nat.eq_of_beq_eq_true hs
      have hft := Nat.eq_of_beq_eq_true hb
      rw [e7] at ho hft hc
      cases hc
      rw [pm_rf_shelf H o ho (q % 64) hk hft]
      exact hx
    | false => rw [hs] at hx; exact hx
  | false =>
    rw [hb] at hx
    exact pr_getI hd.1 ho hc hk hw hf (fun z => by rw [z] at hb; cases hb) (pm_K hK hR hd.2 hx)
theorem ps_putfield {q : Nat} (hK : pm_IH X d y Q K) (hE : ∀ ls st H, ¬ K [] ls st H) (hT : pm_okT y tab = true) (hR : pm_okT y rest = true) (he : pm_okE y (pm_hd rest) (pc, cut, .putfield q, how, a, wi) = true) (h : pm_one X d Q K tab rest (.putfield q) ls st H) : pm_RW X d y Q pc ls st H := by
  simp only [pm_okE, Bool.and_eq_true] at he
  obtain ⟨⟨hdc, hfok⟩, hor⟩ := he
  have hd := pm_dc_of hdc
  obtain ⟨cq, hc, hk, hw, hf⟩ := pm_fok_of hfok
  simp only [pm_one] at h
  split at h
  · rename_i x o r
    obtain ⟨ho, hx⟩ := pm_chkO_of h
    have hp : pm_pok (q / 64) (q % 64) = true := by
      simp only [Bool.or_eq_true] at hor
      rcases hor with z | z | z
      · have e := Nat.eq_of_beq_eq_true z
        subst e
        exact hx.elim
      · have e := Nat.eq_of_beq_eq_true z
        subst e
        exact hx.elim
      · exact z
    unfold pm_pok at hp
    rw [hc] at hp
    simp only [Bool.and_eq_true, Bool.not_eq_true'] at hp
    obtain ⟨hp1, hp2⟩ := hp
    split at hx
    · rename_i e
      rw [e] at hp2 hf
      exact pr_putI hd.1 ho hc hk hw hp1 (by simpa using hp2) rfl rfl hf (by decide) (pm_K hK hR hd.2 hx)
    · rename_i e
      rw [e] at hp2 hf
      exact pr_putI (ty := .boolean) hd.1 ho hc hk hw hp1 (by simpa using hp2) (by rcases hx.1 with z | z <;> rw [z] <;> rfl) (by rcases hx.1 with z | z <;> rw [z] <;> rfl) hf (by decide) (pm_K hK hR hd.2 hx.2)
    · exact hx.elim
  · rename_i x o r
    obtain ⟨ho, hx⟩ := pm_chkO_of h
    have hlt : o < 85 := by rw [← pm_SH_len]; exact pm_lt ho
    have hk60 : q % 64 < 60 := by
      have h52 : ∀ ci (p : vw_C), vwCl[ci]? = some p → p.2.2 < 60 := fun ci p hp => by
        have hm := List.mem_of_getElem? hp
        simp only [vwCl, List.mem_cons, List.not_mem_nil, or_false] at hm
        rcases hm with e | e | e | e | e | e | e | e | e | e <;> rw [e] <;> decide
      have := h52 _ _ hc
      omega
    split at hx
    · rename_i e
      obtain ⟨e1, e2⟩ := pm_rf_2000 o hlt _ hk60 e
      subst e1
      have e3 : q / 64 = 4 := by
        have : (some (Sum.inl 4) : Option pmS) = some (.inl (q / 64)) := ho
        exact (Sum.inl.inj (Option.some.inj this)).symm
      rw [e3] at hc
      cases hc
      rw [e2] at hw
      exact pr_putD hd.1 hw (pm_K hK hR hd.2 hx)
    · rename_i e
      obtain ⟨e1, e2⟩ := pm_rf_2001 o hlt _ hk60 e
      subst e1
      have e3 : q / 64 = 4 := by
        have : (some (Sum.inl 4) : Option pmS) = some (.inl (q / 64)) := ho
        exact (Sum.inl.inj (Option.some.inj this)).symm
      rw [e3] at hc
      cases hc
      rw [e2] at hw
      exact pr_putC hd.1 hw (pm_K hK hR hd.2 hx)
    · exact hx.elim
  · exact h.elim
theorem ps_getstatic {j : Nat} (hK : pm_IH X d y Q K) (hE : ∀ ls st H, ¬ K [] ls st H) (hT : pm_okT y tab = true) (hR : pm_okT y rest = true) (he : pm_okE y (pm_hd rest) (pc, cut, .getstatic j, how, a, wi) = true) (h : pm_one X d Q K tab rest (.getstatic j) ls st H) : pm_RW X d y Q pc ls st H := by
  simp only [pm_okE, Bool.and_eq_true] at he
  have hd := pm_dc_of he.1.1
  exact pr_gets (Nat.le_of_ble_eq_true he.2) hd.1 (pm_wb_of he.1.2) (pm_K hK hR hd.2 h)
theorem pm_old_of {o : Nat} {f : Nat → (Nat → Int32) → Prop} {g : Prop} (h : pm_old X o f g) : (o = 1000 ∧ f 8 pm_G) ∨ (o = 1001 ∧ f 8 pm_AB) ∨ (o = 1002 ∧ f 32 pm_OW) ∨ (o = 1003 ∧ ∃ L xs, X = some (L, xs) ∧ f L xs) ∨ g := by
  unfold pm_old at h
  cases h0 : Nat.beq o 1000 with
  | true => rw [h0] at h; exact Or.inl ⟨Nat.eq_of_beq_eq_true h0, h⟩
  | false =>
    rw [h0] at h
    cases h1 : Nat.beq o 1001 with
    | true => rw [h1] at h; exact Or.inr (Or.inl ⟨Nat.eq_of_beq_eq_true h1, h⟩)
    | false =>
      rw [h1] at h
      cases h2 : Nat.beq o 1002 with
      | true => rw [h2] at h; exact Or.inr (Or.inr (Or.inl ⟨Nat.eq_of_beq_eq_true h2, h⟩))
      | false =>
        rw [h2] at h
        cases h3 : Nat.beq o 1003 with
        | true =>
          rw [h3] at h
          refine Or.inr (Or.inr (Or.inr (Or.inl ⟨Nat.eq_of_beq_eq_true h3, ?_⟩)))
          match X, h with
          | some q, h => exact ⟨q.1, q.2, rfl, h⟩
          | none, h => exact h.elim
        | false => rw [h3] at h; exact Or.inr (Or.inr (Or.inr (Or.inr h)))
theorem ps_iaload (hK : pm_IH X d y Q K) (hE : ∀ ls st H, ¬ K [] ls st H) (hT : pm_okT y tab = true) (hR : pm_okT y rest = true) (he : pm_okE y (pm_hd rest) (pc, cut, .iaload, how, a, wi) = true) (h : pm_one X d Q K tab rest .iaload ls st H) : pm_RW X d y Q pc ls st H := by
  have hd := pm_dc_of he
  simp only [pm_one] at h
  split at h
  · rename_i i o r
    rcases pm_old_of h with ⟨rfl, h1, h2⟩ | ⟨rfl, h1, h2⟩ | ⟨rfl, h1, h2⟩ | ⟨rfl, L, xs, rfl, h1, h2⟩ | h
    · exact pr_oldG hd.1 h1 (pm_K hK hR hd.2 h2)
    · exact pr_oldA hd.1 h1 (pm_K hK hR hd.2 h2)
    · exact pr_oldO hd.1 h1 (pm_K hK hR hd.2 h2)
    · exact pr_oldX hd.1 h1 (pm_K hK hR hd.2 h2)
    · obtain ⟨n, ho, h1, h2⟩ := pm_chkA_of h
      exact pr_iald hd.1 ho h1 (pm_K hK hR hd.2 h2)
  · exact h.elim
theorem ps_arraylength (hK : pm_IH X d y Q K) (hE : ∀ ls st H, ¬ K [] ls st H) (hT : pm_okT y tab = true) (hR : pm_okT y rest = true) (he : pm_okE y (pm_hd rest) (pc, cut, .arraylength, how, a, wi) = true) (h : pm_one X d Q K tab rest .arraylength ls st H) : pm_RW X d y Q pc ls st H := by
  have hd := pm_dc_of he
  simp only [pm_one] at h
  split at h
  · rename_i o r
    rcases pm_old_of h with ⟨rfl, h2⟩ | ⟨rfl, h2⟩ | ⟨rfl, h2⟩ | ⟨rfl, L, xs, rfl, h2⟩ | h
    · exact pr_lenG hd.1 (pm_K hK hR hd.2 h2)
    · exact pr_lenA hd.1 (pm_K hK hR hd.2 h2)
    · exact pr_lenO hd.1 (pm_K hK hR hd.2 h2)
    · exact pr_lenX hd.1 (pm_K hK hR hd.2 h2)
    · exact h.elim
  · exact h.elim
theorem ps_laload (hK : pm_IH X d y Q K) (hE : ∀ ls st H, ¬ K [] ls st H) (hT : pm_okT y tab = true) (hR : pm_okT y rest = true) (he : pm_okE y (pm_hd rest) (pc, cut, .laload, how, a, wi) = true) (h : pm_one X d Q K tab rest .laload ls st H) : pm_RW X d y Q pc ls st H := by
  have hd := pm_dc_of he
  simp only [pm_one] at h
  split at h
  · obtain ⟨n, ho, h1, h2⟩ := pm_chkA_of h
    exact pr_lald hd.1 ho h1 (pm_K hK hR hd.2 h2)
  · exact h.elim
theorem ps_baload (hK : pm_IH X d y Q K) (hE : ∀ ls st H, ¬ K [] ls st H) (hT : pm_okT y tab = true) (hR : pm_okT y rest = true) (he : pm_okE y (pm_hd rest) (pc, cut, .baload, how, a, wi) = true) (h : pm_one X d Q K tab rest .baload ls st H) : pm_RW X d y Q pc ls st H := by
  have hd := pm_dc_of he
  simp only [pm_one] at h
  split at h
  · obtain ⟨n, ho, h1, h2⟩ := pm_chkA_of h
    exact pr_bald hd.1 ho h1 (pm_K hK hR hd.2 h2)
  · exact h.elim
theorem ps_aaload (hK : pm_IH X d y Q K) (hE : ∀ ls st H, ¬ K [] ls st H) (hT : pm_okT y tab = true) (hR : pm_okT y rest = true) (he : pm_okE y (pm_hd rest) (pc, cut, .aaload, how, a, wi) = true) (h : pm_one X d Q K tab rest .aaload ls st H) : pm_RW X d y Q pc ls st H := by
  have hd := pm_dc_of he
  simp only [pm_one] at h
  split at h
  · rename_i i o r
    obtain ⟨n, ho, h1, h2⟩ := pm_chkA_of h
    obtain ⟨e1, e2⟩ := pm_row3 o (by rw [← pm_SH_len]; exact pm_lt ho) (3, n) ho rfl
    subst e1
    have e3 : n = 6 := e2
    subst e3
    refine pr_aald hd.1 ho h1 (pm_K hK hR hd.2 ?_)
    rw [pm_rf_sv H _ (Nat.not_le.mp fun z => h1 (Or.inr z))]
    exact h2
  · exact h.elim
theorem ps_iastore (hK : pm_IH X d y Q K) (hE : ∀ ls st H, ¬ K [] ls st H) (hT : pm_okT y tab = true) (hR : pm_okT y rest = true) (he : pm_okE y (pm_hd rest) (pc, cut, .iastore, how, a, wi) = true) (h : pm_one X d Q K tab rest .iastore ls st H) : pm_RW X d y Q pc ls st H := by
  have hd := pm_dc_of he
  simp only [pm_one] at h
  split at h
  · obtain ⟨n, ho, h1, h2⟩ := pm_chkA_of h
    exact pr_iast hd.1 ho h1 (pm_K hK hR hd.2 h2)
  · exact h.elim
theorem ps_lastore (hK : pm_IH X d y Q K) (hE : ∀ ls st H, ¬ K [] ls st H) (hT : pm_okT y tab = true) (hR : pm_okT y rest = true) (he : pm_okE y (pm_hd rest) (pc, cut, .lastore, how, a, wi) = true) (h : pm_one X d Q K tab rest .lastore ls st H) : pm_RW X d y Q pc ls st H := by
  have hd := pm_dc_of he
  simp only [pm_one] at h
  split at h
  · obtain ⟨n, ho, h1, h2⟩ := pm_chkA_of h
    exact pr_last hd.1 ho h1 (pm_K hK hR hd.2 h2)
  · exact h.elim
theorem ps_bastore (hK : pm_IH X d y Q K) (hE : ∀ ls st H, ¬ K [] ls st H) (hT : pm_okT y tab = true) (hR : pm_okT y rest = true) (he : pm_okE y (pm_hd rest) (pc, cut, .bastore, how, a, wi) = true) (h : pm_one X d Q K tab rest .bastore ls st H) : pm_RW X d y Q pc ls st H := by
  have hd := pm_dc_of he
  simp only [pm_one] at h
  split at h
  · obtain ⟨n, ho, h1, h2, h3⟩ := pm_chkA_of h
    exact pr_bast hd.1 ho h1 h2 (pm_K hK hR hd.2 h3)
  · exact h.elim
theorem ps_invokedynamic {t : Nat} (hK : pm_IH X d y Q K) (hE : ∀ ls st H, ¬ K [] ls st H) (hT : pm_okT y tab = true) (hR : pm_okT y rest = true) (he : pm_okE y (pm_hd rest) (pc, cut, .invokedynamic t, how, a, wi) = true) (h : pm_one X d Q K tab rest (.invokedynamic t) ls st H) : pm_RW X d y Q pc ls st H := by
  simp only [pm_okE, Bool.and_eq_true] at he
  have hd := pm_dc_of he.1
  have hw := pm_wb_of he.2
  simp only [pm_one] at h
  split at h
  · rename_i n dp a1 sp b r
    cases hb : (Nat.ble 1 d && Nat.ble (pm_wd r) 8) with
    | false => rw [hb] at h; exact h.elim
    | true =>
      rw [hb] at h
      simp only [cond_true] at h
      simp only [Bool.and_eq_true] at hb
      obtain ⟨n0, hb0, h⟩ := pm_chkA_of h
      obtain ⟨n1, ha1, hin, h⟩ := pm_chkA_of h
      split at h
      · exact pr_copyI hd.1 hw hb0 ha1 hin (Nat.le_of_ble_eq_true hb.2) (Nat.le_of_ble_eq_true hb.1) (pm_K hK hR hd.2 h)
      · exact pr_copyL hd.1 hw hb0 ha1 hin (Nat.le_of_ble_eq_true hb.2) (Nat.le_of_ble_eq_true hb.1) (pm_K hK hR hd.2 h)
      · exact h.elim
  · exact h.elim
end
