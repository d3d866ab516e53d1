/-! soundness: calls -/
def pm_vk (rk : Nat) (v : Option Value) : Prop := match rk with
  | 0 => v = none
  | 1 => ∃ x, v = some (.int x)
  | _ => ∃ x, v = some (.long x)
theorem pm_mem_tbl {w : Cond} (h : w ∈ pm_tbl) : goodWord w = true := (List.mem_filter.mp h).2
theorem pm_goodIn {y : Nat} (h : pm_okm y) : GoodIn pm_tbl (pm_wy y) := by
  intro w hw
  rcases List.mem_cons.mp hw with e | e
  · rw [e]; exact ⟨h.1, good_of_word (pm_mem_tbl h.1)⟩
  · exact ⟨e, good_of_word (pm_mem_tbl e)⟩
theorem pm_nst_warm {w : Cond} {s U : State} (hw : w ∈ pm_nst) (hW : s.WarmedH U.vm) (h : va_Nw w s) : va_Nw w U := by
  simp only [pm_nst, List.mem_cons, List.not_mem_nil, or_false] at hw
  rcases hw with e | e | e <;> (rw [e] at h ⊢; exact va_Nw.warmM hW h)
theorem pm_nst_same {w : Cond} {u U : State} (hw : w ∈ pm_nst) (hv : u.vm = U.vm) (h : va_Nw w u) : va_Nw w U := by
  simp only [pm_nst, List.mem_cons, List.not_mem_nil, or_false] at hw
  rcases hw with e | e | e <;> (rw [e] at h ⊢; exact va_Nw.same rfl hv h)
theorem pm_St.moved {ad : Nat → Nat} {A : Nat → Prop} {u U : State} {H : Heap} (hvm : u.vm.Alike U.vm) (h : pm_St ad A u H) : pm_St ad A U H :=
  ⟨⟨h.1.1.moved hvm, h.1.2.moved hvm⟩, ⟨h.2.1.1.moved hvm, h.2.1.2.moved hvm⟩, ⟨h.2.2.1.moved hvm, h.2.2.2.moved hvm⟩⟩
theorem pm_St.kept {ad : Nat → Nat} {A : Nat → Prop} {U : State} {H H1 : Heap} (h : pm_St ad A U H) (hq : ∀ a : Nat, a < H.size → ¬ A a → H1[a]? = H[a]?) : pm_St ad A U H1 :=
  ⟨⟨h.1.1.kept hq, h.1.2.kept hq⟩, ⟨h.2.1.1.kept hq, h.2.1.2.kept hq⟩, ⟨h.2.2.1.kept hq, h.2.2.2.kept hq⟩⟩
theorem pm_St.narrow {ad : Nat → Nat} {A B : Nat → Prop} {U : State} {H : Heap} (h : pm_St ad A U H) (hAB : ∀ q, B q → A q) : pm_St ad B U H :=
  ⟨⟨h.1.1.narrow hAB, h.1.2.narrow hAB⟩, ⟨h.2.1.1.narrow hAB, h.2.1.2.narrow hAB⟩, ⟨h.2.2.1.narrow hAB, h.2.2.2.narrow hAB⟩⟩
theorem pm_A_sub {tc : Nat → ClassId} {ad : Nat → Nat} {H : pmT} {A : Nat → Prop} {H0 Hp : Heap} {locs : List Loc} (hD : va_D A (pm_ws tc ad H)) (hA : ∀ q : Nat, H0.size ≤ q → A q) (hS : va_S A H0 Hp locs) : ∀ q, pm_A ad Hp.size q → A q := by
  intro q hq
  rcases hq with ⟨o, ho, rfl⟩ | hq
  · exact hD.2 o _ (pm_atW (List.getElem?_eq_getElem ho))
  · exact hA q (Nat.le_trans hS.1 hq)
theorem pm_blind {D : va_G} {tc : Nat → ClassId} {ad : Nat → Nat} {H : pmT} {sz : Nat} {av : List Value} : FrameBlind (va_Pc av (pm_B D tc ad H sz)) := by
  intro a U g mk q
  obtain ⟨q0, q1, q2, q3, q4, q5, q6⟩ := q
  have hal : U.vm.Alike (U.calling g mk a).vm := Vm.Alike.refl U.vm
  exact ⟨q0, q1, q2, va_K.moved hal q3, q4, q5.moved hal, fun w hw => pm_nst_same (u := U) hw rfl (q6 w hw)⟩
section
variable {X : Option (Nat × (Nat → Int32))} {d y : Nat} {Q : pmQ} {pc : Nat} {ls : pmL} {r : List Value} {H : pmT}
theorem pm_pre {p : Program} {l : Launch} {e : Env} {R : Room} {s : State} {m : MethodId} {args : Array Value} {below : List Frame} {meth : Method} {c : Code} {cells slots : Nat} {Z : State → Prop} {D : va_G} {tc : Nat → ClassId} {ad : Nat → Nat} {A : Nat → Prop}
    (C : pm_ctx X d y Q p l e R s m args below meth c cells slots Z D tc ad A) {Hp : Heap} {locs : List Loc} (hP : va_P D vwCl (pm_ws tc ad H) Hp) (hD : va_D A (pm_ws tc ad H)) (hS : va_S A s.heap Hp locs) (av : List Value) :
    ∀ U : State, U.heap = Hp → s.WarmedH U.vm → va_Pc av (pm_B D tc ad H Hp.size) av.toArray U := by
  intro U hU hW
  refine ⟨rfl, by rw [hU], by rw [hU]; exact hP, va_K.moved hW.alike C.2.2.2.2.2.1, hD.weaken (fun _ _ _ _ => trivial), ?_, fun w hw => pm_nst_warm hw hW (C.2.2.2.2.1.2 w hw)⟩
  rw [hU]
  exact ((C.2.2.2.2.2.2.1.moved hW.alike).kept (fun a h1 h2 => hS.2.1 a h1 h2)).narrow (pm_A_sub hD C.2.2.2.2.2.2.2.2.1 hS)
theorem pm_callB {p : Program} {l : Launch} {e : Env} {R : Room} {s : State} {m : MethodId} {args : Array Value} {below : List Frame} {meth : Method} {c : Code} {cells slots : Nat} {Z : State → Prop} {D : va_G} {tc : Nat → ClassId} {ad : Nat → Nat} {A : Nat → Prop}
    (C : pm_ctx X (d + 1) y Q p l e R s m args below meth c cells slots Z D tc ad A) {y' j n : Nat} (hk : pm_okm y') (hw : Jvm.Cond.methodLink (pm_nm y).cls j (pm_nm y') ∈ pm_tbl) (hn : (parseMethodDescriptor (pm_nm y').desc).map (fun d => d.parameters.length) = some n) :
    CallB R s args (pm_nm y).cls j (pm_nm y') (pm_by y') (pm_ml y') (pm_rt y') (pm_wy y') (pm_rm d) 0 0 n := by
  have hroom := C.2.2.2.2.2.2.2.2.2.1
  have h5 := hk.2.2.2.2.1
  exact callB_of n C.2.2.2.2.1.1 (pm_goodIn hk) rfl rfl rfl (C.2.2.2.2.1.1 _ hk.2.2.2.1) (C.2.2.2.2.1.1 _ hw) ⟨hk.2.2.1.1, hk.2.2.1.2, hn⟩ ⟨hroom.1, by show 8 + (pm_ml y' + 11) + 64 * d ≤ _; have := hroom.2.1; omega⟩
/-- a call has come back -/
theorem pm_aft {p : Program} {l : Launch} {e : Env} {R : Room} {s : State} {m : MethodId} {args : Array Value} {below : List Frame} {meth : Method} {c : Code} {cells slots : Nat} {Z : State → Prop} {D : va_G} {tc : Nat → ClassId} {ad : Nat → Nat} {A : Nat → Prop}
    (C : pm_ctx X d y Q p l e R s m args below meth c cells slots Z D tc ad A) {Hp : Heap} {locs : List Loc} {lsa : Array Slot} (hP : va_P D vwCl (pm_ws tc ad H) Hp) (hD : va_D A (pm_ws tc ad H)) (hS : va_S A s.heap Hp locs) (hl : lv_has lsa (pm_ml y) (ls.map (pm_mq ad)))
    {rk : Nat} {Q' : pmQ} {st : List Value} {a : Array Value}
    (hr : va_Run p l e R s m args below meth c Hp locs cells slots 0 0 (F0 m pc lsa st) (r.map (pm_mv ad)) (pm_Qc rk D tc ad (pm_A ad Hp.size) Q' a) (pm_A ad Hp.size))
    (hk : ∀ v H', Q' v H' → pm_vk rk v → pm_RW X d y Q (pc + 3) ls (v.toList ++ r) H') : W p l e R s m args below meth c Hp locs cells slots Z (F0 m pc lsa st) := by
  have hsub := pm_A_sub hD C.2.2.2.2.2.2.2.2.1 hS
  match rk, hr, hk with
  | 0, hr, hk =>
    refine va_callv (a := a) hr hS (fun q _ h => hsub q h) hsub (fun u t H1 locs1 ht hvm hpost hB hz hkk hS1 => ?_)
    rw [pm_Bt, ht] at hB
    exact hk none u hpost rfl p l e R s m args below meth c cells slots Z D tc ad A C H1 locs1 lsa hB.1 (hB.2.weaken (fun _ _ _ h => hsub _ h)) hS1 hl
  | 1, hr, hk =>
    refine va_calli (a := a) hr hS (fun q _ h => hsub q h) hsub (fun x u t H1 locs1 ht hvm hpost hB hz hkk hS1 => ?_)
    rw [pm_Bt, ht] at hB
    exact hk (some (.int x)) u hpost ⟨x, rfl⟩ p l e R s m args below meth c cells slots Z D tc ad A C H1 locs1 lsa hB.1 (hB.2.weaken (fun _ _ _ h => hsub _ h)) hS1 hl
  | rk + 2, hr, hk =>
    refine va_calll (a := a) hr hS (fun q _ h => hsub q h) hsub (fun x u t H1 locs1 ht hvm hpost hB hz hkk hS1 => ?_)
    rw [pm_Bt, ht] at hB
    exact hk (some (.long x)) u hpost ⟨x, rfl⟩ p l e R s m args below meth c cells slots Z D tc ad A C H1 locs1 lsa hB.1 (hB.2.weaken (fun _ _ _ h => hsub _ h)) hS1 hl
theorem pr_callS {y' j : Nat} {av : List Value} {Q' : pmQ} (hd : decode (pm_by y) pc = .ok (.invokestatic j, 3)) (hst : pm_sta y' = true) (hw : Jvm.Cond.methodLink (pm_nm y).cls j (pm_nm y') ∈ pm_tbl) (hn : (parseMethodDescriptor (pm_nm y').desc).map (fun d => d.parameters.length) = some av.length) (hwd : pm_wd r ≤ 8) (hR : pm_R d y' av H Q')
    (hk : ∀ v H', Q' v H' → pm_vk (pm_rk y') v → pm_RW X (d + 1) y Q (pc + 3) ls (v.toList ++ r) H') : pm_RW X (d + 1) y Q pc ls (av.reverse ++ r) H := by
  intro p l e R s m args below meth c cells slots Z D tc ad A C Hp locs lsa hP hD hS hl
  have hroom := C.2.2.2.2.2.2.2.2.2.1
  have hs : Cond.static (pm_nm y') ∈ pm_tbl := by have h := hR.1.2.2.2.2.2; rw [hst] at h; exact h
  refine pm_aft C hP hD hS hl (va_runS (As := av.map (pm_mv ad)) (rest := r.map (pm_mv ad)) ⟨C.1, C.2.1, C.2.2.1, C.2.2.2.1, C.2.2.2.2.1.1⟩ (hR.2 l D tc ad Hp.size) ⟨pm_callB C hR.1 hw hn, C.2.2.2.2.1.1 _ hs⟩ ⟨pm_blind, pm_pre C hP hD hS _⟩ rfl (by simp) hl.1 (by simp) (lv_room (by rw [pm_cat_map]; exact hwd)) hd ⟨hroom.2.2.1, hroom.2.2.2⟩) hk
theorem pr_callSN {y' j : Nat} {host : String} {av : List Value} {Q' : pmQ} (hd : decode (pm_by y) pc = .ok (.invokestatic j, 3)) (hst : pm_sta y' = true) (hw : Jvm.Cond.methodLinkNest (pm_nm y).cls j (pm_nm y') host ∈ pm_nst) (hn : (parseMethodDescriptor (pm_nm y').desc).map (fun d => d.parameters.length) = some av.length) (hwd : pm_wd r ≤ 8) (hR : pm_R d y' av H Q')
    (hk : ∀ v H', Q' v H' → pm_vk (pm_rk y') v → pm_RW X (d + 1) y Q (pc + 3) ls (v.toList ++ r) H') : pm_RW X (d + 1) y Q pc ls (av.reverse ++ r) H := by
  intro p l e R s m args below meth c cells slots Z D tc ad A C Hp locs lsa hP hD hS hl
  have hroom := C.2.2.2.2.2.2.2.2.2.1
  have hs : Cond.static (pm_nm y') ∈ pm_tbl := by have h := hR.1.2.2.2.2.2; rw [hst] at h; exact h
  have hk5 := hR.1.2.2.2.2.1
  have hcn := va_cnB (R := R) (s := s) (args := args) (own := (pm_nm y).cls) (host := host) (index := j) (maxL := pm_ml y') (mc := 0) (ms := 0) (y := pm_nm y') (bytes := pm_by y') (ret := pm_rt y') (Ts := pm_tbl) (ws := pm_wy y') (ws' := pm_tbl) (rm := pm_rm d) av.length C.2.2.2.2.1.1 (pm_goodIn hR.1) rfl rfl rfl (C.2.2.2.2.1.2 _ hw) (C.2.2.2.2.1.1 _ hR.1.2.2.2.1) ⟨hR.1.2.2.1.1, hR.1.2.2.1.2, hn⟩ ⟨hroom.1, by show 8 + (pm_ml y' + 11) + 64 * d ≤ _; have := hroom.2.1; omega⟩
  refine pm_aft C hP hD hS hl (va_runSN (As := av.map (pm_mv ad)) (rest := r.map (pm_mv ad)) ⟨C.1, C.2.1, C.2.2.1, C.2.2.2.1, C.2.2.2.2.1.1⟩ (hR.2 l D tc ad Hp.size) ⟨hcn, C.2.2.2.2.1.1 _ hs, trivial⟩ ⟨pm_blind, pm_pre C hP hD hS _⟩ rfl (by simp) hl.1 (by simp) (lv_room (by rw [pm_cat_map]; exact hwd)) hd ⟨hroom.2.2.1, hroom.2.2.2⟩) hk
theorem pr_callV {y' j b ci : Nat} {q : vw_C} {av : List Value} {Q' : pmQ} (hd : decode (pm_by y) pc = .ok (.invokevirtual j, 3)) (hst : pm_sta y' = false) (hw : Jvm.Cond.methodLink (pm_nm y).cls j (pm_nm y') ∈ pm_tbl) (hn : (parseMethodDescriptor (pm_nm y').desc).map (fun d => d.parameters.length) = some av.length) (hwd : pm_wd r ≤ 8) (hb : pm_SH[b]? = some (.inl ci)) (hc : vwCl[ci]? = some q) (hq : q.1 = (pm_nm y').cls) (hR : pm_R d y' (.ref b :: av) H Q')
    (hk : ∀ v H', Q' v H' → pm_vk (pm_rk y') v → pm_RW X (d + 1) y Q (pc + 3) ls (v.toList ++ r) H') : pm_RW X (d + 1) y Q pc ls (av.reverse ++ .ref b :: r) H := by
  intro p l e R s m args below meth c cells slots Z D tc ad A C Hp locs lsa hP hD hS hl
  have hroom := C.2.2.2.2.2.2.2.2.2.1
  have hs : Cond.instanceMethod (pm_nm y') ∈ pm_tbl ∧ Cond.selects (pm_nm y').cls (pm_nm y') (pm_nm y') ∈ pm_tbl := by have h := hR.1.2.2.2.2.2; rw [hst] at h; exact h
  have hrv := va_recv C.2.2.2.2.2.1 hP hc (pm_atW hb)
  rw [hq] at hrv
  refine pm_aft C hP hD hS hl (va_runV (As := av.map (pm_mv ad)) (rest := r.map (pm_mv ad)) (C := (pm_nm y').cls) ⟨C.1, C.2.1, C.2.2.1, C.2.2.2.1, C.2.2.2.2.1.1⟩ (hR.2 l D tc ad Hp.size) ⟨pm_callB C hR.1 hw hn, C.2.2.2.2.1.1 _ hs.1, C.2.2.2.2.1.1 _ hs.2⟩ ⟨pm_blind, hrv, pm_pre C hP hD hS _⟩ rfl (by simp) hl.1 (by simp [pm_mv]) (lv_room (by rw [pm_cat_map]; exact hwd)) hd ⟨hroom.2.2.1, hroom.2.2.2⟩) hk
end
