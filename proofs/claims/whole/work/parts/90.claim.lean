/-! the claim out of one walk of the law -/
def R_law : String := "PractisedWrongLaw"
def lw_P (b : Addr) (xs : List Int32) (args : Array Value) (s : State) : Prop := args = #[.ref b] ∧ s.IntsAt b xs ∧ xs.length ≤ 3072 ∧ (Jvm.Cond.and given_1 narrow_1).before args s = true
def lw_Q (_ : Array Value) (s : State) (o : Outcome) (t : State) : Prop := o = .returned (some (.int 1)) ∧ Framed s o t [] 600000 7302250
def lw_Z (below : List Frame) (a : Array Value) (s : State) : State → Prop := fun t => ∃ o, t.status = .running ∧ Ended t below o ∧ lw_Q a s o t
/-- the law's own end, with 1 on the stack, nothing written that was there before, its room as the claim has it -/
theorem lw_ret {p : Program} {l : Launch} {e : Env} {s : State} {m : MethodId} {below : List Frame} {meth : Method} {c : Code} {b : Nat} (hx : p.tables.exec = Jvm.exec) (hb : c.code = code) (hr : meth.sig.returnType = ret) (hlocks : meth.locks = false) {pc : Nat} {H : Heap} {ls : Array Slot} (hdg : decode code pc = .ok (.ireturn, 1)) : W p l e room_1 s m #[Value.ref b] below meth c H [] 600000 7302250 (lw_Z below #[Value.ref b] s) (F0 m pc ls [.int 1]) := by
  intro T hT X
  obtain ⟨fs, hret, hrun, hended, hW, hframe⟩ := X.leave (v := some (.int 1)) (hlocks := hlocks) (fun h => by rw [hr] at h; cases h)
  have hmeth' : T.vm.method? m = some meth := X.method'
  refine ⟨T.setFrames fs, ?_, .returned (some (.int 1)), hrun, hended, rfl, ⟨_, rfl⟩, hW, hframe⟩
  jvm_step X.here [X.here.top, hx, hb, hdg, hmeth', hr, ret, narrow_b1]
  (try refine ⟨rfl, ?_⟩); (try refine ⟨rfl, ?_⟩)
  first | (intro acts; rw [hret _ acts rfl rfl rfl]) | rw [hret _ _ rfl rfl rfl]
  exact Steps.refl _
/-- what holds at the law's entry: the machine, the code, the tables' words (any of lw_tbl by 'hts w (by decide +kernel)'), the script of L ints xs at the cell b, what the Statement gives of the start (any of its parts by flat_of_before) -/
def lw_At (p : Program) (s : State) (m : MethodId) (meth : Method) (c : Code) (b L : Nat) (xs : Nat → Int32) : Prop :=
  p.tables.exec = Jvm.exec ∧ c.code = code ∧ meth.sig.returnType = ret ∧ c.maxLocals = 4 ∧ s.vm.findClass R_law = some m.cls ∧ (∀ w ∈ lw_tbl, w.before #[Value.ref b] s = true) ∧ va_X b L xs s s.heap ∧ b < s.heap.size ∧ meth.locks = false ∧ (Jvm.Cond.and given_1 narrow_1).before #[Value.ref b] s = true
set_option maxHeartbeats 4000000 in
set_option maxRecDepth 100000 in
/-- YOUR PART: from the entry, for every script of at most 3072 ints, the law comes to its end with true ('hflags': the launch's flags, for a law that throws: no stack traces) -/
theorem whole_start {p : Program} {e : Env} {s : State} {m : MethodId} {below : List Frame} {meth : Method} {c : Code} (l : Launch) (hflags : l.flags = flags0) {b L : Nat} {xs : Nat → Int32} (hL : L ≤ 3072) (C0 : lw_At p s m meth c b L xs) : W p l e room_1 s m #[Value.ref b] below meth c s.heap [] 0 0 (lw_Z below #[Value.ref b] s) (entryFrame m ([Value.ref b] : List Value).toArray 4) := by
  obtain ⟨hx, hb, hr, hml, hown, hts, hX, hbl, hlocks, hgv⟩ := C0
  have ht : ∀ w ∈ pm_tbl, w.before #[Value.ref b] s = true := fun w hw => hts w (List.mem_filter.mp hw).1
  have hN := nstO hts
  obtain ⟨D, hK0⟩ := known0 ht
  obtain ⟨g0, hg0⟩ := st_0 hts hgv
  obtain ⟨g1, hg1⟩ := st_1 hts hgv
  obtain ⟨g2, hg2⟩ := st_2 hts hgv
  have hby : c.code = pm_by M_Lw_law := hb
  refine law_head l hx hby hml hown hts D hK0 (fun q0 r1_q5 r1_r2_q5 r1_r2_r2_q12 r1_r2_r2_q20 r1_r2_r2_q28 r1_r2_r2_q36 r1_r2_r2_q44 r1_r2_q16 r1_r2_r8_q12 r1_r2_r8_q20 r1_r2_r8_q28 r1_r2_r8_q36 r1_r2_r8_q44 r1_r2_q27 r1_r2_r14_q7 r1_r2_r14_q25 r1_r2_r14_q38 r1_r2_r14_q51 r1_r2_r14_q59 r1_r2_q39 r1_q27 r1_r22_q23 r1_r22_q40 r1_r22_q52 r1_q38 r1_q49 r1_r27_q7 r1_r27_q15 r1_r27_q23 r1_r27_q31 r1_q60 r1_r32_q7 r1_r32_q20 r1_q73 r1_q81 r1_q87 r1_r37_q12 r1_r37_q20 r1_r37_q28 r1_r37_q36 r1_r37_q44 r1_q99 r1_q122 r1_r44_q22 r1_q122_45 r1_r46_q22 r1_q122_47 r1_r48_q22 r1_q122_49 r1_r50_q22 r1_q122_51 r1_r52_q22 r1_q122_53 r1_r54_q22 q8 r56_q7 r56_q15 r56_q23 r56_q31 r56_q39 r56_q47 r56_q55 r56_q63 r56_q71 r56_q79 r56_q87 r56_q95 r56_q103 r56_q111 r56_q118 r56_q125 r56_q132 r56_q139 r56_q146 r56_q153 r56_q160 r56_q167 r56_q175 r56_q183 r56_q191 r56_q199 r56_q207 r56_q216 r56_q224 r1_r2_r2_cA12 r1_r2_r2_cA20 r1_r2_r2_cA28 r1_r2_r2_cA36 r1_r2_r2_cA44 r1_r2_r8_cA12 r1_r2_r8_cA20 r1_r2_r8_cA28 r1_r2_r8_cA36 r1_r2_r8_cA44 r1_r2_r14_cA7 r1_r2_r14_cA25 r1_r2_r14_cA38 r1_r2_r14_cA51 r1_r2_r14_cA59 r1_r2_cA39 r1_r22_cA23 r1_r22_cA40 r1_r22_cA52 r1_r27_cA7 r1_r27_cA15 r1_r27_cA23 r1_r27_cA31 r1_r32_cA7 r1_r32_cA20 r1_cA73 r1_cA81 r1_r37_cA12 r1_r37_cA20 r1_r37_cA28 r1_r37_cA36 r1_r37_cA44 r1_cA99 r1_r44_cA22 r1_r46_cA22 r1_r48_cA22 r1_r50_cA22 r1_r52_cA22 r1_r54_cA22 r56_cA7 r56_cA15 r56_cA23 r56_cA31 r56_cA39 r56_cA47 r56_cA55 r56_cA63 r56_cA71 r56_cA79 r56_cA87 r56_cA95 r56_cA103 r56_cA111 r56_cA118 r56_cA125 r56_cA132 r56_cA139 r56_cA146 r56_cA153 r56_cA160 r56_cA167 r56_cA175 r56_cA183 r56_cA191 r56_cA199 r56_cA207 r56_cA216 r56_cA224 H locs ls hP hD hK hS hl => ?_)
  have hK1 := kz_types r1_r2_r2_cA12 r1_r2_r2_cA20 r1_r2_r2_cA28 r1_r2_r2_cA36 r1_r2_r2_cA44 r1_r2_r8_cA12 r1_r2_r8_cA20 r1_r2_r8_cA28 r1_r2_r8_cA36 r1_r2_r8_cA44 r1_r2_r14_cA7 r1_r2_r14_cA25 r1_r2_r14_cA38 r1_r2_r14_cA51 r1_r2_r14_cA59 r1_r2_cA39 r1_r22_cA23 r1_r22_cA40 r1_r22_cA52 r1_r27_cA7 r1_r27_cA15 r1_r27_cA23 r1_r27_cA31 r1_r32_cA7 r1_r32_cA20 r1_cA73 r1_cA81 r1_r37_cA12 r1_r37_cA20 r1_r37_cA28 r1_r37_cA36 r1_r37_cA44 r1_cA99 r1_r44_cA22 r1_r46_cA22 r1_r48_cA22 r1_r50_cA22 r1_r52_cA22 r1_r54_cA22 r56_cA7 r56_cA15 r56_cA23 r56_cA31 r56_cA39 r56_cA47 r56_cA55 r56_cA63 r56_cA71 r56_cA79 r56_cA87 r56_cA95 r56_cA103 r56_cA111 r56_cA118 r56_cA125 r56_cA132 r56_cA139 r56_cA146 r56_cA153 r56_cA160 r56_cA167 r56_cA175 r56_cA183 r56_cA191 r56_cA199 r56_cA207 r56_cA216 r56_cA224 hK
  have hP2 := kz_bridge (A := fun _ => True) q0 r1_q5 r1_r2_q5 r1_r2_r2_q12 r1_r2_r2_q20 r1_r2_r2_q28 r1_r2_r2_q36 r1_r2_r2_q44 r1_r2_q16 r1_r2_r8_q12 r1_r2_r8_q20 r1_r2_r8_q28 r1_r2_r8_q36 r1_r2_r8_q44 r1_r2_q27 r1_r2_r14_q7 r1_r2_r14_q25 r1_r2_r14_q38 r1_r2_r14_q51 r1_r2_r14_q59 r1_r2_q39 r1_q27 r1_r22_q23 r1_r22_q40 r1_r22_q52 r1_q38 r1_q49 r1_r27_q7 r1_r27_q15 r1_r27_q23 r1_r27_q31 r1_q60 r1_r32_q7 r1_r32_q20 r1_q73 r1_q81 r1_q87 r1_r37_q12 r1_r37_q20 r1_r37_q28 r1_r37_q36 r1_r37_q44 r1_q99 r1_q122 r1_r44_q22 r1_q122_45 r1_r46_q22 r1_q122_47 r1_r48_q22 r1_q122_49 r1_r50_q22 r1_q122_51 r1_r52_q22 r1_q122_53 r1_r54_q22 q8 r56_q7 r56_q15 r56_q23 r56_q31 r56_q39 r56_q47 r56_q55 r56_q63 r56_q71 r56_q79 r56_q87 r56_q95 r56_q103 r56_q111 r56_q118 r56_q125 r56_q132 r56_q139 r56_q146 r56_q153 r56_q160 r56_q167 r56_q175 r56_q183 r56_q191 r56_q199 r56_q207 r56_q216 r56_q224 g0 g1 g2 b r1_r2_r2_cA12 r1_r2_r2_cA20 r1_r2_r2_cA28 r1_r2_r2_cA36 r1_r2_r2_cA44 r1_r2_r8_cA12 r1_r2_r8_cA20 r1_r2_r8_cA28 r1_r2_r8_cA36 r1_r2_r8_cA44 r1_r2_r14_cA7 r1_r2_r14_cA25 r1_r2_r14_cA38 r1_r2_r14_cA51 r1_r2_r14_cA59 r1_r2_cA39 r1_r22_cA23 r1_r22_cA40 r1_r22_cA52 r1_r27_cA7 r1_r27_cA15 r1_r27_cA23 r1_r27_cA31 r1_r32_cA7 r1_r32_cA20 r1_cA73 r1_cA81 r1_r37_cA12 r1_r37_cA20 r1_r37_cA28 r1_r37_cA36 r1_r37_cA44 r1_cA99 r1_r44_cA22 r1_r46_cA22 r1_r48_cA22 r1_r50_cA22 r1_r52_cA22 r1_r54_cA22 r56_cA7 r56_cA15 r56_cA23 r56_cA31 r56_cA39 r56_cA47 r56_cA55 r56_cA63 r56_cA71 r56_cA79 r56_cA87 r56_cA95 r56_cA103 r56_cA111 r56_cA118 r56_cA125 r56_cA132 r56_cA139 r56_cA146 r56_cA153 r56_cA160 r56_cA167 r56_cA175 r56_cA183 r56_cA191 r56_cA199 r56_cA207 r56_cA216 r56_cA224 hP hK
  have hD2 := kz_apart q0 r1_q5 r1_r2_q5 r1_r2_r2_q12 r1_r2_r2_q20 r1_r2_r2_q28 r1_r2_r2_q36 r1_r2_r2_q44 r1_r2_q16 r1_r2_r8_q12 r1_r2_r8_q20 r1_r2_r8_q28 r1_r2_r8_q36 r1_r2_r8_q44 r1_r2_q27 r1_r2_r14_q7 r1_r2_r14_q25 r1_r2_r14_q38 r1_r2_r14_q51 r1_r2_r14_q59 r1_r2_q39 r1_q27 r1_r22_q23 r1_r22_q40 r1_r22_q52 r1_q38 r1_q49 r1_r27_q7 r1_r27_q15 r1_r27_q23 r1_r27_q31 r1_q60 r1_r32_q7 r1_r32_q20 r1_q73 r1_q81 r1_q87 r1_r37_q12 r1_r37_q20 r1_r37_q28 r1_r37_q36 r1_r37_q44 r1_q99 r1_q122 r1_r44_q22 r1_q122_45 r1_r46_q22 r1_q122_47 r1_r48_q22 r1_q122_49 r1_r50_q22 r1_q122_51 r1_r52_q22 r1_q122_53 r1_r54_q22 q8 r56_q7 r56_q15 r56_q23 r56_q31 r56_q39 r56_q47 r56_q55 r56_q63 r56_q71 r56_q79 r56_q87 r56_q95 r56_q103 r56_q111 r56_q118 r56_q125 r56_q132 r56_q139 r56_q146 r56_q153 r56_q160 r56_q167 r56_q175 r56_q183 r56_q191 r56_q199 r56_q207 r56_q216 r56_q224 g0 g1 g2 b r1_r2_r2_cA12 r1_r2_r2_cA20 r1_r2_r2_cA28 r1_r2_r2_cA36 r1_r2_r2_cA44 r1_r2_r8_cA12 r1_r2_r8_cA20 r1_r2_r8_cA28 r1_r2_r8_cA36 r1_r2_r8_cA44 r1_r2_r14_cA7 r1_r2_r14_cA25 r1_r2_r14_cA38 r1_r2_r14_cA51 r1_r2_r14_cA59 r1_r2_cA39 r1_r22_cA23 r1_r22_cA40 r1_r22_cA52 r1_r27_cA7 r1_r27_cA15 r1_r27_cA23 r1_r27_cA31 r1_r32_cA7 r1_r32_cA20 r1_cA73 r1_cA81 r1_r37_cA12 r1_r37_cA20 r1_r37_cA28 r1_r37_cA36 r1_r37_cA44 r1_cA99 r1_r44_cA22 r1_r46_cA22 r1_r48_cA22 r1_r50_cA22 r1_r52_cA22 r1_r54_cA22 r56_cA7 r56_cA15 r56_cA23 r56_cA31 r56_cA39 r56_cA47 r56_cA55 r56_cA63 r56_cA71 r56_cA79 r56_cA87 r56_cA95 r56_cA103 r56_cA111 r56_cA118 r56_cA125 r56_cA132 r56_cA139 r56_cA146 r56_cA153 r56_cA160 r56_cA167 r56_cA175 r56_cA183 r56_cA191 r56_cA199 r56_cA207 r56_cA216 r56_cA224 hD
  clear hP hD hK
  have hl2 : lv_has ls (pm_ml M_Lw_law) ([(0, .ref 1003), (1, .ref 0), (2, .ref 55), (3, .int (nI (6 * 0)))].map (pm_mq (kz_ad [q0, r1_q5, r1_r2_q5, r1_r2_r2_q12, r1_r2_r2_q20, r1_r2_r2_q28, r1_r2_r2_q36, r1_r2_r2_q44, r1_r2_q16, r1_r2_r8_q12, r1_r2_r8_q20, r1_r2_r8_q28, r1_r2_r8_q36, r1_r2_r8_q44, r1_r2_q27, r1_r2_r14_q7, r1_r2_r14_q25, r1_r2_r14_q38, r1_r2_r14_q51, r1_r2_r14_q59, r1_r2_q39, r1_q27, r1_r22_q23, r1_r22_q40, r1_r22_q52, r1_q38, r1_q49, r1_r27_q7, r1_r27_q15, r1_r27_q23, r1_r27_q31, r1_q60, r1_r32_q7, r1_r32_q20, r1_q73, r1_q81, r1_q87, r1_r37_q12, r1_r37_q20, r1_r37_q28, r1_r37_q36, r1_r37_q44, r1_q99, r1_q122, r1_r44_q22, r1_q122_45, r1_r46_q22, r1_q122_47, r1_r48_q22, r1_q122_49, r1_r50_q22, r1_q122_51, r1_r52_q22, r1_q122_53, r1_r54_q22, q8, r56_q7, r56_q15, r56_q23, r56_q31, r56_q39, r56_q47, r56_q55, r56_q63, r56_q71, r56_q79, r56_q87, r56_q95, r56_q103, r56_q111, r56_q118, r56_q125, r56_q132, r56_q139, r56_q146, r56_q153, r56_q160, r56_q167, r56_q175, r56_q183, r56_q191, r56_q199, r56_q207, r56_q216, r56_q224] g0 g1 g2 b))) := lv_sub hl [3, 2, 1, 0] rfl
  have hW := lawL (D := 0) (L := L) (xs := xs) hL 512 0 H0 rfl (rel0.mono (Nat.le_refl 0))
  refine hW p l e room_1 s m #[Value.ref b] below meth c 85 2468 (lw_Z below #[Value.ref b] s) D (kz_tc r1_r2_r2_cA12 r1_r44_cA22 r56_cA160 r1_cA73) (kz_ad [q0, r1_q5, r1_r2_q5, r1_r2_r2_q12, r1_r2_r2_q20, r1_r2_r2_q28, r1_r2_r2_q36, r1_r2_r2_q44, r1_r2_q16, r1_r2_r8_q12, r1_r2_r8_q20, r1_r2_r8_q28, r1_r2_r8_q36, r1_r2_r8_q44, r1_r2_q27, r1_r2_r14_q7, r1_r2_r14_q25, r1_r2_r14_q38, r1_r2_r14_q51, r1_r2_r14_q59, r1_r2_q39, r1_q27, r1_r22_q23, r1_r22_q40, r1_r22_q52, r1_q38, r1_q49, r1_r27_q7, r1_r27_q15, r1_r27_q23, r1_r27_q31, r1_q60, r1_r32_q7, r1_r32_q20, r1_q73, r1_q81, r1_q87, r1_r37_q12, r1_r37_q20, r1_r37_q28, r1_r37_q36, r1_r37_q44, r1_q99, r1_q122, r1_r44_q22, r1_q122_45, r1_r46_q22, r1_q122_47, r1_r48_q22, r1_q122_49, r1_r50_q22, r1_q122_51, r1_r52_q22, r1_q122_53, r1_r54_q22, q8, r56_q7, r56_q15, r56_q23, r56_q31, r56_q39, r56_q47, r56_q55, r56_q63, r56_q71, r56_q79, r56_q87, r56_q95, r56_q103, r56_q111, r56_q118, r56_q125, r56_q132, r56_q139, r56_q146, r56_q153, r56_q160, r56_q167, r56_q175, r56_q183, r56_q191, r56_q199, r56_q207, r56_q216, r56_q224] g0 g1 g2 b) (fun q : Nat => s.heap.size ≤ q) ⟨hx, hby, hml, hown, ⟨ht, hN⟩, hK1, ⟨hg0, hg1, hg2⟩, ⟨hX, hbl, Nat.not_le.mpr hbl⟩, fun _ h => h, ⟨Nat.le_of_ble_eq_true rfl, Nat.le_of_ble_eq_true rfl, Nat.le_of_ble_eq_true rfl, Nat.le_of_ble_eq_true rfl⟩, ?_⟩ H locs ls hP2 hD2 hS hl2
  intro v H' Hp locs' pc lsa hv hkd hPe hDe hSe hdec
  subst hv
  refine va_forget (fun q hq => hSe.2.2 q hq) ?_
  refine W.widen (k := 600000) (n := 7302250) (Nat.le_of_ble_eq_true rfl) (Nat.le_of_ble_eq_true rfl) ?_
  exact lw_ret hx hb hr hlocks hdec
set_option maxHeartbeats 4000000 in
theorem lw_walk (l : Launch) (hflags : l.flags = flags0) (b : Addr) (xs : List Int32) : MetFree l x (headSpec (Jvm.Cond.code x code maxLocals ret :: tables_1) room_1) (lw_P b xs) (fun _ _ _ _ _ => True) lw_Q := by
  refine MetFree.of_bodyS (code := code) (maxLocals := maxLocals) (ret := ret) (by decide) ?_ ?_
  · intro args s m h hn
    obtain ⟨meth, c, h1, h2, h3, h4, h5, h6, -, -⟩ := Cond.code_spec hn (atoms_spec (ws := Jvm.Cond.code x code maxLocals ret :: tables_1) h _ List.mem_cons_self)
    exact ⟨meth, c, h1, h2, h3, h4, h5, h6⟩
  · intro p e s m args below meth c s₁ B hml0 hP _
    obtain ⟨rfl, hx, hbd, hgv⟩ := hP
    obtain ⟨scr, harrAt, hlist, hof, hsmall⟩ := hx
    obtain ⟨hcb, hkn, -, -⟩ := State.arrayAt?_spec harrAt
    have hown : s.vm.findClass R_law = some m.cls := findClass_of_methodNamed B.named
    have hts0 : ∀ c ∈ (Jvm.Cond.code x code maxLocals ret :: tables_1), c.before #[Value.ref b] s = true := atoms_spec (ws := Jvm.Cond.code x code maxLocals ret :: tables_1) B.pre
    have hts : ∀ w ∈ lw_tbl, w.before #[Value.ref b] s = true := k2_hts_sels lw_privs (fun w hw => hts0 w (List.mem_cons_of_mem _ hw)) lw_privs_ok
    have hml : c.maxLocals = 4 := B.maxLocals_eq (hts0 _ List.mem_cons_self)
    have X₀ : Stand p l e room_1 s m #[Value.ref b] below meth c s₁ [] 0 0 := Stand.of_body B
    have hh0 : s₁.heap = s.heap := by rw [B.state]; rfl
    have hsz : scr.slots.size = xs.length := by rw [← Array.length_toList, hlist, List.length_map]
    have hval : ∀ j : Nat, j < xs.length → scr.slots[j]? = some (.int (xs.getD j 0)) := fun j hj => by
      rw [← Array.getElem?_toList, hlist]
      simp [hj]
    have hbl : b < s.heap.size := (Array.getElem?_eq_some_iff.mp hcb).1
    have hX : va_X b xs.length (fun j => xs.getD j 0) s s.heap := ⟨scr, hcb, hof, hkn, hsz, hval⟩
    have K : W p l e room_1 s m #[Value.ref b] below meth c s₁.heap [] 0 0 (lw_Z below #[Value.ref b] s) (entryFrame m ([Value.ref b] : List Value).toArray 4) := by
      rw [hh0]
      exact whole_start l hflags hbd ⟨B.exec, B.bytes, B.returns, hml, hown, hts, hX, hbl, B.notSynchronized, hgv⟩
    obtain ⟨t, a1, o, b1, b2, b3⟩ := K s₁ rfl X₀
    exact ⟨t, o, a1, b1, b2, b3⟩
theorem lw_pre_spec {args : Array Value} {s : State} (h : (Jvm.Cond.and given_1 narrow_1).before args s = true) (hr : rest_1_c.before args s = true) : ∃ (b : Addr) (xs : List Int32), lw_P b xs args s := by
  have hs := flat_of_before _ h
  have hq := flat_of_before _ hr
  have hc : (Cond.count 1).before args s = true := hs _ (by decide +kernel)
  have harr : (Cond.arrayOf (.arg 0) .int).before args s = true := hs _ (by decide +kernel)
  have hle : (Cond.le (.length (.arg 0)) (.int 3072)).before args s = true := hs _ (by decide +kernel)
  have hlen : (Cond.isInt (.length (.arg 0))).before args s = true := hq _ (by decide +kernel)
  have hall : (Cond.all (.arg 0) (.isInt (.elem (.arg 0) (.index 0)))).before args s = true := hq _ (by decide +kernel)
  obtain ⟨b, xs, hb, hx⟩ := State.ints_of_pre rfl harr hlen hall
  have hsm : xs.length < 2 ^ 31 := hx.choose_spec.2.2.2
  have hev : (Term.length (.arg 0)).eval args s none [] s = some (.int xs.length.toInt32) := hx.length_eval hb
  have hv := Cond.le_ints hev (show (Term.int 3072).eval args s none [] s = some (.int 3072) from rfl)
  have hd : xs.length.toInt32 ≤ 3072 := by
    simpa [Cond.before, Cond.holds, hv] using hle
  have hN : xs.length ≤ 3072 := (Int32.ofNat_le_ofNat hsm (by decide)).mp (show Int32.ofNat xs.length ≤ Int32.ofNat 3072 from hd)
  exact ⟨b, xs, Cond.one_arg hc (show args[0]? = some (.ref b) from hb), hx, hN, h⟩
theorem lw_comes (l : Launch) (hflags : l.flags = flags0) : Comes l x (Jvm.Cond.code x code maxLocals ret :: tables_1) room_1 (fun tb e args s => Calls_1 tb e args s ∧ rest_1 tb e args s ∧ Pre_1 tb e args s)
    (fun _ _ args s o t => lw_Q args s o t) := by
  intro p e ha hc hk s m args below hf hfit hheap happ hpre
  obtain ⟨b, xs, hP⟩ := lw_pre_spec hpre.2.2 hpre.2.1
  obtain ⟨k, o, h1, h2, h3, hQ⟩ := lw_walk l hflags b xs p e ha hc hk s m args below hf ((Spec.applies_iff_loose hf).mp happ).1 hP trivial
  exact ⟨k, o, h1, h2, h3, hQ⟩
theorem lw_frame {s t : State} {o : Outcome} {args : Array Value} (h : Framed s o t [] 600000 7302250) :
    Framed s o t (fieldLocs frame_1_writes args s ++ arrayLocs frame_1_arrays args s ++ staticLocs frame_1_statics s) 600000 7302250 := h
theorem lw_limb (L : Cond) (hL : ∀ (args : Array Value) (s t : State), L.after args s (.returned (some (.int 1))) t = true) :
    ArmFor flags0 classFile x code maxLocals ret World_1 tables_1 room_1 Calls_1 rest_1 Pre_1
      (fun tb e a s o t => postC L tb e a s o t ∧ Framed s o t (fieldLocs frame_1_writes a s ++ arrayLocs frame_1_arrays a s ++ staticLocs frame_1_statics s) 600000 7302250) := by
  intro l hflags _ _ p e ha hc hk s m args below hf hfit hheap happ hpre
  obtain ⟨k, o, h1, h2, h3, rfl, hF⟩ := lw_comes l hflags p e ha hc hk s m args below hf hfit hheap happ hpre
  exact ⟨k, _, h1, h2, h3, hL args s _, lw_frame hF⟩
theorem i_vc : Claimed_1_1 ∧ Claimed_1_2 := ⟨lw_limb limb_1_1 (fun args s t => by simp [limb_1_1, Cond.after, Cond.holds, Cond.value]), lw_limb limb_1_2 (fun args s t => Cond.after_iff.mpr (by
  first | (rw [show limb_1_2 = Cond.eq .result (.int 1) from rfl, Cond.eq_ints (x := 1) (y := 1) rfl rfl]; simp; done) | (simp [limb_1_2, Cond.value, Term.eval]; done)))⟩
