/-! the tables' check, and the soundness of pm_wp -/
def pm_dc (y pc : Nat) (i : Instr) (len nx : Nat) : Bool := decide (decode (pm_by y) pc = .ok (i, len)) && Nat.beq nx (pc + len)
def pm_wb (wi : Nat) (w : Cond) : Bool := decide (lw_tbl[wi]? = some w) && goodWord w
def pm_fin4 (j : Nat) : Fin 4 := ⟨j % 4, Nat.mod_lt _ (by decide)⟩
def pm_fin2 (j : Nat) : Fin 2 := ⟨j % 2, Nat.mod_lt _ (by decide)⟩
def pm_cl0 : vw_C := (RX0, TX0, 0)
/-- a field's link: class number, slot, pool index, word -/
def pm_fok (y ci k a wi : Nat) : Bool := match vwCl[ci]? with
  | some q => decide (k < q.2.2) && pm_wb wi (.fieldLink (pm_nm y).cls a (q.2.1 k).1 (q.2.1 k).2.1 (q.2.1 k).2.2.1) && decide ((pm_ftl.getD ci [])[k]? = some (pm_ft ci k))
  | none => false
def pm_pok (ci k : Nat) : Bool := match vwCl[ci]? with
  | some q => !(q.2.1 k).2.2.2 && (match pm_ft ci k with
    | 0 => decide (parseFieldDescriptor (q.2.1 k).2.2.1 = some .int)
    | 1 => decide (parseFieldDescriptor (q.2.1 k).2.2.1 = some .boolean)
    | _ => false)
  | none => false
def pm_rcok (rc y' : Nat) : Bool := match rc with
  | 0 => pm_sta y'
  | ci + 1 => !pm_sta y' && (match vwCl[ci]? with
    | some q => decide (q.1 = (pm_nm y').cls)
    | none => false)
def pm_nstb (w : Cond) : Bool := pm_nst.any fun v => decide (v = w)
/-- one entry of a table: it is what stands in the code -/
def pm_okE (y nx : Nat) (e : pmE) : Bool := match e with
  | (pc, _, i, how, a, wi) => match i with
    | .iconst n => (match how with
      | 0 => pm_dc y pc (.iconst n) 1 nx
      | 1 => pm_dc y pc (.bipush n) 2 nx && decide ((Int8.ofInt n).toInt32 = Int32.ofInt n)
      | 2 => pm_dc y pc (.sipush n) 3 nx && decide ((Int16.ofInt n).toInt32 = Int32.ofInt n)
      | 3 => pm_dc y pc (.ldc a) 2 nx && pm_wb wi (.constant (pm_nm y).cls a (Int32.ofInt n))
      | _ => pm_dc y pc (.ldc_w a) 3 nx && pm_wb wi (.constant (pm_nm y).cls a (Int32.ofInt n)))
    | .jsr n => (match how with
      | 0 => pm_dc y pc (.lconst (pm_fin2 n.toNat)) 1 nx && decide (Int64.ofNat (pm_fin2 n.toNat : Nat) = Int64.ofInt n)
      | _ => pm_dc y pc (.ldc2_w a) 3 nx && pm_wb wi (.constantLong (pm_nm y).cls a (Int64.ofInt n)))
    | .iload j => (match how with
      | 0 => pm_dc y pc (.iload_n (pm_fin4 j)) 1 nx && Nat.beq (j % 4) j
      | _ => pm_dc y pc (.iload j) 2 nx)
    | .istore j => Nat.blt (j + 0) (pm_ml y) && (match how with
      | 0 => pm_dc y pc (.istore_n (pm_fin4 j)) 1 nx && Nat.beq (j % 4) j
      | _ => pm_dc y pc (.istore j) 2 nx)
    | .lload j => (match how with
      | 0 => pm_dc y pc (.lload_n (pm_fin4 j)) 1 nx && Nat.beq (j % 4) j
      | _ => pm_dc y pc (.lload j) 2 nx)
    | .lstore j => Nat.blt (j + 1) (pm_ml y) && (match how with
      | 0 => pm_dc y pc (.lstore_n (pm_fin4 j)) 1 nx && Nat.beq (j % 4) j
      | _ => pm_dc y pc (.lstore j) 2 nx)
    | .aload j => (match how with
      | 0 => pm_dc y pc (.aload_n (pm_fin4 j)) 1 nx && Nat.beq (j % 4) j
      | _ => pm_dc y pc (.aload j) 2 nx)
    | .astore j => Nat.blt (j + 0) (pm_ml y) && (match how with
      | 0 => pm_dc y pc (.astore_n (pm_fin4 j)) 1 nx && Nat.beq (j % 4) j
      | _ => pm_dc y pc (.astore j) 2 nx)
    | .iinc j n => Nat.blt j (pm_ml y) && pm_dc y pc (.iinc j n) 3 nx
    | .iadd => pm_dc y pc .iadd 1 nx
    | .isub => pm_dc y pc .isub 1 nx
    | .imul => pm_dc y pc .imul 1 nx
    | .iand => pm_dc y pc .iand 1 nx
    | .ior => pm_dc y pc .ior 1 nx
    | .ixor => pm_dc y pc .ixor 1 nx
    | .ishl => pm_dc y pc .ishl 1 nx
    | .ishr => pm_dc y pc .ishr 1 nx
    | .iushr => pm_dc y pc .iushr 1 nx
    | .idiv => pm_dc y pc .idiv 1 nx
    | .irem => pm_dc y pc .irem 1 nx
    | .ineg => pm_dc y pc .ineg 1 nx
    | .ladd => pm_dc y pc .ladd 1 nx
    | .lsub => pm_dc y pc .lsub 1 nx
    | .lmul => pm_dc y pc .lmul 1 nx
    | .land => pm_dc y pc .land 1 nx
    | .lor => pm_dc y pc .lor 1 nx
    | .ldiv => pm_dc y pc .ldiv 1 nx
    | .lrem => pm_dc y pc .lrem 1 nx
    | .lshl => pm_dc y pc .lshl 1 nx
    | .lcmp => pm_dc y pc .lcmp 1 nx
    | .i2l => pm_dc y pc .i2l 1 nx
    | .l2i => pm_dc y pc .l2i 1 nx
    | .i2b => pm_dc y pc .i2b 1 nx
    | .i2s => pm_dc y pc .i2s 1 nx
    | .dup => pm_dc y pc .dup 1 nx
    | .dup2 => pm_dc y pc .dup2 1 nx
    | .pop => pm_dc y pc .pop 1 nx
    | .iaload => pm_dc y pc .iaload 1 nx
    | .laload => pm_dc y pc .laload 1 nx
    | .baload => pm_dc y pc .baload 1 nx
    | .aaload => pm_dc y pc .aaload 1 nx
    | .iastore => pm_dc y pc .iastore 1 nx
    | .lastore => pm_dc y pc .lastore 1 nx
    | .bastore => pm_dc y pc .bastore 1 nx
    | .arraylength => pm_dc y pc .arraylength 1 nx
    | .if_icmp c t => decide (0 ≤ t) && pm_dc y pc (.if_icmp c (t - pc)) 3 nx
    | .ifCond c t => decide (0 ≤ t) && pm_dc y pc (.ifCond c (t - pc)) 3 nx
    | .goto t => decide (0 ≤ t) && decide (decode (pm_by y) pc = .ok (.goto (t - pc), 3))
    | .lookupswitch t ps => decide (0 ≤ t) && (ps.toList.all fun q => decide (0 ≤ q.2) && decide ((Int32.ofInt q.1).toInt = q.1)) && (match how with
      | 0 => decide (decode (pm_by y) pc = .ok (.lookupswitch (t - pc) (ps.toList.map fun q => (q.1, q.2 - (pc : Int))).toArray, a)) && ((ps.toList.map fun q => (q.1, q.2 - (pc : Int))).zip ((ps.toList.map fun q => (q.1, q.2 - (pc : Int))).drop 1)).all (fun (a, next) => a.1 < next.1)
      | _ => (match ps.toList with
        | [] => false
        | q0 :: _ => decide (decode (pm_by y) pc = .ok (.tableswitch (t - pc) q0.1 (q0.1 + (ps.toList.length : Int) - 1) (ps.toList.map fun q => q.2 - (pc : Int)).toArray, a)) && (ps.toList.zipIdx.all fun z => decide (z.1.1 = q0.1 + (z.2 : Int)))))
    | .getfield q => pm_dc y pc (.getfield a) 3 nx && pm_fok y (q / 64) (q % 64) a wi
    | .putfield q => pm_dc y pc (.putfield a) 3 nx && pm_fok y (q / 64) (q % 64) a wi && (Nat.beq q 259 || (Nat.beq q 261 || pm_pok (q / 64) (q % 64)))
    | .getstatic j => pm_dc y pc (.getstatic a) 3 nx && pm_wb wi (.fieldLink (pm_nm y).cls a (pm_sn j).1 (pm_sn j).2 "[I") && Nat.blt j 3
    | .invokeinterface y' cnt => Nat.beq (cnt % 4) (pm_rk y') && pm_rcok (cnt / 64) y' && decide ((parseMethodDescriptor (pm_nm y').desc).map (fun d => d.parameters.length + (cond (pm_sta y') 0 1)) = some (cnt / 4 % 16)) && (match how with
      | 0 => pm_dc y pc (.invokevirtual a) 3 nx && !pm_sta y' && pm_wb wi (.methodLink (pm_nm y).cls a (pm_nm y'))
      | 1 => pm_dc y pc (.invokestatic a) 3 nx && pm_sta y' && pm_wb wi (.methodLink (pm_nm y).cls a (pm_nm y'))
      | _ => pm_dc y pc (.invokestatic a) 3 nx && pm_sta y' && pm_nstb (.methodLinkNest (pm_nm y).cls a (pm_nm y') "PractisedWrong"))
    | .invokedynamic _ => pm_dc y pc (.invokestatic a) 3 nx && pm_wb wi (.methodLink (pm_nm y).cls a arraycopyName)
    | .fadd => pm_dc y pc (.invokestatic a) 3 nx && pm_wb wi (.methodLink (pm_nm y).cls a Lib.Math.max.name)
    | .fsub => pm_dc y pc (.invokestatic a) 3 nx && pm_wb wi (.methodLink (pm_nm y).cls a Lib.Math.min.name)
    | .ireturn => decide (decode (pm_by y) pc = .ok (.ireturn, 1)) && decide (pm_rt y = some .int)
    | .areturn => decide (decode (pm_by y) pc = .ok (.ireturn, 1)) && decide (pm_rt y = some .boolean)
    | .lreturn => decide (decode (pm_by y) pc = .ok (.lreturn, 1)) && decide (pm_rt y = some .long)
    | .return_ => decide (decode (pm_by y) pc = .ok (.return_, 1)) && decide (pm_rt y = none)
    | _ => false
def pm_hd : List pmE → Nat
  | [] => 0
  | e :: _ => e.1
def pm_okT (y : Nat) : List pmE → Bool
  | [] => true
  | e :: r => pm_okE y (pm_hd r) e && pm_okT y r
def pm_IH (X : Option (Nat × (Nat → Int32))) (d y : Nat) (Q : pmQ) (K : List pmE → pmL → List Value → pmT → Prop) : Prop := ∀ code, pm_okT y code = true → ∀ ls st H, K code ls st H → pm_RW X d y Q (pm_hd code) ls st H
theorem pm_okT_jmp {y : Nat} (t : Nat) : ∀ {tab : List pmE}, pm_okT y tab = true → pm_okT y (pm_jmp t tab) = true
  | [], _ => rfl
  | e :: r, h => by
    unfold pm_jmp
    cases hb : Nat.beq e.1 t with
    | true => exact h
    | false => exact pm_okT_jmp t (by simp only [pm_okT, Bool.and_eq_true] at h; exact h.2)
theorem pm_hd_jmp (t : Nat) : ∀ (tab : List pmE), pm_jmp t tab = [] ∨ pm_hd (pm_jmp t tab) = t
  | [] => Or.inl rfl
  | e :: r => by
    unfold pm_jmp
    cases hb : Nat.beq e.1 t with
    | true => exact Or.inr (Nat.eq_of_beq_eq_true hb)
    | false => exact pm_hd_jmp t r
section
variable {X : Option (Nat × (Nat → Int32))} {d y : Nat} {Q : pmQ} {K : List pmE → pmL → List Value → pmT → Prop} {tab rest : List pmE} {pc how a wi : Nat} {cut : List Nat} {ls : pmL} {st : List Value} {H : pmT}
theorem pm_dc_of {i : Instr} {len nx : Nat} (h : pm_dc y pc i len nx = true) : decode (pm_by y) pc = .ok (i, len) ∧ pc + len = nx := by
  simp only [pm_dc, Bool.and_eq_true, decide_eq_true_eq] at h
  exact ⟨h.1, (Nat.eq_of_beq_eq_true h.2).symm⟩
theorem pm_wb_of {w : Cond} (h : pm_wb wi w = true) : w ∈ pm_tbl := by
  simp only [pm_wb, Bool.and_eq_true, decide_eq_true_eq] at h
  exact pm_inW h.1 h.2
theorem pm_K (hK : pm_IH X d y Q K) (hR : pm_okT y rest = true) {nx : Nat} (hn : nx = pm_hd rest) {ls : pmL} {st : List Value} {H : pmT} (h : K rest ls st H) : pm_RW X d y Q nx ls st H := hn ▸ hK rest hR ls st H h
theorem pm_J (hK : pm_IH X d y Q K) (hE : ∀ ls st H, ¬ K [] ls st H) (hT : pm_okT y tab = true) (t : Nat) {ls : pmL} {st : List Value} {H : pmT} (h : K (pm_jmp t tab) ls st H) : pm_RW X d y Q t ls st H := by
  rcases pm_hd_jmp t tab with e | e
  · rw [e] at h; exact absurd h (hE _ _ _)
  · have := hK _ (pm_okT_jmp t hT) ls st H h
    rw [e] at this
    exact this
theorem ps_iconst {n : Int} (hK : pm_IH X d y Q K) (hE : ∀ ls st H, ¬ K [] ls st H) (hT : pm_okT y tab = true) (hR : pm_okT y rest = true) (he : pm_okE y (pm_hd rest) (pc, cut, .iconst n, how, a, wi) = true) (h : pm_one X d Q K tab rest (.iconst n) ls st H) : pm_RW X d y Q pc ls st H := by
  simp only [pm_okE] at he
  split at he
  · have hd := pm_dc_of he
    exact pr_iconst hd.1 rfl (pm_K hK hR hd.2 h)
  · simp only [Bool.and_eq_true, decide_eq_true_eq] at he
    have hd := pm_dc_of he.1
    exact pr_bipush hd.1 he.2 (pm_K hK hR hd.2 h)
  · simp only [Bool.and_eq_true, decide_eq_true_eq] at he
    have hd := pm_dc_of he.1
    exact pr_sipush hd.1 he.2 (pm_K hK hR hd.2 h)
  · simp only [Bool.and_eq_true] at he
    have hd := pm_dc_of he.1
    exact pr_ldc hd.1 (pm_wb_of he.2) (pm_K hK hR hd.2 h)
  · simp only [Bool.and_eq_true] at he
    have hd := pm_dc_of he.1
    exact pr_ldcw hd.1 (pm_wb_of he.2) (pm_K hK hR hd.2 h)
theorem ps_jsr {n : Int} (hK : pm_IH X d y Q K) (hE : ∀ ls st H, ¬ K [] ls st H) (hT : pm_okT y tab = true) (hR : pm_okT y rest = true) (he : pm_okE y (pm_hd rest) (pc, cut, .jsr n, how, a, wi) = true) (h : pm_one X d Q K tab rest (.jsr n) ls st H) : pm_RW X d y Q pc ls st H := by
  simp only [pm_okE] at he
  split at he
  · simp only [Bool.and_eq_true, decide_eq_true_eq] at he
    have hd := pm_dc_of he.1
    exact pr_lconst hd.1 he.2 (pm_K hK hR hd.2 h)
  · simp only [Bool.and_eq_true] at he
    have hd := pm_dc_of he.1
    exact pr_ldc2 hd.1 (pm_wb_of he.2) (pm_K hK hR hd.2 h)
theorem ps_iload {j : Nat} (hK : pm_IH X d y Q K) (hE : ∀ ls st H, ¬ K [] ls st H) (hT : pm_okT y tab = true) (hR : pm_okT y rest = true) (he : pm_okE y (pm_hd rest) (pc, cut, .iload j, how, a, wi) = true) (h : pm_one X d Q K tab rest (.iload j) ls st H) : pm_RW X d y Q pc ls st H := by
  have h' : ∃ x, pm_get ls j = some (.int x) ∧ K rest ls (.int x :: st) H := by
    simp only [pm_one] at h
    split at h
    · exact ⟨_, by assumption, h⟩
    · exact h.elim
  obtain ⟨x, hg, hx⟩ := h'
  simp only [pm_okE] at he
  split at he
  · simp only [Bool.and_eq_true] at he
    have hd := pm_dc_of he.1
    exact pr_iload_n hd.1 (Nat.eq_of_beq_eq_true he.2) hg (pm_K hK hR hd.2 hx)
  · have hd := pm_dc_of he
    exact pr_iload hd.1 hg (pm_K hK hR hd.2 hx)
theorem ps_istore {j : Nat} (hK : pm_IH X d y Q K) (hE : ∀ ls st H, ¬ K [] ls st H) (hT : pm_okT y tab = true) (hR : pm_okT y rest = true) (he : pm_okE y (pm_hd rest) (pc, cut, .istore j, how, a, wi) = true) (h : pm_one X d Q K tab rest (.istore j) ls st H) : pm_RW X d y Q pc ls st H := by
  have h' : ∃ x r, st = .int x :: r ∧ K rest (pm_s1 ls j (.int x)) r H := by
    simp only [pm_one] at h
    split at h
    · exact ⟨_, _, rfl, h⟩
    · exact h.elim
  obtain ⟨x, r, rfl, hx⟩ := h'
  simp only [pm_okE, Bool.and_eq_true] at he
  have hn : j + 0 < pm_ml y := Nat.le_of_ble_eq_true he.1
  have he := he.2
  split at he
  · simp only [Bool.and_eq_true] at he
    have hd := pm_dc_of he.1
    exact pr_istore_n hd.1 (Nat.eq_of_beq_eq_true he.2) hn (pm_K hK hR hd.2 hx)
  · have hd := pm_dc_of he
    exact pr_istore hd.1 hn (pm_K hK hR hd.2 hx)
theorem ps_lload {j : Nat} (hK : pm_IH X d y Q K) (hE : ∀ ls st H, ¬ K [] ls st H) (hT : pm_okT y tab = true) (hR : pm_okT y rest = true) (he : pm_okE y (pm_hd rest) (pc, cut, .lload j, how, a, wi) = true) (h : pm_one X d Q K tab rest (.lload j) ls st H) : pm_RW X d y Q pc ls st H := by
  have h' : ∃ x, pm_get ls j = some (.long x) ∧ K rest ls (.long x :: st) H := by
    simp only [pm_one] at h
    split at h
    · exact ⟨_, by assumption, h⟩
    · exact h.elim
  obtain ⟨x, hg, hx⟩ := h'
  simp only [pm_okE] at he
  split at he
  · simp only [Bool.and_eq_true] at he
    have hd := pm_dc_of he.1
    exact pr_lload_n hd.1 (Nat.eq_of_beq_eq_true he.2) hg (pm_K hK hR hd.2 hx)
  · have hd := pm_dc_of he
    exact pr_lload hd.1 hg (pm_K hK hR hd.2 hx)
theorem ps_lstore {j : Nat} (hK : pm_IH X d y Q K) (hE : ∀ ls st H, ¬ K [] ls st H) (hT : pm_okT y tab = true) (hR : pm_okT y rest = true) (he : pm_okE y (pm_hd rest) (pc, cut, .lstore j, how, a, wi) = true) (h : pm_one X d Q K tab rest (.lstore j) ls st H) : pm_RW X d y Q pc ls st H := by
  have h' : ∃ x r, st = .long x :: r ∧ K rest (pm_s2 ls j (.long x)) r H := by
    simp only [pm_one] at h
    split at h
    · exact ⟨_, _, rfl, h⟩
    · exact h.elim
  obtain ⟨x, r, rfl, hx⟩ := h'
  simp only [pm_okE, Bool.and_eq_true] at he
  have hn : j + 1 < pm_ml y := Nat.le_of_ble_eq_true he.1
  have he := he.2
  split at he
  · simp only [Bool.and_eq_true] at he
    have hd := pm_dc_of he.1
    exact pr_lstore_n hd.1 (Nat.eq_of_beq_eq_true he.2) hn (pm_K hK hR hd.2 hx)
  · have hd := pm_dc_of he
    exact pr_lstore hd.1 hn (pm_K hK hR hd.2 hx)
theorem ps_aload {j : Nat} (hK : pm_IH X d y Q K) (hE : ∀ ls st H, ¬ K [] ls st H) (hT : pm_okT y tab = true) (hR : pm_okT y rest = true) (he : pm_okE y (pm_hd rest) (pc, cut, .aload j, how, a, wi) = true) (h : pm_one X d Q K tab rest (.aload j) ls st H) : pm_RW X d y Q pc ls st H := by
  have h' : ∃ x, pm_get ls j = some (.ref x) ∧ K rest ls (.ref x :: st) H := by
    simp only [pm_one] at h
    split at h
    · exact ⟨_, by assumption, h⟩
    · exact h.elim
  obtain ⟨x, hg, hx⟩ := h'
  simp only [pm_okE] at he
  split at he
  · simp only [Bool.and_eq_true] at he
    have hd := pm_dc_of he.1
    exact pr_aload_n hd.1 (Nat.eq_of_beq_eq_true he.2) hg (pm_K hK hR hd.2 hx)
  · have hd := pm_dc_of he
    exact pr_aload hd.1 hg (pm_K hK hR hd.2 hx)
theorem ps_astore {j : Nat} (hK : pm_IH X d y Q K) (hE : ∀ ls st H, ¬ K [] ls st H) (hT : pm_okT y tab = true) (hR : pm_okT y rest = true) (he : pm_okE y (pm_hd rest) (pc, cut, .astore j, how, a, wi) = true) (h : pm_one X d Q K tab rest (.astore j) ls st H) : pm_RW X d y Q pc ls st H := by
  have h' : ∃ x r, st = .ref x :: r ∧ K rest (pm_s1 ls j (.ref x)) r H := by
    simp only [pm_one] at h
    split at h
    · exact ⟨_, _, rfl, h⟩
    · exact h.elim
  obtain ⟨x, r, rfl, hx⟩ := h'
  simp only [pm_okE, Bool.and_eq_true] at he
  have hn : j + 0 < pm_ml y := Nat.le_of_ble_eq_true he.1
  have he := he.2
  split at he
  · simp only [Bool.and_eq_true] at he
    have hd := pm_dc_of he.1
    exact pr_astore_n hd.1 (Nat.eq_of_beq_eq_true he.2) hn (pm_K hK hR hd.2 hx)
  · have hd := pm_dc_of he
    exact pr_astore hd.1 hn (pm_K hK hR hd.2 hx)
theorem ps_iinc {j : Nat} {n : Int} (hK : pm_IH X d y Q K) (hE : ∀ ls st H, ¬ K [] ls st H) (hT : pm_okT y tab = true) (hR : pm_okT y rest = true) (he : pm_okE y (pm_hd rest) (pc, cut, .iinc j n, how, a, wi) = true) (h : pm_one X d Q K tab rest (.iinc j n) ls st H) : pm_RW X d y Q pc ls st H := by
  have h' : ∃ x, pm_get ls j = some (.int x) ∧ K rest (pm_s1 ls j (.int (x + Int32.ofInt n))) st H := by
    simp only [pm_one] at h
    split at h
    · exact ⟨_, by assumption, h⟩
    · exact h.elim
  obtain ⟨x, hg, hx⟩ := h'
  simp only [pm_okE, Bool.and_eq_true] at he
  have hd := pm_dc_of he.2
  exact pr_iinc hd.1 hg (Nat.le_of_ble_eq_true he.1) (pm_K hK hR hd.2 hx)
theorem ps_iadd (hK : pm_IH X d y Q K) (hE : ∀ ls st H, ¬ K [] ls st H) (hT : pm_okT y tab = true) (hR : pm_okT y rest = true) (he : pm_okE y (pm_hd rest) (pc, cut, .iadd, how, a, wi) = true) (h : pm_one X d Q K tab rest (.iadd) ls st H) : pm_RW X d y Q pc ls st H := by
  have h' : ∃ b a r, st = .int b :: .int a :: r ∧ K rest ls (.int (a + b) :: r) H := by
    simp only [pm_one] at h
    split at h
    · exact ⟨_, _, _, rfl, h⟩
    · exact h.elim
  obtain ⟨b, a, r, rfl, hx⟩ := h'
  have hd := pm_dc_of he
  exact pr_iadd hd.1 (pm_K hK hR hd.2 hx)
theorem ps_isub (hK : pm_IH X d y Q K) (hE : ∀ ls st H, ¬ K [] ls st H) (hT : pm_okT y tab = true) (hR : pm_okT y rest = true) (he : pm_okE y (pm_hd rest) (pc, cut, .isub, how, a, wi) = true) (h : pm_one X d Q K tab rest (.isub) ls st H) : pm_RW X d y Q pc ls st H := by
  have h' : ∃ b a r, st = .int b :: .int a :: r ∧ K rest ls (.int (a - b) :: r) H := by
    simp only [pm_one] at h
    split at h
    · exact ⟨_, _, _, rfl, h⟩
    · exact h.elim
  obtain ⟨b, a, r, rfl, hx⟩ := h'
  have hd := pm_dc_of he
  exact pr_isub hd.1 (pm_K hK hR hd.2 hx)
theorem ps_imul (hK : pm_IH X d y Q K) (hE : ∀ ls st H, ¬ K [] ls st H) (hT : pm_okT y tab = true) (hR : pm_okT y rest = true) (he : pm_okE y (pm_hd rest) (pc, cut, .imul, how, a, wi) = true) (h : pm_one X d Q K tab rest (.imul) ls st H) : pm_RW X d y Q pc ls st H := by
  have h' : ∃ b a r, st = .int b :: .int a :: r ∧ K rest ls (.int (a * b) :: r) H := by
    simp only [pm_one] at h
    split at h
    · exact ⟨_, _, _, rfl, h⟩
    · exact h.elim
  obtain ⟨b, a, r, rfl, hx⟩ := h'
  have hd := pm_dc_of he
  exact pr_imul hd.1 (pm_K hK hR hd.2 hx)
theorem ps_iand (hK : pm_IH X d y Q K) (hE : ∀ ls st H, ¬ K [] ls st H) (hT : pm_okT y tab = true) (hR : pm_okT y rest = true) (he : pm_okE y (pm_hd rest) (pc, cut, .iand, how, a, wi) = true) (h : pm_one X d Q K tab rest (.iand) ls st H) : pm_RW X d y Q pc ls st H := by
  have h' : ∃ b a r, st = .int b :: .int a :: r ∧ K rest ls (.int (a &&& b) :: r) H := by
    simp only [pm_one] at h
    split at h
    · exact ⟨_, _, _, rfl, h⟩
    · exact h.elim
  obtain ⟨b, a, r, rfl, hx⟩ := h'
  have hd := pm_dc_of he
  exact pr_iand hd.1 (pm_K hK hR hd.2 hx)
theorem ps_ior (hK : pm_IH X d y Q K) (hE : ∀ ls st H, ¬ K [] ls st H) (hT : pm_okT y tab = true) (hR : pm_okT y rest = true) (he : pm_okE y (pm_hd rest) (pc, cut, .ior, how, a, wi) = true) (h : pm_one X d Q K tab rest (.ior) ls st H) : pm_RW X d y Q pc ls st H := by
  have h' : ∃ b a r, st = .int b :: .int a :: r ∧ K rest ls (.int (a ||| b) :: r) H := by
    simp only [pm_one] at h
    split at h
    · exact ⟨_, _, _, rfl, h⟩
    · exact h.elim
  obtain ⟨b, a, r, rfl, hx⟩ := h'
  have hd := pm_dc_of he
  exact pr_ior hd.1 (pm_K hK hR hd.2 hx)
theorem ps_ixor (hK : pm_IH X d y Q K) (hE : ∀ ls st H, ¬ K [] ls st H) (hT : pm_okT y tab = true) (hR : pm_okT y rest = true) (he : pm_okE y (pm_hd rest) (pc, cut, .ixor, how, a, wi) = true) (h : pm_one X d Q K tab rest (.ixor) ls st H) : pm_RW X d y Q pc ls st H := by
  have h' : ∃ b a r, st = .int b :: .int a :: r ∧ K rest ls (.int (a ^^^ b) :: r) H := by
    simp only [pm_one] at h
    split at h
    · exact ⟨_, _, _, rfl, h⟩
    · exact h.elim
  obtain ⟨b, a, r, rfl, hx⟩ := h'
  have hd := pm_dc_of he
  exact pr_ixor hd.1 (pm_K hK hR hd.2 hx)
theorem ps_ishl (hK : pm_IH X d y Q K) (hE : ∀ ls st H, ¬ K [] ls st H) (hT : pm_okT y tab = true) (hR : pm_okT y rest = true) (he : pm_okE y (pm_hd rest) (pc, cut, .ishl, how, a, wi) = true) (h : pm_one X d Q K tab rest (.ishl) ls st H) : pm_RW X d y Q pc ls st H := by
  have h' : ∃ b a r, st = .int b :: .int a :: r ∧ K rest ls (.int (a <<< (b &&& 31)) :: r) H := by
    simp only [pm_one] at h
    split at h
    · exact ⟨_, _, _, rfl, h⟩
    · exact h.elim
  obtain ⟨b, a, r, rfl, hx⟩ := h'
  have hd := pm_dc_of he
  exact pr_ishl hd.1 (pm_K hK hR hd.2 hx)
theorem ps_ishr (hK : pm_IH X d y Q K) (hE : ∀ ls st H, ¬ K [] ls st H) (hT : pm_okT y tab = true) (hR : pm_okT y rest = true) (he : pm_okE y (pm_hd rest) (pc, cut, .ishr, how, a, wi) = true) (h : pm_one X d Q K tab rest (.ishr) ls st H) : pm_RW X d y Q pc ls st H := by
  have h' : ∃ b a r, st = .int b :: .int a :: r ∧ K rest ls (.int (a >>> (b &&& 31)) :: r) H := by
    simp only [pm_one] at h
    split at h
    · exact ⟨_, _, _, rfl, h⟩
    · exact h.elim
  obtain ⟨b, a, r, rfl, hx⟩ := h'
  have hd := pm_dc_of he
  exact pr_ishr hd.1 (pm_K hK hR hd.2 hx)
theorem ps_iushr (hK : pm_IH X d y Q K) (hE : ∀ ls st H, ¬ K [] ls st H) (hT : pm_okT y tab = true) (hR : pm_okT y rest = true) (he : pm_okE y (pm_hd rest) (pc, cut, .iushr, how, a, wi) = true) (h : pm_one X d Q K tab rest (.iushr) ls st H) : pm_RW X d y Q pc ls st H := by
  have h' : ∃ b a r, st = .int b :: .int a :: r ∧ K rest ls (.int ((a.toUInt32 >>> (b.toUInt32 &&& Int32.toUInt32 31)).toInt32) :: r) H := by
    simp only [pm_one] at h
    split at h
    · exact ⟨_, _, _, rfl, h⟩
    · exact h.elim
  obtain ⟨b, a, r, rfl, hx⟩ := h'
  have hd := pm_dc_of he
  exact pr_iushr hd.1 (pm_K hK hR hd.2 hx)
theorem ps_idiv (hK : pm_IH X d y Q K) (hE : ∀ ls st H, ¬ K [] ls st H) (hT : pm_okT y tab = true) (hR : pm_okT y rest = true) (he : pm_okE y (pm_hd rest) (pc, cut, .idiv, how, a, wi) = true) (h : pm_one X d Q K tab rest (.idiv) ls st H) : pm_RW X d y Q pc ls st H := by
  have h' : ∃ b a r, st = .int b :: .int a :: r ∧ ¬ b = 0 ∧ K rest ls (.int (a / b) :: r) H := by
    simp only [pm_one] at h
    split at h
    · exact ⟨_, _, _, rfl, h⟩
    · exact h.elim
  obtain ⟨b, a, r, rfl, hx⟩ := h'
  have hd := pm_dc_of he
  exact pr_idiv hd.1 hx.1 (pm_K hK hR hd.2 hx.2)
theorem ps_irem (hK : pm_IH X d y Q K) (hE : ∀ ls st H, ¬ K [] ls st H) (hT : pm_okT y tab = true) (hR : pm_okT y rest = true) (he : pm_okE y (pm_hd rest) (pc, cut, .irem, how, a, wi) = true) (h : pm_one X d Q K tab rest (.irem) ls st H) : pm_RW X d y Q pc ls st H := by
  have h' : ∃ b a r, st = .int b :: .int a :: r ∧ ¬ b = 0 ∧ K rest ls (.int (a - a / b * b) :: r) H := by
    simp only [pm_one] at h
    split at h
    · exact ⟨_, _, _, rfl, h⟩
    · exact h.elim
  obtain ⟨b, a, r, rfl, hx⟩ := h'
  have hd := pm_dc_of he
  exact pr_irem hd.1 hx.1 (pm_K hK hR hd.2 hx.2)
theorem ps_ladd (hK : pm_IH X d y Q K) (hE : ∀ ls st H, ¬ K [] ls st H) (hT : pm_okT y tab = true) (hR : pm_okT y rest = true) (he : pm_okE y (pm_hd rest) (pc, cut, .ladd, how, a, wi) = true) (h : pm_one X d Q K tab rest (.ladd) ls st H) : pm_RW X d y Q pc ls st H := by
  have h' : ∃ b a r, st = .long b :: .long a :: r ∧ K rest ls (.long (a + b) :: r) H := by
    simp only [pm_one] at h
    split at h
    · exact ⟨_, _, _, rfl, h⟩
    · exact h.elim
  obtain ⟨b, a, r, rfl, hx⟩ := h'
  have hd := pm_dc_of he
  exact pr_ladd hd.1 (pm_K hK hR hd.2 hx)
theorem ps_lsub (hK : pm_IH X d y Q K) (hE : ∀ ls st H, ¬ K [] ls st H) (hT : pm_okT y tab = true) (hR : pm_okT y rest = true) (he : pm_okE y (pm_hd rest) (pc, cut, .lsub, how, a, wi) = true) (h : pm_one X d Q K tab rest (.lsub) ls st H) : pm_RW X d y Q pc ls st H := by
  have h' : ∃ b a r, st = .long b :: .long a :: r ∧ K rest ls (.long (a - b) :: r) H := by
    simp only [pm_one] at h
    split at h
    · exact ⟨_, _, _, rfl, h⟩
    · exact h.elim
  obtain ⟨b, a, r, rfl, hx⟩ := h'
  have hd := pm_dc_of he
  exact pr_lsub hd.1 (pm_K hK hR hd.2 hx)
theorem ps_lmul (hK : pm_IH X d y Q K) (hE : ∀ ls st H, ¬ K [] ls st H) (hT : pm_okT y tab = true) (hR : pm_okT y rest = true) (he : pm_okE y (pm_hd rest) (pc, cut, .lmul, how, a, wi) = true) (h : pm_one X d Q K tab rest (.lmul) ls st H) : pm_RW X d y Q pc ls st H := by
  have h' : ∃ b a r, st = .long b :: .long a :: r ∧ K rest ls (.long (a * b) :: r) H := by
    simp only [pm_one] at h
    split at h
    · exact ⟨_, _, _, rfl, h⟩
    · exact h.elim
  obtain ⟨b, a, r, rfl, hx⟩ := h'
  have hd := pm_dc_of he
  exact pr_lmul hd.1 (pm_K hK hR hd.2 hx)
theorem ps_land (hK : pm_IH X d y Q K) (hE : ∀ ls st H, ¬ K [] ls st H) (hT : pm_okT y tab = true) (hR : pm_okT y rest = true) (he : pm_okE y (pm_hd rest) (pc, cut, .land, how, a, wi) = true) (h : pm_one X d Q K tab rest (.land) ls st H) : pm_RW X d y Q pc ls st H := by
  have h' : ∃ b a r, st = .long b :: .long a :: r ∧ K rest ls (.long (a &&& b) :: r) H := by
    simp only [pm_one] at h
    split at h
    · exact ⟨_, _, _, rfl, h⟩
    · exact h.elim
  obtain ⟨b, a, r, rfl, hx⟩ := h'
  have hd := pm_dc_of he
  exact pr_land hd.1 (pm_K hK hR hd.2 hx)
theorem ps_lor (hK : pm_IH X d y Q K) (hE : ∀ ls st H, ¬ K [] ls st H) (hT : pm_okT y tab = true) (hR : pm_okT y rest = true) (he : pm_okE y (pm_hd rest) (pc, cut, .lor, how, a, wi) = true) (h : pm_one X d Q K tab rest (.lor) ls st H) : pm_RW X d y Q pc ls st H := by
  have h' : ∃ b a r, st = .long b :: .long a :: r ∧ K rest ls (.long (a ||| b) :: r) H := by
    simp only [pm_one] at h
    split at h
    · exact ⟨_, _, _, rfl, h⟩
    · exact h.elim
  obtain ⟨b, a, r, rfl, hx⟩ := h'
  have hd := pm_dc_of he
  exact pr_lor hd.1 (pm_K hK hR hd.2 hx)
theorem ps_ldiv (hK : pm_IH X d y Q K) (hE : ∀ ls st H, ¬ K [] ls st H) (hT : pm_okT y tab = true) (hR : pm_okT y rest = true) (he : pm_okE y (pm_hd rest) (pc, cut, .ldiv, how, a, wi) = true) (h : pm_one X d Q K tab rest (.ldiv) ls st H) : pm_RW X d y Q pc ls st H := by
  have h' : ∃ b a r, st = .long b :: .long a :: r ∧ ¬ b = 0 ∧ K rest ls (.long (a / b) :: r) H := by
    simp only [pm_one] at h
    split at h
    · exact ⟨_, _, _, rfl, h⟩
    · exact h.elim
  obtain ⟨b, a, r, rfl, hx⟩ := h'
  have hd := pm_dc_of he
  exact pr_ldiv hd.1 hx.1 (pm_K hK hR hd.2 hx.2)
theorem ps_lrem (hK : pm_IH X d y Q K) (hE : ∀ ls st H, ¬ K [] ls st H) (hT : pm_okT y tab = true) (hR : pm_okT y rest = true) (he : pm_okE y (pm_hd rest) (pc, cut, .lrem, how, a, wi) = true) (h : pm_one X d Q K tab rest (.lrem) ls st H) : pm_RW X d y Q pc ls st H := by
  have h' : ∃ b a r, st = .long b :: .long a :: r ∧ ¬ b = 0 ∧ K rest ls (.long (a - a / b * b) :: r) H := by
    simp only [pm_one] at h
    split at h
    · exact ⟨_, _, _, rfl, h⟩
    · exact h.elim
  obtain ⟨b, a, r, rfl, hx⟩ := h'
  have hd := pm_dc_of he
  exact pr_lrem hd.1 hx.1 (pm_K hK hR hd.2 hx.2)
theorem pr_lcmp {r : List Value} {a b : Int64} (hd : decode (pm_by y) pc = .ok (.lcmp, 1)) (k : pm_RW X d y Q (pc + 1) ls (.int (lg_cmp a b) :: r) H) : pm_RW X d y Q pc ls (.long b :: .long a :: r) H :=
  fun p l e R s m args below meth c cells slots Z D tc ad A C Hp locs lsa hP hD hS hl => W.lcmp C.1 C.2.1 hd (k p l e R s m args below meth c cells slots Z D tc ad A C Hp locs lsa hP hD hS hl)
theorem ps_lshl (hK : pm_IH X d y Q K) (hE : ∀ ls st H, ¬ K [] ls st H) (hT : pm_okT y tab = true) (hR : pm_okT y rest = true) (he : pm_okE y (pm_hd rest) (pc, cut, .lshl, how, a, wi) = true) (h : pm_one X d Q K tab rest (.lshl) ls st H) : pm_RW X d y Q pc ls st H := by
  have h' : ∃ b a r, st = .int b :: .long a :: r ∧ K rest ls (.long (a <<< (b.toInt64 &&& 63)) :: r) H := by
    simp only [pm_one] at h
    split at h
    · exact ⟨_, _, _, rfl, h⟩
    · exact h.elim
  obtain ⟨b, a, r, rfl, hx⟩ := h'
  have hd := pm_dc_of he
  exact pr_lshl hd.1 (pm_K hK hR hd.2 hx)
theorem ps_lcmp (hK : pm_IH X d y Q K) (hE : ∀ ls st H, ¬ K [] ls st H) (hT : pm_okT y tab = true) (hR : pm_okT y rest = true) (he : pm_okE y (pm_hd rest) (pc, cut, .lcmp, how, a, wi) = true) (h : pm_one X d Q K tab rest (.lcmp) ls st H) : pm_RW X d y Q pc ls st H := by
  have h' : ∃ b a r, st = .long b :: .long a :: r ∧ K rest ls (.int (lg_cmp a b) :: r) H := by
    simp only [pm_one] at h
    split at h
    · exact ⟨_, _, _, rfl, h⟩
    · exact h.elim
  obtain ⟨b, a, r, rfl, hx⟩ := h'
  have hd := pm_dc_of he
  exact pr_lcmp hd.1 (pm_K hK hR hd.2 hx)
theorem ps_ineg (hK : pm_IH X d y Q K) (hE : ∀ ls st H, ¬ K [] ls st H) (hT : pm_okT y tab = true) (hR : pm_okT y rest = true) (he : pm_okE y (pm_hd rest) (pc, cut, .ineg, how, a, wi) = true) (h : pm_one X d Q K tab rest (.ineg) ls st H) : pm_RW X d y Q pc ls st H := by
  have h' : ∃ a r, st = .int a :: r ∧ K rest ls (.int (-a) :: r) H := by
    simp only [pm_one] at h
    split at h
    · exact ⟨_, _, rfl, h⟩
    · exact h.elim
  obtain ⟨a, r, rfl, hx⟩ := h'
  have hd := pm_dc_of he
  exact pr_ineg hd.1 (pm_K hK hR hd.2 hx)
theorem ps_i2l (hK : pm_IH X d y Q K) (hE : ∀ ls st H, ¬ K [] ls st H) (hT : pm_okT y tab = true) (hR : pm_okT y rest = true) (he : pm_okE y (pm_hd rest) (pc, cut, .i2l, how, a, wi) = true) (h : pm_one X d Q K tab rest (.i2l) ls st H) : pm_RW X d y Q pc ls st H := by
  have h' : ∃ a r, st = .int a :: r ∧ K rest ls (.long a.toInt64 :: r) H := by
    simp only [pm_one] at h
    split at h
    · exact ⟨_, _, rfl, h⟩
    · exact h.elim
  obtain ⟨a, r, rfl, hx⟩ := h'
  have hd := pm_dc_of he
  exact pr_i2l hd.1 (pm_K hK hR hd.2 hx)
theorem ps_l2i (hK : pm_IH X d y Q K) (hE : ∀ ls st H, ¬ K [] ls st H) (hT : pm_okT y tab = true) (hR : pm_okT y rest = true) (he : pm_okE y (pm_hd rest) (pc, cut, .l2i, how, a, wi) = true) (h : pm_one X d Q K tab rest (.l2i) ls st H) : pm_RW X d y Q pc ls st H := by
  have h' : ∃ a r, st = .long a :: r ∧ K rest ls (.int a.toInt32 :: r) H := by
    simp only [pm_one] at h
    split at h
    · exact ⟨_, _, rfl, h⟩
    · exact h.elim
  obtain ⟨a, r, rfl, hx⟩ := h'
  have hd := pm_dc_of he
  exact pr_l2i hd.1 (pm_K hK hR hd.2 hx)
theorem ps_i2b (hK : pm_IH X d y Q K) (hE : ∀ ls st H, ¬ K [] ls st H) (hT : pm_okT y tab = true) (hR : pm_okT y rest = true) (he : pm_okE y (pm_hd rest) (pc, cut, .i2b, how, a, wi) = true) (h : pm_one X d Q K tab rest (.i2b) ls st H) : pm_RW X d y Q pc ls st H := by
  have h' : ∃ a r, st = .int a :: r ∧ K rest ls (.int a.toInt8.toInt32 :: r) H := by
    simp only [pm_one] at h
    split at h
    · exact ⟨_, _, rfl, h⟩
    · exact h.elim
  obtain ⟨a, r, rfl, hx⟩ := h'
  have hd := pm_dc_of he
  exact pr_i2b hd.1 (pm_K hK hR hd.2 hx)
theorem ps_i2s (hK : pm_IH X d y Q K) (hE : ∀ ls st H, ¬ K [] ls st H) (hT : pm_okT y tab = true) (hR : pm_okT y rest = true) (he : pm_okE y (pm_hd rest) (pc, cut, .i2s, how, a, wi) = true) (h : pm_one X d Q K tab rest (.i2s) ls st H) : pm_RW X d y Q pc ls st H := by
  have h' : ∃ a r, st = .int a :: r ∧ K rest ls (.int a.toInt16.toInt32 :: r) H := by
    simp only [pm_one] at h
    split at h
    · exact ⟨_, _, rfl, h⟩
    · exact h.elim
  obtain ⟨a, r, rfl, hx⟩ := h'
  have hd := pm_dc_of he
  exact pr_i2s hd.1 (pm_K hK hR hd.2 hx)
theorem ps_pop (hK : pm_IH X d y Q K) (hE : ∀ ls st H, ¬ K [] ls st H) (hT : pm_okT y tab = true) (hR : pm_okT y rest = true) (he : pm_okE y (pm_hd rest) (pc, cut, .pop, how, a, wi) = true) (h : pm_one X d Q K tab rest (.pop) ls st H) : pm_RW X d y Q pc ls st H := by
  have h' : ∃ a r, st = .int a :: r ∧ K rest ls (r) H := by
    simp only [pm_one] at h
    split at h
    · exact ⟨_, _, rfl, h⟩
    · exact h.elim
  obtain ⟨a, r, rfl, hx⟩ := h'
  have hd := pm_dc_of he
  exact pr_pop hd.1 rfl (pm_K hK hR hd.2 hx)
theorem ps_dup (hK : pm_IH X d y Q K) (hE : ∀ ls st H, ¬ K [] ls st H) (hT : pm_okT y tab = true) (hR : pm_okT y rest = true) (he : pm_okE y (pm_hd rest) (pc, cut, .dup, how, a, wi) = true) (h : pm_one X d Q K tab rest (.dup) ls st H) : pm_RW X d y Q pc ls st H := by
  have hd := pm_dc_of he
  simp only [pm_one] at h
  split at h
  · exact pr_dup hd.1 rfl (pm_K hK hR hd.2 h)
  · exact pr_dup hd.1 rfl (pm_K hK hR hd.2 h)
  · exact h.elim
theorem ps_dup2 (hK : pm_IH X d y Q K) (hE : ∀ ls st H, ¬ K [] ls st H) (hT : pm_okT y tab = true) (hR : pm_okT y rest = true) (he : pm_okE y (pm_hd rest) (pc, cut, .dup2, how, a, wi) = true) (h : pm_one X d Q K tab rest (.dup2) ls st H) : pm_RW X d y Q pc ls st H := by
  have hd := pm_dc_of he
  simp only [pm_one] at h
  split at h
  · exact pr_dup2 hd.1 rfl rfl (pm_K hK hR hd.2 h)
  · exact h.elim
theorem ps_if_icmp {c : ClassFile.Cond} {t : Int} (hK : pm_IH X d y Q K) (hE : ∀ ls st H, ¬ K [] ls st H) (hT : pm_okT y tab = true) (hR : pm_okT y rest = true) (he : pm_okE y (pm_hd rest) (pc, cut, .if_icmp c t, how, a, wi) = true) (h : pm_one X d Q K tab rest (.if_icmp c t) ls st H) : pm_RW X d y Q pc ls st H := by
  have h' : ∃ b x r, st = .int b :: .int x :: r ∧ pm_cmp c x b (K (pm_jmp t.toNat tab) ls r H) (K rest ls r H) := by
    simp only [pm_one] at h
    split at h
    · exact ⟨_, _, _, rfl, h⟩
    · exact h.elim
  obtain ⟨b, x, r, rfl, hx⟩ := h'
  simp only [pm_okE, Bool.and_eq_true, decide_eq_true_eq] at he
  have hd := pm_dc_of he.2
  have ht : (pc : Int) + (t - pc) = (t.toNat : Int) := by have := he.1; omega
  cases c with
  | eq => exact pr_icmp_eq hd.1 ht (fun q => pm_J hK hE hT _ (hx.1 q)) (fun q => pm_K hK hR hd.2 (hx.2 q))
  | ne => exact pr_icmp_ne hd.1 ht (fun q => pm_J hK hE hT _ (hx.1 q)) (fun q => pm_K hK hR hd.2 (hx.2 q))
  | lt => exact pr_icmp_lt hd.1 ht (fun q => pm_J hK hE hT _ (hx.1 q)) (fun q => pm_K hK hR hd.2 (hx.2 q))
  | ge => exact pr_icmp_ge hd.1 ht (fun q => pm_J hK hE hT _ (hx.1 q)) (fun q => pm_K hK hR hd.2 (hx.2 q))
  | gt => exact pr_icmp_gt hd.1 ht (fun q => pm_J hK hE hT _ (hx.1 q)) (fun q => pm_K hK hR hd.2 (hx.2 q))
  | le => exact pr_icmp_le hd.1 ht (fun q => pm_J hK hE hT _ (hx.1 q)) (fun q => pm_K hK hR hd.2 (hx.2 q))
theorem ps_ifCond {c : ClassFile.Cond} {t : Int} (hK : pm_IH X d y Q K) (hE : ∀ ls st H, ¬ K [] ls st H) (hT : pm_okT y tab = true) (hR : pm_okT y rest = true) (he : pm_okE y (pm_hd rest) (pc, cut, .ifCond c t, how, a, wi) = true) (h : pm_one X d Q K tab rest (.ifCond c t) ls st H) : pm_RW X d y Q pc ls st H := by
  have h' : ∃ x r, st = .int x :: r ∧ pm_cmp c x 0 (K (pm_jmp t.toNat tab) ls r H) (K rest ls r H) := by
    simp only [pm_one] at h
    split at h
    · exact ⟨_, _, rfl, h⟩
    · exact h.elim
  obtain ⟨x, r, rfl, hx⟩ := h'
  simp only [pm_okE, Bool.and_eq_true, decide_eq_true_eq] at he
  have hd := pm_dc_of he.2
  have ht : (pc : Int) + (t - pc) = (t.toNat : Int) := by have := he.1; omega
  cases c with
  | eq => exact pr_if_eq hd.1 ht (fun q => pm_J hK hE hT _ (hx.1 q)) (fun q => pm_K hK hR hd.2 (hx.2 q))
  | ne => exact pr_if_ne hd.1 ht (fun q => pm_J hK hE hT _ (hx.1 q)) (fun q => pm_K hK hR hd.2 (hx.2 q))
  | lt => exact pr_if_lt hd.1 ht (fun q => pm_J hK hE hT _ (hx.1 q)) (fun q => pm_K hK hR hd.2 (hx.2 q))
  | ge => exact pr_if_ge hd.1 ht (fun q => pm_J hK hE hT _ (hx.1 q)) (fun q => pm_K hK hR hd.2 (hx.2 q))
  | gt => exact pr_if_gt hd.1 ht (fun q => pm_J hK hE hT _ (hx.1 q)) (fun q => pm_K hK hR hd.2 (hx.2 q))
  | le => exact pr_if_le hd.1 ht (fun q => pm_J hK hE hT _ (hx.1 q)) (fun q => pm_K hK hR hd.2 (hx.2 q))
theorem ps_goto {t : Int} (hK : pm_IH X d y Q K) (hE : ∀ ls st H, ¬ K [] ls st H) (hT : pm_okT y tab = true) (hR : pm_okT y rest = true) (he : pm_okE y (pm_hd rest) (pc, cut, .goto t, how, a, wi) = true) (h : pm_one X d Q K tab rest (.goto t) ls st H) : pm_RW X d y Q pc ls st H := by
  simp only [pm_okE, Bool.and_eq_true, decide_eq_true_eq] at he
  have ht : (pc : Int) + (t - pc) = (t.toNat : Int) := by have := he.1; omega
  exact pr_goto he.2 ht (pm_J hK hE hT _ h)
end
