/-! soundness of the little machine: an instruction, a row -/
theorem pm_mv_cat (ad : Nat → Nat) (v : Value) : (pm_mv ad v).category = v.category := by cases v <;> rfl
theorem pm_get_mem : ∀ {ls : pmL} {k : Nat} {v : Value}, pm_get ls k = some v → (k, v) ∈ ls
  | [], k, v, h => by simp [pm_get] at h
  | q :: r, k, v, h => by
    unfold pm_get at h
    cases hb : Nat.beq q.1 k with
    | true =>
      rw [hb] at h
      have e1 : q.1 = k := Nat.eq_of_beq_eq_true hb
      have e2 : q.2 = v := Option.some.inj h
      rw [← e1, ← e2]
      exact List.mem_cons_self
    | false =>
      rw [hb] at h
      exact List.mem_cons_of_mem _ (pm_get_mem h)
theorem pm_lv_get {lsa : Array Slot} {n : Nat} {ls : pmL} {k : Nat} {v : Value} (ad : Nat → Nat) (hl : lv_has lsa n (ls.map (pm_mq ad))) (h : pm_get ls k = some v) : lsa[k]? = some (.val (pm_mv ad v)) := hl.2.2 (k, pm_mv ad v) (List.mem_map.mpr ⟨(k, v), pm_get_mem h, rfl⟩)
theorem pm_s1_map (ad : Nat → Nat) (ls : pmL) (k : Nat) (v : Value) : (k, pm_mv ad v) :: (ls.map (pm_mq ad)).filter (fun q => !(q.1 == k) && !(q.1 + 1 == k && q.2.category == 2)) = (pm_s1 ls k v).map (pm_mq ad) := by
  have e : (fun q : Nat × Value => !(q.1 == k) && !(q.1 + 1 == k && q.2.category == 2)) ∘ pm_mq ad = fun q => !(q.1 == k) && !(q.1 + 1 == k && q.2.category == 2) := funext fun q => by simp [pm_mq, pm_mv_cat]
  rw [List.filter_map, e]
  rfl
theorem pm_s2_map (ad : Nat → Nat) (ls : pmL) (k : Nat) (v : Value) : (k, pm_mv ad v) :: (ls.map (pm_mq ad)).filter (fun q => !(q.1 == k) && (!(q.1 == k + 1) && !(q.1 + 1 == k && q.2.category == 2))) = (pm_s2 ls k v).map (pm_mq ad) := by
  have e : (fun q : Nat × Value => !(q.1 == k) && (!(q.1 == k + 1) && !(q.1 + 1 == k && q.2.category == 2))) ∘ pm_mq ad = fun q => !(q.1 == k) && (!(q.1 == k + 1) && !(q.1 + 1 == k && q.2.category == 2)) := funext fun q => by simp [pm_mq, pm_mv_cat]
  rw [List.filter_map, e]
  rfl
theorem pm_pick_map (ad : Nat → Nat) (ls : pmL) : ∀ ks : List Nat, ∀ q ∈ pm_pick ls ks, q ∈ ls
  | [], q, h => by simp [pm_pick] at h
  | k :: r, q, h => by
    unfold pm_pick at h
    split at h
    · rcases List.mem_cons.mp h with h | h
      · rw [h]; exact pm_get_mem (by assumption)
      · exact pm_pick_map ad ls r q h
    · exact pm_pick_map ad ls r q h
section
variable {X : Option (Nat × (Nat → Int32))} {d y : Nat} {Q : pmQ} {pc : Nat} {ls : pmL} {r : List Value} {H : pmT}
/-- fewer locals -/
theorem pr_pick {ks : List Nat} {st : List Value} (k : pm_RW X d y Q pc (pm_pick ls ks) st H) : pm_RW X d y Q pc ls st H :=
  fun p l e R s m args below meth c cells slots Z D tc ad A C Hp locs lsa hP hD hS hl => k p l e R s m args below meth c cells slots Z D tc ad A C Hp locs lsa hP hD hS ⟨hl.1, hl.2.1, fun q hq => by
    obtain ⟨q0, h0, h1⟩ := List.mem_map.mp hq
    exact hl.2.2 q (List.mem_map.mpr ⟨q0, pm_pick_map ad ls ks q0 h0, h1⟩)⟩
theorem pr_iconst {n : Int} {v : Int32} (hd : decode (pm_by y) pc = .ok (.iconst n, 1)) (hv : Int32.ofInt n = v) (k : pm_RW X d y Q (pc + 1) ls (.int v :: r) H) : pm_RW X d y Q pc ls (r) H :=
  fun p l e R s m args below meth c cells slots Z D tc ad A C Hp locs lsa hP hD hS hl => lv_iconst C.1 C.2.1 hd hv (k p l e R s m args below meth c cells slots Z D tc ad A C Hp locs lsa hP hD hS hl)
theorem pr_bipush {n : Int} {v : Int32} (hd : decode (pm_by y) pc = .ok (.bipush n, 2)) (hv : (Int8.ofInt n).toInt32 = v) (k : pm_RW X d y Q (pc + 2) ls (.int v :: r) H) : pm_RW X d y Q pc ls (r) H :=
  fun p l e R s m args below meth c cells slots Z D tc ad A C Hp locs lsa hP hD hS hl => lv_bipush C.1 C.2.1 hd hv (k p l e R s m args below meth c cells slots Z D tc ad A C Hp locs lsa hP hD hS hl)
theorem pr_sipush {n : Int} {v : Int32} (hd : decode (pm_by y) pc = .ok (.sipush n, 3)) (hv : (Int16.ofInt n).toInt32 = v) (k : pm_RW X d y Q (pc + 3) ls (.int v :: r) H) : pm_RW X d y Q pc ls (r) H :=
  fun p l e R s m args below meth c cells slots Z D tc ad A C Hp locs lsa hP hD hS hl => lv_sipush C.1 C.2.1 hd hv (k p l e R s m args below meth c cells slots Z D tc ad A C Hp locs lsa hP hD hS hl)
theorem pr_lconst {n : Fin 2} {v : Int64} (hd : decode (pm_by y) pc = .ok (.lconst n, 1)) (hv : Int64.ofNat (n : Nat) = v) (k : pm_RW X d y Q (pc + 1) ls (.long v :: r) H) : pm_RW X d y Q pc ls (r) H :=
  fun p l e R s m args below meth c cells slots Z D tc ad A C Hp locs lsa hP hD hS hl => lv_lconst C.1 C.2.1 hd hv (k p l e R s m args below meth c cells slots Z D tc ad A C Hp locs lsa hP hD hS hl)
theorem pr_ldc {i : Nat} {v : Int32} (hd : decode (pm_by y) pc = .ok (.ldc i, 2)) (hw : Jvm.Cond.constant (pm_nm y).cls i v ∈ pm_tbl) (k : pm_RW X d y Q (pc + 2) ls (.int v :: r) H) : pm_RW X d y Q pc ls r H :=
  fun p l e R s m args below meth c cells slots Z D tc ad A C Hp locs lsa hP hD hS hl => lv_ldc C.1 C.2.1 C.2.2.2.1 (C.2.2.2.2.1.1 _ hw) hd (k p l e R s m args below meth c cells slots Z D tc ad A C Hp locs lsa hP hD hS hl)
theorem pr_ldcw {i : Nat} {v : Int32} (hd : decode (pm_by y) pc = .ok (.ldc_w i, 3)) (hw : Jvm.Cond.constant (pm_nm y).cls i v ∈ pm_tbl) (k : pm_RW X d y Q (pc + 3) ls (.int v :: r) H) : pm_RW X d y Q pc ls r H :=
  fun p l e R s m args below meth c cells slots Z D tc ad A C Hp locs lsa hP hD hS hl => lv_ldcw C.1 C.2.1 C.2.2.2.1 (C.2.2.2.2.1.1 _ hw) hd (k p l e R s m args below meth c cells slots Z D tc ad A C Hp locs lsa hP hD hS hl)
theorem pr_ldc2 {i : Nat} {v : Int64} (hd : decode (pm_by y) pc = .ok (.ldc2_w i, 3)) (hw : Jvm.Cond.constantLong (pm_nm y).cls i v ∈ pm_tbl) (k : pm_RW X d y Q (pc + 3) ls (.long v :: r) H) : pm_RW X d y Q pc ls r H :=
  fun p l e R s m args below meth c cells slots Z D tc ad A C Hp locs lsa hP hD hS hl => lv_ldc2 C.1 C.2.1 C.2.2.2.1 (C.2.2.2.2.1.1 _ hw) hd (k p l e R s m args below meth c cells slots Z D tc ad A C Hp locs lsa hP hD hS hl)
theorem pr_iload_n {j : Fin 4} {i : Nat} {x : Int32} (hd : decode (pm_by y) pc = .ok (.iload_n j, 1)) (hi : (j : Nat) = i) (hg : pm_get ls i = some (.int x)) (k : pm_RW X d y Q (pc + 1) ls (.int x :: r) H) : pm_RW X d y Q pc ls (r) H :=
  fun p l e R s m args below meth c cells slots Z D tc ad A C Hp locs lsa hP hD hS hl => lv_iload_n C.1 C.2.1 hd hi (pm_lv_get ad hl hg) (k p l e R s m args below meth c cells slots Z D tc ad A C Hp locs lsa hP hD hS hl)
theorem pr_iload {i : Nat} {x : Int32} (hd : decode (pm_by y) pc = .ok (.iload i, 2)) (hg : pm_get ls i = some (.int x)) (k : pm_RW X d y Q (pc + 2) ls (.int x :: r) H) : pm_RW X d y Q pc ls (r) H :=
  fun p l e R s m args below meth c cells slots Z D tc ad A C Hp locs lsa hP hD hS hl => lv_iload C.1 C.2.1 hd (pm_lv_get ad hl hg) (k p l e R s m args below meth c cells slots Z D tc ad A C Hp locs lsa hP hD hS hl)
theorem pr_istore_n {j : Fin 4} {i : Nat} {x : Int32} (hd : decode (pm_by y) pc = .ok (.istore_n j, 1)) (hi : (j : Nat) = i) (hn : i < pm_ml y) (k : pm_RW X d y Q (pc + 1) (pm_s1 ls i (.int x)) r H) : pm_RW X d y Q pc ls (.int x :: r) H :=
  fun p l e R s m args below meth c cells slots Z D tc ad A C Hp locs lsa hP hD hS hl => lv_istore_n C.1 C.2.1 hd hi hl hn (pm_s1_map ad ls i (.int x)) (fun lsa hl => (k p l e R s m args below meth c cells slots Z D tc ad A C Hp locs lsa hP hD hS hl))
theorem pr_istore {i : Nat} {x : Int32} (hd : decode (pm_by y) pc = .ok (.istore i, 2)) (hn : i < pm_ml y) (k : pm_RW X d y Q (pc + 2) (pm_s1 ls i (.int x)) r H) : pm_RW X d y Q pc ls (.int x :: r) H :=
  fun p l e R s m args below meth c cells slots Z D tc ad A C Hp locs lsa hP hD hS hl => lv_istore C.1 C.2.1 hd hl hn (pm_s1_map ad ls i (.int x)) (fun lsa hl => (k p l e R s m args below meth c cells slots Z D tc ad A C Hp locs lsa hP hD hS hl))
theorem pr_lload_n {j : Fin 4} {i : Nat} {x : Int64} (hd : decode (pm_by y) pc = .ok (.lload_n j, 1)) (hi : (j : Nat) = i) (hg : pm_get ls i = some (.long x)) (k : pm_RW X d y Q (pc + 1) ls (.long x :: r) H) : pm_RW X d y Q pc ls (r) H :=
  fun p l e R s m args below meth c cells slots Z D tc ad A C Hp locs lsa hP hD hS hl => lv_lload_n C.1 C.2.1 hd hi (pm_lv_get ad hl hg) (k p l e R s m args below meth c cells slots Z D tc ad A C Hp locs lsa hP hD hS hl)
theorem pr_lload {i : Nat} {x : Int64} (hd : decode (pm_by y) pc = .ok (.lload i, 2)) (hg : pm_get ls i = some (.long x)) (k : pm_RW X d y Q (pc + 2) ls (.long x :: r) H) : pm_RW X d y Q pc ls (r) H :=
  fun p l e R s m args below meth c cells slots Z D tc ad A C Hp locs lsa hP hD hS hl => lv_lload C.1 C.2.1 hd (pm_lv_get ad hl hg) (k p l e R s m args below meth c cells slots Z D tc ad A C Hp locs lsa hP hD hS hl)
theorem pr_lstore_n {j : Fin 4} {i : Nat} {x : Int64} (hd : decode (pm_by y) pc = .ok (.lstore_n j, 1)) (hi : (j : Nat) = i) (hn : i + 1 < pm_ml y) (k : pm_RW X d y Q (pc + 1) (pm_s2 ls i (.long x)) r H) : pm_RW X d y Q pc ls (.long x :: r) H :=
  fun p l e R s m args below meth c cells slots Z D tc ad A C Hp locs lsa hP hD hS hl => lv_lstore_n C.1 C.2.1 hd hi hl hn (pm_s2_map ad ls i (.long x)) (fun lsa hl => (k p l e R s m args below meth c cells slots Z D tc ad A C Hp locs lsa hP hD hS hl))
theorem pr_lstore {i : Nat} {x : Int64} (hd : decode (pm_by y) pc = .ok (.lstore i, 2)) (hn : i + 1 < pm_ml y) (k : pm_RW X d y Q (pc + 2) (pm_s2 ls i (.long x)) r H) : pm_RW X d y Q pc ls (.long x :: r) H :=
  fun p l e R s m args below meth c cells slots Z D tc ad A C Hp locs lsa hP hD hS hl => lv_lstore C.1 C.2.1 hd hl hn (pm_s2_map ad ls i (.long x)) (fun lsa hl => (k p l e R s m args below meth c cells slots Z D tc ad A C Hp locs lsa hP hD hS hl))
theorem pr_aload_n {j : Fin 4} {i : Nat} {x : Nat} (hd : decode (pm_by y) pc = .ok (.aload_n j, 1)) (hi : (j : Nat) = i) (hg : pm_get ls i = some (.ref x)) (k : pm_RW X d y Q (pc + 1) ls (.ref x :: r) H) : pm_RW X d y Q pc ls (r) H :=
  fun p l e R s m args below meth c cells slots Z D tc ad A C Hp locs lsa hP hD hS hl => lv_aload_n C.1 C.2.1 hd hi (pm_lv_get ad hl hg) (k p l e R s m args below meth c cells slots Z D tc ad A C Hp locs lsa hP hD hS hl)
theorem pr_aload {i : Nat} {x : Nat} (hd : decode (pm_by y) pc = .ok (.aload i, 2)) (hg : pm_get ls i = some (.ref x)) (k : pm_RW X d y Q (pc + 2) ls (.ref x :: r) H) : pm_RW X d y Q pc ls (r) H :=
  fun p l e R s m args below meth c cells slots Z D tc ad A C Hp locs lsa hP hD hS hl => lv_aload C.1 C.2.1 hd (pm_lv_get ad hl hg) (k p l e R s m args below meth c cells slots Z D tc ad A C Hp locs lsa hP hD hS hl)
theorem pr_astore_n {j : Fin 4} {i : Nat} {x : Nat} (hd : decode (pm_by y) pc = .ok (.astore_n j, 1)) (hi : (j : Nat) = i) (hn : i < pm_ml y) (k : pm_RW X d y Q (pc + 1) (pm_s1 ls i (.ref x)) r H) : pm_RW X d y Q pc ls (.ref x :: r) H :=
  fun p l e R s m args below meth c cells slots Z D tc ad A C Hp locs lsa hP hD hS hl => lv_astore_n C.1 C.2.1 hd hi hl hn (pm_s1_map ad ls i (.ref x)) (fun lsa hl => (k p l e R s m args below meth c cells slots Z D tc ad A C Hp locs lsa hP hD hS hl))
theorem pr_astore {i : Nat} {x : Nat} (hd : decode (pm_by y) pc = .ok (.astore i, 2)) (hn : i < pm_ml y) (k : pm_RW X d y Q (pc + 2) (pm_s1 ls i (.ref x)) r H) : pm_RW X d y Q pc ls (.ref x :: r) H :=
  fun p l e R s m args below meth c cells slots Z D tc ad A C Hp locs lsa hP hD hS hl => lv_astore C.1 C.2.1 hd hl hn (pm_s1_map ad ls i (.ref x)) (fun lsa hl => (k p l e R s m args below meth c cells slots Z D tc ad A C Hp locs lsa hP hD hS hl))
theorem pr_iinc {i : Nat} {n : Int} {x : Int32} (hd : decode (pm_by y) pc = .ok (.iinc i n, 3)) (hg : pm_get ls i = some (.int x)) (hn : i < pm_ml y) (k : pm_RW X d y Q (pc + 3) (pm_s1 ls i (.int (x + Int32.ofInt n))) r H) : pm_RW X d y Q pc ls r H := by
  intro p l e R s m args below meth c cells slots Z D tc ad A C Hp locs lsa hP hD hS hl
  obtain ⟨j, hj⟩ := List.getElem?_of_mem (List.mem_map_of_mem (f := pm_mq ad) (pm_get_mem hg))
  exact lv_iinc C.1 C.2.1 hd hl hj rfl hn (pm_s1_map ad ls i (.int (x + Int32.ofInt n))) (fun lsa hl => (k p l e R s m args below meth c cells slots Z D tc ad A C Hp locs lsa hP hD hS hl))
theorem pr_iadd {a b : Int32} (hd : decode (pm_by y) pc = .ok (.iadd, 1)) (k : pm_RW X d y Q (pc + 1) ls (.int (a + b) :: r) H) : pm_RW X d y Q pc ls (.int b :: .int a :: r) H :=
  fun p l e R s m args below meth c cells slots Z D tc ad A C Hp locs lsa hP hD hS hl => lv_iadd C.1 C.2.1 hd (k p l e R s m args below meth c cells slots Z D tc ad A C Hp locs lsa hP hD hS hl)
theorem pr_isub {a b : Int32} (hd : decode (pm_by y) pc = .ok (.isub, 1)) (k : pm_RW X d y Q (pc + 1) ls (.int (a - b) :: r) H) : pm_RW X d y Q pc ls (.int b :: .int a :: r) H :=
  fun p l e R s m args below meth c cells slots Z D tc ad A C Hp locs lsa hP hD hS hl => lv_isub C.1 C.2.1 hd (k p l e R s m args below meth c cells slots Z D tc ad A C Hp locs lsa hP hD hS hl)
theorem pr_imul {a b : Int32} (hd : decode (pm_by y) pc = .ok (.imul, 1)) (k : pm_RW X d y Q (pc + 1) ls (.int (a * b) :: r) H) : pm_RW X d y Q pc ls (.int b :: .int a :: r) H :=
  fun p l e R s m args below meth c cells slots Z D tc ad A C Hp locs lsa hP hD hS hl => lv_imul C.1 C.2.1 hd (k p l e R s m args below meth c cells slots Z D tc ad A C Hp locs lsa hP hD hS hl)
theorem pr_iand {a b : Int32} (hd : decode (pm_by y) pc = .ok (.iand, 1)) (k : pm_RW X d y Q (pc + 1) ls (.int (a &&& b) :: r) H) : pm_RW X d y Q pc ls (.int b :: .int a :: r) H :=
  fun p l e R s m args below meth c cells slots Z D tc ad A C Hp locs lsa hP hD hS hl => lv_iand C.1 C.2.1 hd (k p l e R s m args below meth c cells slots Z D tc ad A C Hp locs lsa hP hD hS hl)
theorem pr_ior {a b : Int32} (hd : decode (pm_by y) pc = .ok (.ior, 1)) (k : pm_RW X d y Q (pc + 1) ls (.int (a ||| b) :: r) H) : pm_RW X d y Q pc ls (.int b :: .int a :: r) H :=
  fun p l e R s m args below meth c cells slots Z D tc ad A C Hp locs lsa hP hD hS hl => lv_ior C.1 C.2.1 hd (k p l e R s m args below meth c cells slots Z D tc ad A C Hp locs lsa hP hD hS hl)
theorem pr_ixor {a b : Int32} (hd : decode (pm_by y) pc = .ok (.ixor, 1)) (k : pm_RW X d y Q (pc + 1) ls (.int (a ^^^ b) :: r) H) : pm_RW X d y Q pc ls (.int b :: .int a :: r) H :=
  fun p l e R s m args below meth c cells slots Z D tc ad A C Hp locs lsa hP hD hS hl => lv_ixor C.1 C.2.1 hd (k p l e R s m args below meth c cells slots Z D tc ad A C Hp locs lsa hP hD hS hl)
theorem pr_ishl {a b : Int32} (hd : decode (pm_by y) pc = .ok (.ishl, 1)) (k : pm_RW X d y Q (pc + 1) ls (.int (a <<< (b &&& 31)) :: r) H) : pm_RW X d y Q pc ls (.int b :: .int a :: r) H :=
  fun p l e R s m args below meth c cells slots Z D tc ad A C Hp locs lsa hP hD hS hl => lv_ishl C.1 C.2.1 hd (k p l e R s m args below meth c cells slots Z D tc ad A C Hp locs lsa hP hD hS hl)
theorem pr_ishr {a b : Int32} (hd : decode (pm_by y) pc = .ok (.ishr, 1)) (k : pm_RW X d y Q (pc + 1) ls (.int (a >>> (b &&& 31)) :: r) H) : pm_RW X d y Q pc ls (.int b :: .int a :: r) H :=
  fun p l e R s m args below meth c cells slots Z D tc ad A C Hp locs lsa hP hD hS hl => lv_ishr C.1 C.2.1 hd (k p l e R s m args below meth c cells slots Z D tc ad A C Hp locs lsa hP hD hS hl)
theorem pr_idiv {a b : Int32} (hd : decode (pm_by y) pc = .ok (.idiv, 1)) (hb : ¬ b = 0) (k : pm_RW X d y Q (pc + 1) ls (.int (a / b) :: r) H) : pm_RW X d y Q pc ls (.int b :: .int a :: r) H :=
  fun p l e R s m args below meth c cells slots Z D tc ad A C Hp locs lsa hP hD hS hl => lv_idiv C.1 C.2.1 hd hb (k p l e R s m args below meth c cells slots Z D tc ad A C Hp locs lsa hP hD hS hl)
theorem pr_irem {a b : Int32} (hd : decode (pm_by y) pc = .ok (.irem, 1)) (hb : ¬ b = 0) (k : pm_RW X d y Q (pc + 1) ls (.int (a - a / b * b) :: r) H) : pm_RW X d y Q pc ls (.int b :: .int a :: r) H :=
  fun p l e R s m args below meth c cells slots Z D tc ad A C Hp locs lsa hP hD hS hl => lv_irem C.1 C.2.1 hd hb (k p l e R s m args below meth c cells slots Z D tc ad A C Hp locs lsa hP hD hS hl)
theorem pr_ineg {a : Int32} (hd : decode (pm_by y) pc = .ok (.ineg, 1)) (k : pm_RW X d y Q (pc + 1) ls (.int (-a) :: r) H) : pm_RW X d y Q pc ls (.int a :: r) H :=
  fun p l e R s m args below meth c cells slots Z D tc ad A C Hp locs lsa hP hD hS hl => lv_ineg C.1 C.2.1 hd (k p l e R s m args below meth c cells slots Z D tc ad A C Hp locs lsa hP hD hS hl)
theorem pr_iushr {a b : Int32} (hd : decode (pm_by y) pc = .ok (.iushr, 1)) (k : pm_RW X d y Q (pc + 1) ls (.int (a.toUInt32 >>> (b.toUInt32 &&& Int32.toUInt32 31)).toInt32 :: r) H) : pm_RW X d y Q pc ls (.int b :: .int a :: r) H :=
  fun p l e R s m args below meth c cells slots Z D tc ad A C Hp locs lsa hP hD hS hl => lv_iushr C.1 C.2.1 hd rfl (k p l e R s m args below meth c cells slots Z D tc ad A C Hp locs lsa hP hD hS hl)
theorem pr_ladd {a b : Int64} (hd : decode (pm_by y) pc = .ok (.ladd, 1)) (k : pm_RW X d y Q (pc + 1) ls (.long (a + b) :: r) H) : pm_RW X d y Q pc ls (.long b :: .long a :: r) H :=
  fun p l e R s m args below meth c cells slots Z D tc ad A C Hp locs lsa hP hD hS hl => lv_ladd C.1 C.2.1 hd (k p l e R s m args below meth c cells slots Z D tc ad A C Hp locs lsa hP hD hS hl)
theorem pr_lsub {a b : Int64} (hd : decode (pm_by y) pc = .ok (.lsub, 1)) (k : pm_RW X d y Q (pc + 1) ls (.long (a - b) :: r) H) : pm_RW X d y Q pc ls (.long b :: .long a :: r) H :=
  fun p l e R s m args below meth c cells slots Z D tc ad A C Hp locs lsa hP hD hS hl => lv_lsub C.1 C.2.1 hd (k p l e R s m args below meth c cells slots Z D tc ad A C Hp locs lsa hP hD hS hl)
theorem pr_lmul {a b : Int64} (hd : decode (pm_by y) pc = .ok (.lmul, 1)) (k : pm_RW X d y Q (pc + 1) ls (.long (a * b) :: r) H) : pm_RW X d y Q pc ls (.long b :: .long a :: r) H :=
  fun p l e R s m args below meth c cells slots Z D tc ad A C Hp locs lsa hP hD hS hl => lv_lmul C.1 C.2.1 hd (k p l e R s m args below meth c cells slots Z D tc ad A C Hp locs lsa hP hD hS hl)
theorem pr_land {a b : Int64} (hd : decode (pm_by y) pc = .ok (.land, 1)) (k : pm_RW X d y Q (pc + 1) ls (.long (a &&& b) :: r) H) : pm_RW X d y Q pc ls (.long b :: .long a :: r) H :=
  fun p l e R s m args below meth c cells slots Z D tc ad A C Hp locs lsa hP hD hS hl => lv_land C.1 C.2.1 hd (k p l e R s m args below meth c cells slots Z D tc ad A C Hp locs lsa hP hD hS hl)
theorem pr_lor {a b : Int64} (hd : decode (pm_by y) pc = .ok (.lor, 1)) (k : pm_RW X d y Q (pc + 1) ls (.long (a ||| b) :: r) H) : pm_RW X d y Q pc ls (.long b :: .long a :: r) H :=
  fun p l e R s m args below meth c cells slots Z D tc ad A C Hp locs lsa hP hD hS hl => lv_lor C.1 C.2.1 hd (k p l e R s m args below meth c cells slots Z D tc ad A C Hp locs lsa hP hD hS hl)
theorem pr_ldiv {a b : Int64} (hd : decode (pm_by y) pc = .ok (.ldiv, 1)) (hb : ¬ b = 0) (k : pm_RW X d y Q (pc + 1) ls (.long (a / b) :: r) H) : pm_RW X d y Q pc ls (.long b :: .long a :: r) H :=
  fun p l e R s m args below meth c cells slots Z D tc ad A C Hp locs lsa hP hD hS hl => lv_ldiv C.1 C.2.1 hd hb (k p l e R s m args below meth c cells slots Z D tc ad A C Hp locs lsa hP hD hS hl)
theorem pr_lrem {a b : Int64} (hd : decode (pm_by y) pc = .ok (.lrem, 1)) (hb : ¬ b = 0) (k : pm_RW X d y Q (pc + 1) ls (.long (a - a / b * b) :: r) H) : pm_RW X d y Q pc ls (.long b :: .long a :: r) H :=
  fun p l e R s m args below meth c cells slots Z D tc ad A C Hp locs lsa hP hD hS hl => lv_lrem C.1 C.2.1 hd hb (k p l e R s m args below meth c cells slots Z D tc ad A C Hp locs lsa hP hD hS hl)
theorem pr_lshl {a : Int64} {b : Int32} (hd : decode (pm_by y) pc = .ok (.lshl, 1)) (k : pm_RW X d y Q (pc + 1) ls (.long (a <<< (b.toInt64 &&& 63)) :: r) H) : pm_RW X d y Q pc ls (.int b :: .long a :: r) H :=
  fun p l e R s m args below meth c cells slots Z D tc ad A C Hp locs lsa hP hD hS hl => lv_lshl C.1 C.2.1 hd rfl (k p l e R s m args below meth c cells slots Z D tc ad A C Hp locs lsa hP hD hS hl)
theorem pr_i2l {a : Int32} (hd : decode (pm_by y) pc = .ok (.i2l, 1)) (k : pm_RW X d y Q (pc + 1) ls (.long a.toInt64 :: r) H) : pm_RW X d y Q pc ls (.int a :: r) H :=
  fun p l e R s m args below meth c cells slots Z D tc ad A C Hp locs lsa hP hD hS hl => lv_i2l C.1 C.2.1 hd rfl (k p l e R s m args below meth c cells slots Z D tc ad A C Hp locs lsa hP hD hS hl)
theorem pr_l2i {a : Int64} (hd : decode (pm_by y) pc = .ok (.l2i, 1)) (k : pm_RW X d y Q (pc + 1) ls (.int a.toInt32 :: r) H) : pm_RW X d y Q pc ls (.long a :: r) H :=
  fun p l e R s m args below meth c cells slots Z D tc ad A C Hp locs lsa hP hD hS hl => lv_l2i C.1 C.2.1 hd rfl (k p l e R s m args below meth c cells slots Z D tc ad A C Hp locs lsa hP hD hS hl)
theorem pr_i2b {a : Int32} (hd : decode (pm_by y) pc = .ok (.i2b, 1)) (k : pm_RW X d y Q (pc + 1) ls (.int a.toInt8.toInt32 :: r) H) : pm_RW X d y Q pc ls (.int a :: r) H :=
  fun p l e R s m args below meth c cells slots Z D tc ad A C Hp locs lsa hP hD hS hl => lv_i2b C.1 C.2.1 hd rfl (k p l e R s m args below meth c cells slots Z D tc ad A C Hp locs lsa hP hD hS hl)
theorem pr_i2s {a : Int32} (hd : decode (pm_by y) pc = .ok (.i2s, 1)) (k : pm_RW X d y Q (pc + 1) ls (.int a.toInt16.toInt32 :: r) H) : pm_RW X d y Q pc ls (.int a :: r) H :=
  fun p l e R s m args below meth c cells slots Z D tc ad A C Hp locs lsa hP hD hS hl => lv_i2s C.1 C.2.1 hd rfl (k p l e R s m args below meth c cells slots Z D tc ad A C Hp locs lsa hP hD hS hl)
theorem pr_dup {a : Value} (hd : decode (pm_by y) pc = .ok (.dup, 1)) (ha : a.category = 1) (k : pm_RW X d y Q (pc + 1) ls (a :: a :: r) H) : pm_RW X d y Q pc ls (a :: r) H :=
  fun p l e R s m args below meth c cells slots Z D tc ad A C Hp locs lsa hP hD hS hl => lv_dup C.1 C.2.1 hd ((pm_mv_cat ad a).trans ha) (k p l e R s m args below meth c cells slots Z D tc ad A C Hp locs lsa hP hD hS hl)
theorem pr_dup2 {a b : Value} (hd : decode (pm_by y) pc = .ok (.dup2, 1)) (ha : a.category = 1) (hb : b.category = 1) (k : pm_RW X d y Q (pc + 1) ls (a :: b :: a :: b :: r) H) : pm_RW X d y Q pc ls (a :: b :: r) H :=
  fun p l e R s m args below meth c cells slots Z D tc ad A C Hp locs lsa hP hD hS hl => lv_dup2_11 C.1 C.2.1 hd ((pm_mv_cat ad a).trans ha) ((pm_mv_cat ad b).trans hb) (k p l e R s m args below meth c cells slots Z D tc ad A C Hp locs lsa hP hD hS hl)
theorem pr_pop {a : Value} (hd : decode (pm_by y) pc = .ok (.pop, 1)) (ha : a.category = 1) (k : pm_RW X d y Q (pc + 1) ls (r) H) : pm_RW X d y Q pc ls (a :: r) H :=
  fun p l e R s m args below meth c cells slots Z D tc ad A C Hp locs lsa hP hD hS hl => lv_pop C.1 C.2.1 hd ((pm_mv_cat ad a).trans ha) (k p l e R s m args below meth c cells slots Z D tc ad A C Hp locs lsa hP hD hS hl)
theorem pr_icmp_eq {a b : Int32} {off : Int} {t : Nat} (hd : decode (pm_by y) pc = .ok (.if_icmp .eq off, 3)) (ht : (pc : Int) + off = (t : Int)) (kt : a = b → pm_RW X d y Q t ls r H) (kf : ¬ a = b → pm_RW X d y Q (pc + 3) ls r H) : pm_RW X d y Q pc ls (.int b :: .int a :: r) H :=
  fun p l e R s m args below meth c cells slots Z D tc ad A C Hp locs lsa hP hD hS hl => lv_icmp_eq C.1 C.2.1 hd ht (fun ht => (kt ht p l e R s m args below meth c cells slots Z D tc ad A C Hp locs lsa hP hD hS hl)) (fun ht => (kf ht p l e R s m args below meth c cells slots Z D tc ad A C Hp locs lsa hP hD hS hl))
theorem pr_if_eq {a : Int32} {off : Int} {t : Nat} (hd : decode (pm_by y) pc = .ok (.ifCond .eq off, 3)) (ht : (pc : Int) + off = (t : Int)) (kt : a = 0 → pm_RW X d y Q t ls r H) (kf : ¬ a = 0 → pm_RW X d y Q (pc + 3) ls r H) : pm_RW X d y Q pc ls (.int a :: r) H :=
  fun p l e R s m args below meth c cells slots Z D tc ad A C Hp locs lsa hP hD hS hl => lv_if_eq C.1 C.2.1 hd ht (fun ht => (kt ht p l e R s m args below meth c cells slots Z D tc ad A C Hp locs lsa hP hD hS hl)) (fun ht => (kf ht p l e R s m args below meth c cells slots Z D tc ad A C Hp locs lsa hP hD hS hl))
theorem pr_icmp_ne {a b : Int32} {off : Int} {t : Nat} (hd : decode (pm_by y) pc = .ok (.if_icmp .ne off, 3)) (ht : (pc : Int) + off = (t : Int)) (kt : ¬ a = b → pm_RW X d y Q t ls r H) (kf : a = b → pm_RW X d y Q (pc + 3) ls r H) : pm_RW X d y Q pc ls (.int b :: .int a :: r) H :=
  fun p l e R s m args below meth c cells slots Z D tc ad A C Hp locs lsa hP hD hS hl => lv_icmp_ne C.1 C.2.1 hd ht (fun ht => (kt ht p l e R s m args below meth c cells slots Z D tc ad A C Hp locs lsa hP hD hS hl)) (fun ht => (kf ht p l e R s m args below meth c cells slots Z D tc ad A C Hp locs lsa hP hD hS hl))
theorem pr_if_ne {a : Int32} {off : Int} {t : Nat} (hd : decode (pm_by y) pc = .ok (.ifCond .ne off, 3)) (ht : (pc : Int) + off = (t : Int)) (kt : ¬ a = 0 → pm_RW X d y Q t ls r H) (kf : a = 0 → pm_RW X d y Q (pc + 3) ls r H) : pm_RW X d y Q pc ls (.int a :: r) H :=
  fun p l e R s m args below meth c cells slots Z D tc ad A C Hp locs lsa hP hD hS hl => lv_if_ne C.1 C.2.1 hd ht (fun ht => (kt ht p l e R s m args below meth c cells slots Z D tc ad A C Hp locs lsa hP hD hS hl)) (fun ht => (kf ht p l e R s m args below meth c cells slots Z D tc ad A C Hp locs lsa hP hD hS hl))
theorem pr_icmp_lt {a b : Int32} {off : Int} {t : Nat} (hd : decode (pm_by y) pc = .ok (.if_icmp .lt off, 3)) (ht : (pc : Int) + off = (t : Int)) (kt : a < b → pm_RW X d y Q t ls r H) (kf : ¬ a < b → pm_RW X d y Q (pc + 3) ls r H) : pm_RW X d y Q pc ls (.int b :: .int a :: r) H :=
  fun p l e R s m args below meth c cells slots Z D tc ad A C Hp locs lsa hP hD hS hl => lv_icmp_lt C.1 C.2.1 hd ht (fun ht => (kt ht p l e R s m args below meth c cells slots Z D tc ad A C Hp locs lsa hP hD hS hl)) (fun ht => (kf ht p l e R s m args below meth c cells slots Z D tc ad A C Hp locs lsa hP hD hS hl))
theorem pr_if_lt {a : Int32} {off : Int} {t : Nat} (hd : decode (pm_by y) pc = .ok (.ifCond .lt off, 3)) (ht : (pc : Int) + off = (t : Int)) (kt : a < 0 → pm_RW X d y Q t ls r H) (kf : ¬ a < 0 → pm_RW X d y Q (pc + 3) ls r H) : pm_RW X d y Q pc ls (.int a :: r) H :=
  fun p l e R s m args below meth c cells slots Z D tc ad A C Hp locs lsa hP hD hS hl => lv_if_lt C.1 C.2.1 hd ht (fun ht => (kt ht p l e R s m args below meth c cells slots Z D tc ad A C Hp locs lsa hP hD hS hl)) (fun ht => (kf ht p l e R s m args below meth c cells slots Z D tc ad A C Hp locs lsa hP hD hS hl))
theorem pr_icmp_ge {a b : Int32} {off : Int} {t : Nat} (hd : decode (pm_by y) pc = .ok (.if_icmp .ge off, 3)) (ht : (pc : Int) + off = (t : Int)) (kt : b ≤ a → pm_RW X d y Q t ls r H) (kf : ¬ b ≤ a → pm_RW X d y Q (pc + 3) ls r H) : pm_RW X d y Q pc ls (.int b :: .int a :: r) H :=
  fun p l e R s m args below meth c cells slots Z D tc ad A C Hp locs lsa hP hD hS hl => lv_icmp_ge C.1 C.2.1 hd ht (fun ht => (kt ht p l e R s m args below meth c cells slots Z D tc ad A C Hp locs lsa hP hD hS hl)) (fun ht => (kf ht p l e R s m args below meth c cells slots Z D tc ad A C Hp locs lsa hP hD hS hl))
theorem pr_if_ge {a : Int32} {off : Int} {t : Nat} (hd : decode (pm_by y) pc = .ok (.ifCond .ge off, 3)) (ht : (pc : Int) + off = (t : Int)) (kt : 0 ≤ a → pm_RW X d y Q t ls r H) (kf : ¬ 0 ≤ a → pm_RW X d y Q (pc + 3) ls r H) : pm_RW X d y Q pc ls (.int a :: r) H :=
  fun p l e R s m args below meth c cells slots Z D tc ad A C Hp locs lsa hP hD hS hl => lv_if_ge C.1 C.2.1 hd ht (fun ht => (kt ht p l e R s m args below meth c cells slots Z D tc ad A C Hp locs lsa hP hD hS hl)) (fun ht => (kf ht p l e R s m args below meth c cells slots Z D tc ad A C Hp locs lsa hP hD hS hl))
theorem pr_icmp_gt {a b : Int32} {off : Int} {t : Nat} (hd : decode (pm_by y) pc = .ok (.if_icmp .gt off, 3)) (ht : (pc : Int) + off = (t : Int)) (kt : b < a → pm_RW X d y Q t ls r H) (kf : ¬ b < a → pm_RW X d y Q (pc + 3) ls r H) : pm_RW X d y Q pc ls (.int b :: .int a :: r) H :=
  fun p l e R s m args below meth c cells slots Z D tc ad A C Hp locs lsa hP hD hS hl => lv_icmp_gt C.1 C.2.1 hd ht (fun ht => (kt ht p l e R s m args below meth c cells slots Z D tc ad A C Hp locs lsa hP hD hS hl)) (fun ht => (kf ht p l e R s m args below meth c cells slots Z D tc ad A C Hp locs lsa hP hD hS hl))
theorem pr_if_gt {a : Int32} {off : Int} {t : Nat} (hd : decode (pm_by y) pc = .ok (.ifCond .gt off, 3)) (ht : (pc : Int) + off = (t : Int)) (kt : 0 < a → pm_RW X d y Q t ls r H) (kf : ¬ 0 < a → pm_RW X d y Q (pc + 3) ls r H) : pm_RW X d y Q pc ls (.int a :: r) H :=
  fun p l e R s m args below meth c cells slots Z D tc ad A C Hp locs lsa hP hD hS hl => lv_if_gt C.1 C.2.1 hd ht (fun ht => (kt ht p l e R s m args below meth c cells slots Z D tc ad A C Hp locs lsa hP hD hS hl)) (fun ht => (kf ht p l e R s m args below meth c cells slots Z D tc ad A C Hp locs lsa hP hD hS hl))
theorem pr_icmp_le {a b : Int32} {off : Int} {t : Nat} (hd : decode (pm_by y) pc = .ok (.if_icmp .le off, 3)) (ht : (pc : Int) + off = (t : Int)) (kt : a ≤ b → pm_RW X d y Q t ls r H) (kf : ¬ a ≤ b → pm_RW X d y Q (pc + 3) ls r H) : pm_RW X d y Q pc ls (.int b :: .int a :: r) H :=
  fun p l e R s m args below meth c cells slots Z D tc ad A C Hp locs lsa hP hD hS hl => lv_icmp_le C.1 C.2.1 hd ht (fun ht => (kt ht p l e R s m args below meth c cells slots Z D tc ad A C Hp locs lsa hP hD hS hl)) (fun ht => (kf ht p l e R s m args below meth c cells slots Z D tc ad A C Hp locs lsa hP hD hS hl))
theorem pr_if_le {a : Int32} {off : Int} {t : Nat} (hd : decode (pm_by y) pc = .ok (.ifCond .le off, 3)) (ht : (pc : Int) + off = (t : Int)) (kt : a ≤ 0 → pm_RW X d y Q t ls r H) (kf : ¬ a ≤ 0 → pm_RW X d y Q (pc + 3) ls r H) : pm_RW X d y Q pc ls (.int a :: r) H :=
  fun p l e R s m args below meth c cells slots Z D tc ad A C Hp locs lsa hP hD hS hl => lv_if_le C.1 C.2.1 hd ht (fun ht => (kt ht p l e R s m args below meth c cells slots Z D tc ad A C Hp locs lsa hP hD hS hl)) (fun ht => (kf ht p l e R s m args below meth c cells slots Z D tc ad A C Hp locs lsa hP hD hS hl))
theorem pr_goto {off : Int} {t : Nat} (hd : decode (pm_by y) pc = .ok (.goto off, 3)) (ht : (pc : Int) + off = (t : Int)) (k : pm_RW X d y Q t ls r H) : pm_RW X d y Q pc ls r H :=
  fun p l e R s m args below meth c cells slots Z D tc ad A C Hp locs lsa hP hD hS hl => lv_goto C.1 C.2.1 hd ht (k p l e R s m args below meth c cells slots Z D tc ad A C Hp locs lsa hP hD hS hl)
theorem pr_lookup {dflt : Int} {ps : Array (Int × Int)} {len : Nat} {a : Int32} {off : Int} {t : Nat} (hd : decode (pm_by y) pc = .ok (.lookupswitch dflt ps, len)) (hp : (ps.toList.zip (ps.toList.drop 1)).all (fun (a, next) => a.1 < next.1) = true) (ho : Op.lookupswitch.offset ps.toList dflt a.toInt = off) (ht : (pc : Int) + off = (t : Int)) (k : pm_RW X d y Q t ls r H) : pm_RW X d y Q pc ls (.int a :: r) H :=
  fun p l e R s m args below meth c cells slots Z D tc ad A C Hp locs lsa hP hD hS hl => lv_lookup C.1 C.2.1 hd hp ho ht (k p l e R s m args below meth c cells slots Z D tc ad A C Hp locs lsa hP hD hS hl)
theorem pr_tableOut {dflt lo hi : Int} {offs : Array Int} {len : Nat} {a : Int32} {t : Nat} (hd : decode (pm_by y) pc = .ok (.tableswitch dflt lo hi offs, len)) (h : a.toInt < lo ∨ hi < a.toInt) (ht : (pc : Int) + dflt = (t : Int)) (k : pm_RW X d y Q t ls r H) : pm_RW X d y Q pc ls (.int a :: r) H :=
  fun p l e R s m args below meth c cells slots Z D tc ad A C Hp locs lsa hP hD hS hl => lv_tableOut C.1 C.2.1 hd h ht (k p l e R s m args below meth c cells slots Z D tc ad A C Hp locs lsa hP hD hS hl)
theorem pr_tableIn {dflt lo hi : Int} {offs : Array Int} {len : Nat} {a : Int32} {off : Int} {t : Nat} (hd : decode (pm_by y) pc = .ok (.tableswitch dflt lo hi offs, len)) (h1 : ¬ a.toInt < lo) (h2 : ¬ hi < a.toInt) (ho : offs[(a.toInt - lo).toNat]? = some off) (ht : (pc : Int) + off = (t : Int)) (k : pm_RW X d y Q t ls r H) : pm_RW X d y Q pc ls (.int a :: r) H :=
  fun p l e R s m args below meth c cells slots Z D tc ad A C Hp locs lsa hP hD hS hl => lv_tableIn C.1 C.2.1 hd h1 h2 ho ht (k p l e R s m args below meth c cells slots Z D tc ad A C Hp locs lsa hP hD hS hl)
end
