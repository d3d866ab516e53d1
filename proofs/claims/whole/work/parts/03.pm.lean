/-! the little machine: heap, code, judgements -/
abbrev pmT : Type := (Nat → Nat → Int32) × (Nat → Nat → Int64) × Nat × Nat
abbrev pmL : Type := List (Nat × Value)
/-- pc; locals that a loop's head keeps ([]: no head); instruction with its links resolved; how it is spelt; pool index or length; the word's place -/
abbrev pmE : Type := Nat × List Nat × Instr × Nat × Nat × Nat
abbrev pmQ : Type := Option Value → pmT → Prop
def pm_md : MethodName × ByteArray × Nat × Option FieldType × Bool := (⟨"", "", ""⟩, ⟨#[]⟩, 0, none, true)
def pm_nm (y : Nat) : MethodName := (pm_mt.getD y pm_md).1
def pm_by (y : Nat) : ByteArray := (pm_mt.getD y pm_md).2.1
def pm_ml (y : Nat) : Nat := (pm_mt.getD y pm_md).2.2.1
def pm_rt (y : Nat) : Option FieldType := (pm_mt.getD y pm_md).2.2.2.1
def pm_sta (y : Nat) : Bool := (pm_mt.getD y pm_md).2.2.2.2
def pm_rk (y : Nat) : Nat := match pm_rt y with
  | none => 0
  | some .long => 2
  | some _ => 1
def pm_rf (H : pmT) (o k : Nat) : Nat := cond (Nat.beq ((pm_rfl.getD o []).getD k 999) 2000) H.2.2.1 (cond (Nat.beq ((pm_rfl.getD o []).getD k 999) 2001) H.2.2.2 ((pm_rfl.getD o []).getD k 999))
def pm_ft (ci k : Nat) : Nat := (pm_ftl.getD ci []).getD k 9
def pm_mv (ad : Nat → Nat) (v : Value) : Value := match v with
  | .ref a => .ref (ad a)
  | .int x => .int x
  | .long x => .long x
  | .float x => .float x
  | .double x => .double x
  | .null => .null
  | .retAddr x => .retAddr x
def pm_mq (ad : Nat → Nat) (q : Nat × Value) : Nat × Value := (q.1, pm_mv ad q.2)
def pm_fv (ad : Nat → Nat) (H : pmT) (o k t : Nat) : Value := cond (Nat.beq t 2) (.ref (ad (pm_rf H o k))) (.int (H.1 o k))
def pm_fs (ad : Nat → Nat) (H : pmT) (o ci : Nat) : List Value := (pm_ftl.getD ci []).mapIdx fun k t => pm_fv ad H o k t
def pm_ar (tc : Nat → ClassId) (ad : Nat → Nat) (H : pmT) (o t n : Nat) : ClassId × vp_A := match t with
  | 0 => (tc 0, n, .inl (H.1 o))
  | 1 => (tc 1, n, .inr (.inl (H.2.1 o)))
  | 2 => (tc 2, n, .inl (H.1 o))
  | _ => (tc 3, n, .inr (.inr (.inr (.inr (fun j => some (ad (pm_rf H o j)))))))
def pm_cell (tc : Nat → ClassId) (ad : Nat → Nat) (H : pmT) (o : Nat) (s : pmS) : va_E := match s with
  | .inl ci => .inr (ci, pm_fs ad H o ci)
  | .inr q => .inl (pm_ar tc ad H o q.1 q.2)
def pm_ws (tc : Nat → ClassId) (ad : Nat → Nat) (H : pmT) : va_W := pm_SH.mapIdx fun o s => (ad o, pm_cell tc ad H o s)
def pm_tys (tc : Nat → ClassId) : List (ClassId × FieldType) := [(tc 0, .int), (tc 1, .long), (tc 2, .boolean), (tc 3, .object RX7)]
def pm_A (ad : Nat → Nat) (sz : Nat) : Nat → Prop := fun q => (∃ o : Nat, o < pm_SH.length ∧ q = ad o) ∨ sz ≤ q
def pm_St (ad : Nat → Nat) (A : Nat → Prop) (U : State) (Hp : Heap) : Prop :=
  (va_Z "PractisedWrong" "GREATEST" "[I" (.ref (ad 1000)) A U Hp ∧ va_T .int (ad 1000) 8 (fun j => .int (pm_G j)) A U Hp) ∧
  (va_Z "PractisedWrong$Bodies" "ABOVE" "[I" (.ref (ad 1001)) A U Hp ∧ va_T .int (ad 1001) 8 (fun j => .int (pm_AB j)) A U Hp) ∧
  (va_Z "PractisedWrong$Bodies" "OWN" "[I" (.ref (ad 1002)) A U Hp ∧ va_T .int (ad 1002) 32 (fun j => .int (pm_OW j)) A U Hp)
def pm_X (X : Option (Nat × (Nat → Int32))) (ad : Nat → Nat) (A : Nat → Prop) (s : State) : Prop := match X with
  | none => True
  | some q => va_X (ad 1003) q.1 q.2 s s.heap ∧ ad 1003 < s.heap.size ∧ ¬ A (ad 1003)
/-- the words that a caller and its callees may use -/
def pm_tbl : List Cond := lw_tbl.filter goodWord
def pm_nst : List Cond := [.methodLinkNest "PractisedWrong$Shelf" 32 ⟨"PractisedWrong", "outside", "(III)Z"⟩ "PractisedWrong", .methodLinkNest "PractisedWrong$Practice" 101 ⟨"PractisedWrong", "outside", "(III)Z"⟩ "PractisedWrong", .methodLinkNest "PractisedWrong$Bodies" 28 ⟨"PractisedWrong", "outside", "(III)Z"⟩ "PractisedWrong"]
/-- an answer of the kind that the method has -/
def pm_kd (y : Nat) (v : Option Value) : Prop := match pm_rt y with
  | none => v = none
  | some .int => ∃ x, v = some (.int x)
  | some .boolean => ∃ x, v = some (.int x) ∧ (x = 0 ∨ x = 1)
  | some .long => ∃ x, v = some (.long x)
  | some _ => False
def pm_ri (y : Nat) : Instr := match pm_rt y with
  | none => .return_
  | some .long => .lreturn
  | some _ => .ireturn
def pm_Ret (y : Nat) (Q : pmQ) (p : Program) (l : Launch) (e : Env) (R : Room) (s : State) (m : MethodId) (args : Array Value) (below : List Frame) (meth : Method) (c : Code) (cells slots : Nat) (Z : State → Prop) (D : va_G) (tc : Nat → ClassId) (ad : Nat → Nat) (A : Nat → Prop) : Prop :=
  ∀ (v : Option Value) (H : pmT) (Hp : Heap) (locs : List Loc) (pc : Nat) (lsa : Array Slot), Q v H → pm_kd y v → va_P D vwCl (pm_ws tc ad H) Hp → va_D A (pm_ws tc ad H) → va_S A s.heap Hp locs → decode (pm_by y) pc = .ok (pm_ri y, 1) → W p l e R s m args below meth c Hp locs cells slots Z (F0 m pc lsa v.toList)
def pm_ctx (X : Option (Nat × (Nat → Int32))) (d y : Nat) (Q : pmQ) (p : Program) (l : Launch) (e : Env) (R : Room) (s : State) (m : MethodId) (args : Array Value) (below : List Frame) (meth : Method) (c : Code) (cells slots : Nat) (Z : State → Prop) (D : va_G) (tc : Nat → ClassId) (ad : Nat → Nat) (A : Nat → Prop) : Prop :=
  p.tables.exec = Jvm.exec ∧ c.code = pm_by y ∧ c.maxLocals = pm_ml y ∧ s.vm.findClass (pm_nm y).cls = some m.cls ∧ ((∀ w ∈ pm_tbl, w.before args s = true) ∧ ∀ w ∈ pm_nst, va_Nw w s) ∧ va_K D vwCl (pm_tys tc) s ∧ pm_St ad A s s.heap ∧ pm_X X ad A s ∧ (∀ q : Nat, s.heap.size ≤ q → A q) ∧ (d ≤ R.frames ∧ 64 * d ≤ R.locals ∧ cells ≤ R.cells ∧ slots ≤ R.slots) ∧ pm_Ret y Q p l e R s m args below meth c cells slots Z D tc ad A
/-- from here the method comes to an end with Q: whatever stands below, whatever room is left (d calls deep at most) -/
def pm_RW (X : Option (Nat × (Nat → Int32))) (d y : Nat) (Q : pmQ) (pc : Nat) (ls : pmL) (st : List Value) (H : pmT) : Prop :=
  ∀ (p : Program) (l : Launch) (e : Env) (R : Room) (s : State) (m : MethodId) (args : Array Value) (below : List Frame) (meth : Method) (c : Code) (cells slots : Nat) (Z : State → Prop) (D : va_G) (tc : Nat → ClassId) (ad : Nat → Nat) (A : Nat → Prop), pm_ctx X d y Q p l e R s m args below meth c cells slots Z D tc ad A →
    ∀ (Hp : Heap) (locs : List Loc) (lsa : Array Slot), va_P D vwCl (pm_ws tc ad H) Hp → va_D A (pm_ws tc ad H) → va_S A s.heap Hp locs → lv_has lsa (pm_ml y) (ls.map (pm_mq ad)) →
      W p l e R s m args below meth c Hp locs cells slots Z (F0 m pc lsa (st.map (pm_mv ad)))
/-- the words of a method as a callee -/
def pm_okm (y : Nat) : Prop := Cond.code (pm_nm y) (pm_by y) (pm_ml y) (pm_rt y) ∈ pm_tbl ∧ plainName (pm_nm y).cls = true ∧ ((pm_nm y).cls ≠ "java/lang/invoke/MethodHandle" ∧ (pm_nm y).cls ≠ "java/lang/invoke/VarHandle") ∧ Cond.initialized (pm_nm y).cls ∈ pm_tbl ∧ pm_ml y ≤ 45 ∧
  cond (pm_sta y) (Cond.static (pm_nm y) ∈ pm_tbl) (Cond.instanceMethod (pm_nm y) ∈ pm_tbl ∧ Cond.selects (pm_nm y).cls (pm_nm y) (pm_nm y) ∈ pm_tbl)
def pm_wy (y : Nat) : List Cond := Cond.code (pm_nm y) (pm_by y) (pm_ml y) (pm_rt y) :: pm_tbl
def pm_rm (d : Nat) : Room := { frames := d, cells := 0, slots := 0, locals := 64 * d }
def pm_B (D : va_G) (tc : Nat → ClassId) (ad : Nat → Nat) (H : pmT) (sz : Nat) (U : State) : Prop := U.heap.size = sz ∧ va_P D vwCl (pm_ws tc ad H) U.heap ∧ va_K D vwCl (pm_tys tc) U ∧ va_D (fun _ => True) (pm_ws tc ad H) ∧ pm_St ad (pm_A ad sz) U U.heap ∧ ∀ w ∈ pm_nst, va_Nw w U
def pm_Bt (D : va_G) (tc : Nat → ClassId) (ad : Nat → Nat) (A : Nat → Prop) (H : pmT) (t : State) : Prop := va_P D vwCl (pm_ws tc ad H) t.heap ∧ va_D A (pm_ws tc ad H)
def pm_Qc (rk : Nat) (D : va_G) (tc : Nat → ClassId) (ad : Nat → Nat) (A : Nat → Prop) (Q : pmQ) : Array Value → State → Outcome → State → Prop := match rk with
  | 0 => va_Qv (fun H : pmT => Q none H) (pm_Bt D tc ad A) A
  | 1 => va_Qi (fun (r : Int32) (H : pmT) => Q (some (.int r)) H) (pm_Bt D tc ad A) A
  | _ => va_Ql (fun (r : Int64) (H : pmT) => Q (some (.long r)) H) (pm_Bt D tc ad A) A
/-- the method's contract: from these arguments and this heap it returns, with Q -/
def pm_R (d y : Nat) (av : List Value) (H : pmT) (Q : pmQ) : Prop := pm_okm y ∧ ∀ (l : Launch) (D : va_G) (tc : Nat → ClassId) (ad : Nat → Nat) (sz : Nat), Met l (pm_nm y) (pm_wy y) (pm_rm d) (va_Pc (av.map (pm_mv ad)) (pm_B D tc ad H sz)) (pm_Qc (pm_rk y) D tc ad (pm_A ad sz) Q) 0 0 (pm_A ad sz)
abbrev pm_i (f : Int32 → pmT → Prop) : pmQ := fun r H => match r with
  | some (.int x) => f x H
  | _ => False
abbrev pm_l (f : Int64 → pmT → Prop) : pmQ := fun r H => match r with
  | some (.long x) => f x H
  | _ => False
abbrev pm_v (f : pmT → Prop) : pmQ := fun r H => match r with
  | none => f H
  | _ => False
def pm_get : pmL → Nat → Option Value
  | [], _ => none
  | q :: r, k => cond (Nat.beq q.1 k) (some q.2) (pm_get r k)
def pm_pick (ls : pmL) : List Nat → pmL
  | [] => []
  | k :: r => match pm_get ls k with
    | some v => (k, v) :: pm_pick ls r
    | none => pm_pick ls r
def pm_s1 (ls : pmL) (k : Nat) (v : Value) : pmL := (k, v) :: ls.filter (fun q => !(q.1 == k) && !(q.1 + 1 == k && q.2.category == 2))
def pm_s2 (ls : pmL) (k : Nat) (v : Value) : pmL := (k, v) :: ls.filter (fun q => !(q.1 == k) && (!(q.1 == k + 1) && !(q.1 + 1 == k && q.2.category == 2)))
def pm_jmp (t : Nat) : List pmE → List pmE
  | [] => []
  | e :: r => cond (Nat.beq e.1 t) (e :: r) (pm_jmp t r)
def pm_chkO (o ci : Nat) (P : Prop) : Prop := match pm_SH[o]? with
  | some (.inl c) => cond (Nat.beq c ci) P False
  | _ => False
def pm_chkA (o t : Nat) (f : Nat → Prop) : Prop := match pm_SH[o]? with
  | some (.inr q) => cond (Nat.beq q.1 t) (f q.2) False
  | _ => False
def pm_cmp (c : ClassFile.Cond) (x y : Int32) (a b : Prop) : Prop := match c with
  | .eq => (x = y → a) ∧ (¬ x = y → b)
  | .ne => (¬ x = y → a) ∧ (x = y → b)
  | .lt => (x < y → a) ∧ (¬ x < y → b)
  | .ge => (y ≤ x → a) ∧ (¬ y ≤ x → b)
  | .gt => (y < x → a) ∧ (¬ y < x → b)
  | .le => (x ≤ y → a) ∧ (¬ x ≤ y → b)
def pm_sw (kj : Nat → Prop) (x : Int32) (d : Nat) : List (Int × Int) → Prop
  | [] => kj d
  | q :: r => (x = Int32.ofInt q.1 → kj q.2.toNat) ∧ (¬ x = Int32.ofInt q.1 → pm_sw kj x d r)
def pm_rcv (rc : Nat) (av : List Value) (P : Prop) : Prop := cond (Nat.beq rc 0) P (match av with
  | .ref o :: _ => pm_chkO o (rc - 1) P
  | _ => False)
def pm_wd (st : List Value) : Nat := (st.map fun v => v.category).sum
def pm_call (k : List Value → pmT → Prop) (d y cnt : Nat) (st : List Value) (H : pmT) : Prop := match d with
  | 0 => False
  | d' + 1 => cond (Nat.ble (cnt / 4 % 16) st.length && Nat.ble (pm_wd (st.drop (cnt / 4 % 16))) 8)
      (pm_rcv (cnt / 64) (st.take (cnt / 4 % 16)).reverse (match cnt % 4 with
        | 0 => pm_R d' y (st.take (cnt / 4 % 16)).reverse H (pm_v fun H' => k (st.drop (cnt / 4 % 16)) H')
        | 1 => pm_R d' y (st.take (cnt / 4 % 16)).reverse H (pm_i fun x H' => k (.int x :: st.drop (cnt / 4 % 16)) H')
        | _ => pm_R d' y (st.take (cnt / 4 % 16)).reverse H (pm_l fun x H' => k (.long x :: st.drop (cnt / 4 % 16)) H'))) False
/-- copying n from sp on of a row to a row from dp on -/
def pm_cpin (sp dp n : Int32) (n0 n1 : Nat) : Prop := ¬ sp < 0 ∧ ¬ dp < 0 ∧ ¬ n < 0 ∧ sp.toNatClampNeg + n.toNatClampNeg ≤ n0 ∧ dp.toNatClampNeg + n.toNatClampNeg ≤ n1
def pm_up (h : Nat → Nat → Int32) (o k : Nat) (v : Int32) : Nat → Nat → Int32 := va_up h o (upd (h o) k v)
def pm_upL (h : Nat → Nat → Int64) (o k : Nat) (v : Int64) : Nat → Nat → Int64 := va_up h o (vp_updL (h o) k v)
def pm_max (a b : Int32) : Int32 := if a < b then b else a
def pm_min (a b : Int32) : Int32 := if b < a then b else a
def pm_old (X : Option (Nat × (Nat → Int32))) (o : Nat) (f : Nat → (Nat → Int32) → Prop) (g : Prop) : Prop :=
  cond (Nat.beq o 1000) (f 8 pm_G) (cond (Nat.beq o 1001) (f 8 pm_AB) (cond (Nat.beq o 1002) (f 32 pm_OW) (cond (Nat.beq o 1003) (match X with
    | some q => f q.1 q.2
    | none => False) g)))
def pm_one (X : Option (Nat × (Nat → Int32))) (d : Nat) (Q : pmQ) (k : List pmE → pmL → List Value → pmT → Prop) (tab rest : List pmE) (i : Instr) (ls : pmL) (st : List Value) (H : pmT) : Prop := match i with
  | .iconst n => k rest ls (.int (Int32.ofInt n) :: st) H
  | .jsr n => k rest ls (.long (Int64.ofInt n) :: st) H
  | .iload j => match pm_get ls j with
    | some (.int x) => k rest ls (.int x :: st) H
    | _ => False
  | .lload j => match pm_get ls j with
    | some (.long x) => k rest ls (.long x :: st) H
    | _ => False
  | .aload j => match pm_get ls j with
    | some (.ref x) => k rest ls (.ref x :: st) H
    | _ => False
  | .istore j => match st with
    | .int x :: r => k rest (pm_s1 ls j (.int x)) r H
    | _ => False
  | .lstore j => match st with
    | .long x :: r => k rest (pm_s2 ls j (.long x)) r H
    | _ => False
  | .astore j => match st with
    | .ref x :: r => k rest (pm_s1 ls j (.ref x)) r H
    | _ => False
  | .iinc j n => match pm_get ls j with
    | some (.int x) => k rest (pm_s1 ls j (.int (x + Int32.ofInt n))) st H
    | _ => False
  | .iadd => match st with
    | .int b :: .int a :: r => k rest ls (.int (a + b) :: r) H
    | _ => False
  | .isub => match st with
    | .int b :: .int a :: r => k rest ls (.int (a - b) :: r) H
    | _ => False
  | .imul => match st with
    | .int b :: .int a :: r => k rest ls (.int (a * b) :: r) H
    | _ => False
  | .idiv => match st with
    | .int b :: .int a :: r => ¬ b = 0 ∧ k rest ls (.int (a / b) :: r) H
    | _ => False
  | .irem => match st with
    | .int b :: .int a :: r => ¬ b = 0 ∧ k rest ls (.int (a - a / b * b) :: r) H
    | _ => False
  | .ineg => match st with
    | .int a :: r => k rest ls (.int (-a) :: r) H
    | _ => False
  | .iand => match st with
    | .int b :: .int a :: r => k rest ls (.int (a &&& b) :: r) H
    | _ => False
  | .ior => match st with
    | .int b :: .int a :: r => k rest ls (.int (a ||| b) :: r) H
    | _ => False
  | .ixor => match st with
    | .int b :: .int a :: r => k rest ls (.int (a ^^^ b) :: r) H
    | _ => False
  | .ishl => match st with
    | .int b :: .int a :: r => k rest ls (.int (a <<< (b &&& 31)) :: r) H
    | _ => False
  | .ishr => match st with
    | .int b :: .int a :: r => k rest ls (.int (a >>> (b &&& 31)) :: r) H
    | _ => False
  | .iushr => match st with
    | .int b :: .int a :: r => k rest ls (.int (a.toUInt32 >>> (b.toUInt32 &&& Int32.toUInt32 31)).toInt32 :: r) H
    | _ => False
  | .ladd => match st with
    | .long b :: .long a :: r => k rest ls (.long (a + b) :: r) H
    | _ => False
  | .lsub => match st with
    | .long b :: .long a :: r => k rest ls (.long (a - b) :: r) H
    | _ => False
  | .lmul => match st with
    | .long b :: .long a :: r => k rest ls (.long (a * b) :: r) H
    | _ => False
  | .ldiv => match st with
    | .long b :: .long a :: r => ¬ b = 0 ∧ k rest ls (.long (a / b) :: r) H
    | _ => False
  | .lrem => match st with
    | .long b :: .long a :: r => ¬ b = 0 ∧ k rest ls (.long (a - a / b * b) :: r) H
    | _ => False
  | .land => match st with
    | .long b :: .long a :: r => k rest ls (.long (a &&& b) :: r) H
    | _ => False
  | .lor => match st with
    | .long b :: .long a :: r => k rest ls (.long (a ||| b) :: r) H
    | _ => False
  | .lshl => match st with
    | .int b :: .long a :: r => k rest ls (.long (a <<< (b.toInt64 &&& 63)) :: r) H
    | _ => False
  | .lcmp => match st with
    | .long b :: .long a :: r => k rest ls (.int (lg_cmp a b) :: r) H
    | _ => False
  | .i2l => match st with
    | .int a :: r => k rest ls (.long a.toInt64 :: r) H
    | _ => False
  | .l2i => match st with
    | .long a :: r => k rest ls (.int a.toInt32 :: r) H
    | _ => False
  | .i2b => match st with
    | .int a :: r => k rest ls (.int a.toInt8.toInt32 :: r) H
    | _ => False
  | .i2s => match st with
    | .int a :: r => k rest ls (.int a.toInt16.toInt32 :: r) H
    | _ => False
  | .dup => match st with
    | .int a :: r => k rest ls (.int a :: .int a :: r) H
    | .ref a :: r => k rest ls (.ref a :: .ref a :: r) H
    | _ => False
  | .dup2 => match st with
    | .int b :: .ref a :: r => k rest ls (.int b :: .ref a :: .int b :: .ref a :: r) H
    | _ => False
  | .pop => match st with
    | .int _ :: r => k rest ls r H
    | _ => False
  | .if_icmp c t => match st with
    | .int b :: .int a :: r => pm_cmp c a b (k (pm_jmp t.toNat tab) ls r H) (k rest ls r H)
    | _ => False
  | .ifCond c t => match st with
    | .int a :: r => pm_cmp c a 0 (k (pm_jmp t.toNat tab) ls r H) (k rest ls r H)
    | _ => False
  | .goto t => k (pm_jmp t.toNat tab) ls st H
  | .lookupswitch t ps => match st with
    | .int a :: r => pm_sw (fun j => k (pm_jmp j tab) ls r H) a t.toNat ps.toList
    | _ => False
  | .getfield q => match st with
    | .ref o :: r => pm_chkO o (q / 64) (cond (Nat.beq (pm_ft (q / 64) (q % 64)) 2) (k rest ls (.ref (cond (Nat.beq (q / 64) 7) (o + 1) (pm_rf H o (q % 64))) :: r) H) (k rest ls (.int (H.1 o (q % 64)) :: r) H))
    | _ => False
  | .putfield q => match st with
    | .int x :: .ref o :: r => pm_chkO o (q / 64) (match pm_ft (q / 64) (q % 64) with
      | 0 => k rest ls r (pm_up H.1 o (q % 64) x, H.2)
      | 1 => (x = 0 ∨ x = 1) ∧ k rest ls r (pm_up H.1 o (q % 64) x, H.2)
      | _ => False)
    | .ref x :: .ref o :: r => pm_chkO o (q / 64) (match (pm_rfl.getD o []).getD (q % 64) 999 with
      | 2000 => k rest ls r (H.1, H.2.1, x, H.2.2.2)
      | 2001 => k rest ls r (H.1, H.2.1, H.2.2.1, x)
      | _ => False)
    | _ => False
  | .getstatic j => k rest ls (.ref (1000 + j) :: st) H
  | .iaload => match st with
    | .int a :: .ref o :: r => pm_old X o (fun n f => vp_in a n ∧ k rest ls (.int (f a.toNatClampNeg) :: r) H) (pm_chkA o 0 fun n => vp_in a n ∧ k rest ls (.int (H.1 o a.toNatClampNeg) :: r) H)
    | _ => False
  | .laload => match st with
    | .int a :: .ref o :: r => pm_chkA o 1 fun n => vp_in a n ∧ k rest ls (.long (H.2.1 o a.toNatClampNeg) :: r) H
    | _ => False
  | .baload => match st with
    | .int a :: .ref o :: r => pm_chkA o 2 fun n => vp_in a n ∧ k rest ls (.int (H.1 o a.toNatClampNeg) :: r) H
    | _ => False
  | .aaload => match st with
    | .int a :: .ref o :: r => pm_chkA o 3 fun n => vp_in a n ∧ k rest ls (.ref (43 + 2 * a.toNatClampNeg) :: r) H
    | _ => False
  | .iastore => match st with
    | .int x :: .int a :: .ref o :: r => pm_chkA o 0 fun n => vp_in a n ∧ k rest ls r (pm_up H.1 o a.toNatClampNeg x, H.2)
    | _ => False
  | .lastore => match st with
    | .long x :: .int a :: .ref o :: r => pm_chkA o 1 fun n => vp_in a n ∧ k rest ls r (H.1, pm_upL H.2.1 o a.toNatClampNeg x, H.2.2)
    | _ => False
  | .bastore => match st with
    | .int x :: .int a :: .ref o :: r => pm_chkA o 2 fun n => vp_in a n ∧ (x = 0 ∨ x = 1) ∧ k rest ls r (pm_up H.1 o a.toNatClampNeg x, H.2)
    | _ => False
  | .arraylength => match st with
    | .ref o :: r => pm_old X o (fun n _ => k rest ls (.int (Int32.ofNat n) :: r) H) False
    | _ => False
  | .invokeinterface y cnt => pm_call (fun st' H' => k rest ls st' H') d y cnt st H
  | .invokedynamic t => match st with
    | .int n :: .int dp :: .ref a :: .int sp :: .ref b :: r => cond (Nat.ble 1 d && Nat.ble (pm_wd r) 8) (pm_chkA b t fun n0 => pm_chkA a t fun n1 => pm_cpin sp dp n n0 n1 ∧ (match t with
      | 0 => k rest ls r (va_up H.1 a (va_cpy (H.1 b) (H.1 a) sp.toNatClampNeg dp.toNatClampNeg n.toNatClampNeg), H.2)
      | 1 => k rest ls r (H.1, va_up H.2.1 a (va_cpy (H.2.1 b) (H.2.1 a) sp.toNatClampNeg dp.toNatClampNeg n.toNatClampNeg), H.2.2)
      | _ => False)) False
    | _ => False
  | .fadd => match st with
    | .int b :: .int a :: r => cond (Nat.ble 1 d && Nat.ble (pm_wd r) 8) (k rest ls (.int (pm_max a b) :: r) H) False
    | _ => False
  | .fsub => match st with
    | .int b :: .int a :: r => cond (Nat.ble 1 d && Nat.ble (pm_wd r) 8) (k rest ls (.int (pm_min a b) :: r) H) False
    | _ => False
  | .ireturn => match st with
    | [.int x] => Q (some (.int x)) H
    | _ => False
  | .areturn => match st with
    | [.int x] => (x = 0 ∨ x = 1) ∧ Q (some (.int x)) H
    | _ => False
  | .lreturn => match st with
    | [.long x] => Q (some (.long x)) H
    | _ => False
  | .return_ => match st with
    | [] => Q none H
    | _ => False
  | _ => False
/-- so many instructions on; at a loop's head, and where the number is used up, the judgement itself stands -/
def pm_wp (X : Option (Nat × (Nat → Int32))) (d y : Nat) (Q : pmQ) (tab : List pmE) : Nat → List pmE → pmL → List Value → pmT → Prop
  | 0, code, ls, st, H => match code with
    | [] => False
    | e :: _ => pm_RW X d y Q e.1 ls st H
  | n + 1, code, ls, st, H => match code with
    | [] => False
    | e :: rest => match e.2.1 with
      | [] => pm_one X d Q (pm_wp X d y Q tab n) tab rest e.2.2.1 ls st H
      | ks => pm_RW X d y Q e.1 (pm_pick ls ks) st H
/-- the same, from a loop's head on -/
def pm_wh (X : Option (Nat × (Nat → Int32))) (d y : Nat) (Q : pmQ) (tab : List pmE) (n : Nat) (code : List pmE) (ls : pmL) (st : List Value) (H : pmT) : Prop := match code with
  | [] => False
  | e :: rest => pm_one X d Q (pm_wp X d y Q tab n) tab rest e.2.2.1 ls st H
