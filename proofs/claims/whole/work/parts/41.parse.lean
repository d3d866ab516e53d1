/-! texts read: what each is worth, and the codes of the class -/
abbrev Den : Type := (Nat → Int32) → Int32
abbrev PT : Type := Sum Nat (Nat × Den × List Int32)
def opOf (lv : Nat) (b : Int32) : Int32 :=
  if lv = 0 then (if b = 124 then -1 else 0) else if lv = 1 then (if b = 38 then -2 else 0)
  else if lv = 2 then (if b = 60 then -3 else if b = 61 then -4 else if b = 62 then -5 else 0)
  else if lv = 3 then (if b = 43 then -6 else if b = 45 then -7 else 0)
  else (if b = 42 then -8 else if b = 47 then -9 else if b = 37 then -10 else 0)
def nmOf (b : Int32) : Option Nat :=
  if b = 114 then some 0 else if b = 119 then some 1 else if b = 113 then some 2 else if b = 115 then some 3 else if b = 109 then some 4 else if b = 110 then some 5 else none
def numL (B : Nat → Int32) : Nat → Nat → Int32 → Nat × Int32
  | 0, p, v => (p, v)
  | m + 1, p, v => if B p < 48 ∨ 57 < B p then (p, v) else numL B m (p + 1) (v * 10 + B p - 48)
def opL (B : Nat → Int32) (lv : Nat) (sub : Nat → PT) : Nat → Nat → Den → List Int32 → PT
  | 0, p, e, cs => .inr (p, e, cs)
  | m + 1, p, e, cs => if opOf lv (B p) = 0 then .inr (p, e, cs) else match sub (p + 1) with
    | .inl q => .inl q
    | .inr r => opL B lv sub m r.1 (fun nm => joinV (opOf lv (B p)) (e nm) (r.2.1 nm)) (cs ++ r.2.2 ++ [opOf lv (B p)])
def pP (B : Nat → Int32) : Nat → Nat → Nat → Nat → PT
  | 0, _, _, p => .inl p
  | F + 1, lv, o, p => if lv < 5 then (match pP B F (lv + 1) o p with
      | .inl q => .inl q
      | .inr r => opL B lv (pP B F (lv + 1) o) (if lv = 2 then 1 else 120) r.1 r.2.1 r.2.2)
    else if B p < 48 ∨ 57 < B p then (match nmOf (B p) with
      | some k => .inr (p + 1, fun nm => nm k, [10000 + nI k])
      | none => if 6 ≤ o then .inl p
        else if B p = 40 then (match pP B F 0 (o + 1) (p + 1) with
          | .inl q => .inl q
          | .inr r => if B r.1 = 41 then .inr (r.1 + 1, r.2.1, r.2.2) else .inl r.1)
        else if B p = 33 then (match pP B F 5 (o + 1) (p + 1) with
          | .inl q => .inl q
          | .inr r => .inr (r.1, fun nm => if r.2.1 nm = 0 then 1 else 0, r.2.2 ++ [-11]))
        else if B p = 45 then (match pP B F 5 (o + 1) (p + 1) with
          | .inl q => .inl q
          | .inr r => .inr (r.1, fun nm => -(r.2.1 nm), r.2.2 ++ [-12]))
        else .inl p)
    else .inr ((numL B 4 p 0).1, fun _ => (numL B 4 p 0).2, [(numL B 4 p 0).2])
/-- a line: its end, its condition, its worth, its codes -/
def pLn (B : Nat → Int32) (p : Nat) : Sum Nat (Nat × Den × Den × List Int32) := match pP B 60 0 0 p with
  | .inl q => .inl q
  | .inr r => if B r.1 = 63 then (match pP B 60 0 0 (r.1 + 1) with
      | .inl q => .inl q
      | .inr u => .inr (u.1, r.2.1, u.2.1, r.2.2 ++ [-13] ++ u.2.2 ++ [-14]))
    else .inr (r.1, fun _ => 1, r.2.1, r.2.2 ++ [-14])
def pTx (B : Nat → Int32) (n : Nat) : Nat → Nat → Sum Nat (Den × List Int32)
  | 0, p => .inl p
  | F + 1, p => match pLn B p with
    | .inl q => .inl q
    | .inr r => if n ≤ r.1 then .inr (fun nm => if r.2.1 nm = 0 then 0 else r.2.2.1 nm, r.2.2.2)
      else if B r.1 = 59 then (match pTx B n F (r.1 + 1) with
        | .inl q => .inl q
        | .inr u => .inr (fun nm => if r.2.1 nm = 0 then u.1 nm else r.2.2.1 nm, r.2.2.2 ++ u.2))
      else .inl r.1
/-- how far it reads -/
def GC (c : Int32) : Prop := ¬ c = -14 ∧ (10000 ≤ c → ∃ q, q < 6 ∧ c - 10000 = nI q)
def PTok (n p : Nat) (x : PT) : Prop := match x with
  | .inl q => p ≤ q ∧ q ≤ n
  | .inr r => p < r.1 ∧ r.1 ≤ n ∧ 0 < r.2.2.length ∧ r.2.2.length ≤ r.1 - p ∧ ∀ c, c ∈ r.2.2 → GC c
theorem nI_nn {k : Nat} {w : Int32} (hk : k < 2 ^ 31) (hw : w < 0) : ¬ nI k = w := fun z => nI_pos hk (z ▸ hw)
theorem opOf_neg (lv : Nat) (b : Int32) (h : ¬ opOf lv b = 0) : opOf lv b = -1 ∨ opOf lv b = -2 ∨ opOf lv b = -3 ∨ opOf lv b = -4 ∨ opOf lv b = -5 ∨ opOf lv b = -6 ∨ opOf lv b = -7 ∨ opOf lv b = -8 ∨ opOf lv b = -9 ∨ opOf lv b = -10 := by
  revert h
  unfold opOf
  repeat' split
  all_goals decide
theorem opOf_z (lv : Nat) : opOf lv 0 = 0 := by
  unfold opOf
  repeat' split
  all_goals first | rfl | (rename_i h; exact absurd h (by decide))
theorem GC_neg' {c : Int32} (h : c < 0) : 10000 ≤ c → ∃ q, q < 6 ∧ c - 10000 = nI q := fun z => by
  exfalso
  rw [Int32.lt_iff_toInt_lt] at h
  rw [Int32.le_iff_toInt_le] at z
  have e0 : (0 : Int32).toInt = 0 := rfl
  have e1 : (10000 : Int32).toInt = 10000 := rfl
  omega
theorem GC_neg {c : Int32} (h : c < 0) (g : ¬ c = -14) : GC c := ⟨g, GC_neg' h⟩
theorem GC_op {lv : Nat} {b : Int32} (h : ¬ opOf lv b = 0) : GC (opOf lv b) := GC_neg (by rcases opOf_neg lv b h with e | e | e | e | e | e | e | e | e | e <;> rw [e] <;> decide) (by rcases opOf_neg lv b h with e | e | e | e | e | e | e | e | e | e <;> rw [e] <;> decide)
theorem numL_ok {B : Nat → Int32} {n : Nat} (hB : ∀ p, n ≤ p → B p = 0) : ∀ (m p : Nat) (k : Nat), p ≤ n → k * 10 ^ m + 10 ^ m ≤ 10000 → ∃ p' k', numL B m p (nI k) = (p', nI k') ∧ k' < 10000 ∧ p ≤ p' ∧ p' ≤ n
  | 0, p, k, hp, hk => ⟨p, k, rfl, by rw [Nat.pow_zero] at hk; omega, Nat.le_refl _, hp⟩
  | m + 1, p, k, hp, hk => by
    have h10 : 0 < 10 ^ m := Nat.pow_pos (by decide)
    rw [Nat.pow_succ] at hk
    have hk' : k < 10000 := by
      have : k * 1 ≤ k * (10 ^ m * 10) := Nat.mul_le_mul_left _ (by omega)
      omega
    unfold numL
    by_cases c : B p < 48 ∨ 57 < B p
    · rw [if_pos c]
      exact ⟨p, k, rfl, hk', Nat.le_refl _, hp⟩
    · rw [if_neg c]
      have c1 : ¬ B p < 48 := fun z => c (Or.inl z)
      have c2 : ¬ 57 < B p := fun z => c (Or.inr z)
      rw [Int32.lt_iff_toInt_lt] at c1 c2
      have e48 : (48 : Int32).toInt = 48 := rfl
      have e57 : (57 : Int32).toInt = 57 := rfl
      have c0 : ¬ B p < 0 := by
        rw [Int32.lt_iff_toInt_lt]
        have e0 : (0 : Int32).toInt = 0 := rfl
        omega
      obtain ⟨j, hj, ej⟩ := nI_of c0
      have ejt : (B p).toInt = j := by rw [ej]; exact nI_toInt hj
      have hpn : p < n := by
        refine Nat.lt_of_not_le (fun z => ?_)
        rw [hB p z] at c1
        exact c1 (by decide)
      have ev : nI k * 10 + B p - 48 = nI (k * 10 + (j - 48)) := by
        rw [ej, show (10 : Int32) = nI 10 from rfl, pk_mul, nI_add, show (48 : Int32) = nI 48 from rfl, pk_sub (by omega)]
        congr 1
        omega
      rw [ev]
      obtain ⟨p', k', h1, h2, h3, h4⟩ := numL_ok hB m (p + 1) (k * 10 + (j - 48)) hpn (by
        have q1 : (k * 10 + (j - 48)) * 10 ^ m ≤ (k * 10 + 9) * 10 ^ m := Nat.mul_le_mul_right _ (by omega)
        have q2 : (k * 10 + 9) * 10 ^ m + 10 ^ m = k * (10 ^ m * 10) + 10 ^ m * 10 := by
          generalize 10 ^ m = z
          rw [Nat.add_mul, Nat.mul_assoc, Nat.mul_comm 10 z]
          omega
        omega)
      exact ⟨p', k', h1, h2, by omega, h4⟩
theorem numL_lt {B : Nat → Int32} {n p : Nat} (hB : ∀ p, n ≤ p → B p = 0) (hp : p ≤ n) (c : ¬ (B p < 48 ∨ 57 < B p)) : p < (numL B 4 p 0).1 ∧ (numL B 4 p 0).1 ≤ n ∧ ∃ k, (numL B 4 p 0).2 = nI k ∧ k < 10000 := by
  have hpn : p < n := by
    refine Nat.lt_of_not_le (fun z => ?_)
    rw [hB p z] at c
    exact c (Or.inl (by decide))
  obtain ⟨p', k', h1, h2, h3, h4⟩ := numL_ok hB 4 p 0 hp (by decide)
  refine ⟨?_, by rw [show numL B 4 p 0 = (p', nI k') from h1]; exact h4, k', by rw [show numL B 4 p 0 = (p', nI k') from h1], h2⟩
  unfold numL
  rw [if_neg c]
  have c1 : ¬ B p < 48 := fun z => c (Or.inl z)
  have c2 : ¬ 57 < B p := fun z => c (Or.inr z)
  rw [Int32.lt_iff_toInt_lt] at c1 c2
  have e48 : (48 : Int32).toInt = 48 := rfl
  have e57 : (57 : Int32).toInt = 57 := rfl
  have c0 : ¬ B p < 0 := by
    rw [Int32.lt_iff_toInt_lt]
    have e0 : (0 : Int32).toInt = 0 := rfl
    omega
  obtain ⟨j, hj, ej⟩ := nI_of c0
  have ejt : (B p).toInt = j := by rw [ej]; exact nI_toInt hj
  have ev : (0 : Int32) * 10 + B p - 48 = nI (j - 48) := by
    rw [Int32.zero_mul, Int32.zero_add, ej, show (48 : Int32) = nI 48 from rfl, pk_sub (by omega)]
  rw [ev]
  obtain ⟨p2, k2, g1, g2, g3, g4⟩ := numL_ok hB 3 (p + 1) (j - 48) hpn (by omega)
  rw [g1]
  exact g3
theorem nmOf_lt {b : Int32} {k : Nat} (h : nmOf b = some k) : k < 6 := by
  unfold nmOf at h
  repeat' split at h
  all_goals first | (cases h; decide) | cases h
theorem PTok_opL {B : Nat → Int32} {n p0 lv : Nat} (hB : ∀ p, n ≤ p → B p = 0) {sub : Nat → PT} (hs : ∀ p, p ≤ n → PTok n p (sub p)) : ∀ (m p : Nat) (e : Den) (cs : List Int32), PTok n p0 (.inr (p, e, cs)) → PTok n p0 (opL B lv sub m p e cs)
  | 0, p, e, cs, h => h
  | m + 1, p, e, cs, h => by
    unfold opL
    by_cases c : opOf lv (B p) = 0
    · rw [if_pos c]; exact h
    · rw [if_neg c]
      obtain ⟨h1, h2, h3, h4, h5⟩ := h
      have hpn : p < n := by
        refine Nat.lt_of_not_le (fun z => ?_)
        rw [hB p z] at c
        exact c (opOf_z lv)
      have hq := hs (p + 1) hpn
      generalize sub (p + 1) = x at hq
      match x, hq with
      | .inl q, hq => exact ⟨by have := hq.1; simp only at h1; omega, hq.2⟩
      | .inr r, hq =>
        obtain ⟨g1, g2, g3, g4, g5⟩ := hq
        refine PTok_opL hB hs m r.1 _ _ ⟨?_, g2, ?_, ?_, ?_⟩
        · simp only at h1; show p0 < r.1; omega
        · show 0 < (cs ++ r.2.2 ++ [opOf lv (B p)]).length
          simp only [List.length_append, List.length_cons, List.length_nil]
          omega
        · show (cs ++ r.2.2 ++ [opOf lv (B p)]).length ≤ r.1 - p0
          simp only [List.length_append, List.length_cons, List.length_nil]
          simp only at h1 h4
          omega
        · intro c' hc'
          simp only [List.mem_append, List.mem_cons, List.not_mem_nil, or_false] at hc'
          rcases hc' with (z | z) | z
          · exact h5 c' z
          · exact g5 c' z
          · rw [z]; exact GC_op c
theorem PTok_un {n p : Nat} {x : PT} {w : Int32} (hw : w < 0) (hw' : ¬ w = -14) (f : Den → Den) : PTok n (p + 1) x → PTok n p (match x with
          | .inl q => .inl q
          | .inr r => .inr (r.1, f r.2.1, r.2.2 ++ [w])) := by
  intro h
  match x, h with
  | .inl q, h => exact ⟨by have := h.1; omega, h.2⟩
  | .inr r, h =>
    obtain ⟨g1, g2, g3, g4, g5⟩ := h
    refine ⟨?_, g2, ?_, ?_, ?_⟩
    · show p < r.1; omega
    · show 0 < (r.2.2 ++ [w]).length
      simp only [List.length_append, List.length_cons, List.length_nil]
      omega
    · show (r.2.2 ++ [w]).length ≤ r.1 - p
      simp only [List.length_append, List.length_cons, List.length_nil]
      omega
    · intro c' hc'
      simp only [List.mem_append, List.mem_cons, List.not_mem_nil, or_false] at hc'
      rcases hc' with z | z
      · exact g5 c' z
      · rw [z]; exact GC_neg hw hw'
theorem PTok_pP {B : Nat → Int32} {n : Nat} (hB : ∀ p, n ≤ p → B p = 0) : ∀ (F lv o p : Nat), p ≤ n → PTok n p (pP B F lv o p)
  | 0, lv, o, p, hp => ⟨Nat.le_refl _, hp⟩
  | F + 1, lv, o, p, hp => by
    have ih := PTok_pP hB F
    unfold pP
    by_cases c5 : lv < 5
    · rw [if_pos c5]
      have h1 := ih (lv + 1) o p hp
      generalize pP B F (lv + 1) o p = x at h1
      match x, h1 with
      | .inl q, h1 => exact h1
      | .inr r, h1 => exact PTok_opL hB (fun p hp => ih (lv + 1) o p hp) _ _ _ _ h1
    · rw [if_neg c5]
      by_cases cd : B p < 48 ∨ 57 < B p
      · rw [if_pos cd]
        have hne : ∀ k : Int32, B p = k → ¬ k = 0 → p < n := fun k ek hk => by
          refine Nat.lt_of_not_le (fun z => hk ?_)
          rw [← ek, hB p z]
        cases hn : nmOf (B p) with
        | some k =>
          have hk := nmOf_lt hn
          have hpn : p < n := by
            refine Nat.lt_of_not_le (fun z => ?_)
            rw [hB p z] at hn
            cases hn
          refine ⟨Nat.lt_succ_self _, hpn, Nat.one_pos, ?_, ?_⟩
          · show 1 ≤ p + 1 - p; omega
          · intro c' hc'
            simp only [List.mem_cons, List.not_mem_nil, or_false] at hc'
            rw [hc']
            have e1 : (10000 : Int32) + nI k = nI (10000 + k) := nI_add 10000 k
            refine ⟨by rw [e1]; exact nI_nn (by omega) (by decide), fun _ => ⟨k, hk, ?_⟩⟩
            rw [show (10000 : Int32) = nI 10000 from rfl, nI_add, pk_sub (by omega), show 10000 + k - 10000 = k by omega]
        | none =>
          simp only
          by_cases c6 : 6 ≤ o
          · rw [if_pos c6]; exact ⟨Nat.le_refl _, hp⟩
          · rw [if_neg c6]
            by_cases c40 : B p = 40
            · rw [if_pos c40]
              have hpn := hne _ c40 (by decide)
              have h1 := ih 0 (o + 1) (p + 1) hpn
              generalize pP B F 0 (o + 1) (p + 1) = x at h1
              match x, h1 with
              | .inl q, h1 => exact ⟨by have := h1.1; omega, h1.2⟩
              | .inr r, h1 =>
                obtain ⟨g1, g2, g3, g4, g5⟩ := h1
                simp only
                by_cases c41 : B r.1 = 41
                · rw [if_pos c41]
                  have hrn : r.1 < n := by
                    refine Nat.lt_of_not_le (fun z => ?_)
                    rw [hB _ z] at c41
                    exact absurd c41 (by decide)
                  refine ⟨?_, hrn, g3, ?_, g5⟩
                  · show p < r.1 + 1; omega
                  · show r.2.2.length ≤ r.1 + 1 - p; omega
                · rw [if_neg c41]
                  exact ⟨by omega, g2⟩
            · rw [if_neg c40]
              by_cases c33 : B p = 33
              · rw [if_pos c33]
                have hpn := hne _ c33 (by decide)
                exact PTok_un (w := -11) (by decide) (by decide) (fun e nm => if e nm = 0 then 1 else 0) (ih 5 (o + 1) (p + 1) hpn)
              · rw [if_neg c33]
                by_cases c45 : B p = 45
                · rw [if_pos c45]
                  have hpn := hne _ c45 (by decide)
                  exact PTok_un (w := -12) (by decide) (by decide) (fun e nm => -(e nm)) (ih 5 (o + 1) (p + 1) hpn)
                · rw [if_neg c45]
                  exact ⟨Nat.le_refl _, hp⟩
      · rw [if_neg cd]
        obtain ⟨h1, h2, k, h3, h4⟩ := numL_lt hB hp cd
        refine ⟨h1, h2, Nat.one_pos, ?_, ?_⟩
        · show 1 ≤ (numL B 4 p 0).1 - p; omega
        · intro c' hc'
          simp only [List.mem_cons, List.not_mem_nil, or_false] at hc'
          rw [hc', h3]
          refine ⟨nI_nn (by omega) (by decide), fun hz => ?_⟩
          exfalso
          have := (nI_leI (a := 10000) (b := k) (by decide) (by omega)).mp hz
          omega
/-- codes worked out: one more number on the stack -/
def Cds (cd : Nat → Int32) : Nat → List Int32 → Prop
  | _, [] => True
  | q, c :: r => cd q = c ∧ Cds cd (q + 1) r
theorem Cds_app {cd : Nat → Int32} : ∀ (a b : List Int32) (q : Nat), Cds cd q (a ++ b) → Cds cd q a ∧ Cds cd (q + a.length) b
  | [], b, q, h => ⟨trivial, h⟩
  | c :: r, b, q, h => by
    obtain ⟨h1, h2⟩ := (h : cd q = c ∧ Cds cd (q + 1) (r ++ b))
    obtain ⟨g1, g2⟩ := Cds_app r b (q + 1) h2
    refine ⟨⟨h1, g1⟩, ?_⟩
    rw [show q + (c :: r).length = q + 1 + r.length by simp only [List.length_cons]; omega]
    exact g2
theorem Cds_mem {cd : Nat → Int32} {P : Int32 → Prop} : ∀ (a : List Int32) (q : Nat), Cds cd q a → (∀ c, c ∈ a → P c) → ∀ j, j < a.length → P (cd (q + j))
  | [], q, _, _, j, hj => absurd hj (Nat.not_lt_zero _)
  | c :: r, q, h, g, 0, _ => by
    have h1 : cd q = c := h.1
    rw [Nat.add_zero, h1]
    exact g c (List.mem_cons_self)
  | c :: r, q, h, g, j + 1, hj => by
    have := Cds_mem r (q + 1) h.2 (fun c' hc' => g c' (List.mem_cons_of_mem _ hc')) j (by simp only [List.length_cons] at hj; omega)
    rw [show q + (j + 1) = q + 1 + j by omega]
    exact this
def EvOk (h : Nat) (e : Den) (cs : List Int32) : Prop := ∀ (cd nm : Nat → Int32) (m q top : Nat) (st : Nat → Int32), Cds cd q cs → top + h ≤ 64 → ∃ st', evC cd nm (cs.length + m) q top st false = evC cd nm m (q + cs.length) (top + 1) st' false ∧ st' top = e nm ∧ ∀ i, i < top → st' i = st i
theorem EvOk.mono {h h' : Nat} {e : Den} {cs : List Int32} (a : EvOk h e cs) (hh : h ≤ h') : EvOk h' e cs := fun cd nm m q top st hc ht => a cd nm m q top st hc (by omega)
theorem EvOk_push {k : Nat} (hk : k < 10000) : EvOk 1 (fun _ => nI k) [nI k] := by
  intro cd nm m q top st hc ht
  have e0 : cd q = nI k := hc.1
  refine ⟨upd st top (nI k), ?_, pk_us, fun i hi => pk_un (by omega)⟩
  rw [show [nI k].length + m = m + 1 by simp only [List.length_cons, List.length_nil]; omega]
  conv => lhs; unfold evC
  rw [if_neg (by decide), e0, if_neg (nI_nn (by omega) (by decide)), if_neg (nI_nn (by omega) (by decide)), if_neg (fun z => z.elim (nI_pos (by omega)) (by omega)), if_neg (fun z => by
    have := (nI_leI (a := 10000) (b := k) (by decide) (by omega)).mp z
    omega)]
  rfl
theorem EvOk_name {k : Nat} (hk : k < 6) : EvOk 1 (fun nm => nm k) [10000 + nI k] := by
  intro cd nm m q top st hc ht
  have e1 : (10000 : Int32) + nI k = nI (10000 + k) := nI_add 10000 k
  have e2 : nI (10000 + k) - (10000 : Int32) = nI k := by
    rw [show (10000 : Int32) = nI 10000 from rfl, pk_sub (by omega), show 10000 + k - 10000 = k by omega]
  have e0 : cd q = nI (10000 + k) := hc.1.trans e1
  refine ⟨upd st top (nm k), ?_, pk_us, fun i hi => pk_un (by omega)⟩
  rw [show [10000 + nI k].length + m = m + 1 by simp only [List.length_cons, List.length_nil]; omega]
  conv => lhs; unfold evC
  rw [if_neg (by decide), e0, if_neg (nI_nn (by omega) (by decide)), if_neg (nI_nn (by omega) (by decide)), if_neg (fun z => z.elim (nI_pos (by omega)) (by omega)), if_pos (show (10000 : Int32) ≤ nI (10000 + k) from (nI_leI (a := 10000) (b := 10000 + k) (by decide) (by omega)).mpr (by omega)), e2, nIc (by omega)]
  rfl
theorem EvOk_not {h : Nat} {e : Den} {cs : List Int32} (a : EvOk h e cs) : EvOk h (fun nm => if e nm = 0 then 1 else 0) (cs ++ [-11]) := by
  intro cd nm m q top st hc ht
  obtain ⟨c1, c2⟩ := Cds_app _ _ _ hc
  have e0 : cd (q + cs.length) = -11 := c2.1
  obtain ⟨st', h1, h2, h3⟩ := a cd nm (m + 1) q top st c1 ht
  refine ⟨upd st' top (if st' top = 0 then 1 else 0), ?_, by rw [pk_us, h2], fun i hi => (pk_un (by omega)).trans (h3 i hi)⟩
  rw [show (cs ++ [(-11 : Int32)]).length + m = cs.length + (m + 1) by simp only [List.length_append, List.length_cons, List.length_nil]; omega, h1]
  conv => lhs; unfold evC
  rw [if_neg (by decide), e0, if_neg (by decide), if_neg (by decide), if_pos (Or.inl (by decide)), if_pos ⟨rfl, by omega⟩]
  rw [show q + (cs ++ [(-11 : Int32)]).length = q + cs.length + 1 by simp only [List.length_append, List.length_cons, List.length_nil]; omega]
  rfl
theorem EvOk_neg {h : Nat} {e : Den} {cs : List Int32} (a : EvOk h e cs) : EvOk h (fun nm => -(e nm)) (cs ++ [-12]) := by
  intro cd nm m q top st hc ht
  obtain ⟨c1, c2⟩ := Cds_app _ _ _ hc
  have e0 : cd (q + cs.length) = -12 := c2.1
  obtain ⟨st', h1, h2, h3⟩ := a cd nm (m + 1) q top st c1 ht
  refine ⟨upd st' top (-(st' top)), ?_, by rw [pk_us, h2], fun i hi => (pk_un (by omega)).trans (h3 i hi)⟩
  rw [show (cs ++ [(-12 : Int32)]).length + m = cs.length + (m + 1) by simp only [List.length_append, List.length_cons, List.length_nil]; omega, h1]
  conv => lhs; unfold evC
  rw [if_neg (by decide), e0, if_neg (by decide), if_neg (by decide), if_pos (Or.inl (by decide)), if_neg (fun z => absurd z.1 (by decide)), if_pos ⟨rfl, by omega⟩]
  rw [show q + (cs ++ [(-12 : Int32)]).length = q + cs.length + 1 by simp only [List.length_append, List.length_cons, List.length_nil]; omega]
  rfl
theorem EvOk_bin {h h2 : Nat} {e e2 : Den} {cs c2 : List Int32} {w : Int32} (hw : w < 0 ∧ ¬ w = -14 ∧ ¬ w = -13 ∧ ¬ w = -11 ∧ ¬ w = -12) (a : EvOk h e cs) (b : EvOk h2 e2 c2) (hh : h2 + 1 ≤ h) : EvOk h (fun nm => joinV w (e nm) (e2 nm)) (cs ++ c2 ++ [w]) := by
  intro cd nm m q top st hc ht
  obtain ⟨c12, c3⟩ := Cds_app _ _ _ hc
  obtain ⟨c1, c2'⟩ := Cds_app _ _ _ c12
  have e0 : cd (q + cs.length + c2.length) = w := by
    have := c3.1
    rw [List.length_append, ← Nat.add_assoc] at this
    exact this
  obtain ⟨st', h1, h2, h3⟩ := a cd nm (c2.length + (m + 1)) q top st c1 ht
  obtain ⟨st2, g1, g2, g3⟩ := b cd nm (m + 1) (q + cs.length) (top + 1) st' c2' (by omega)
  refine ⟨upd st2 top (joinV w (st2 top) (st2 (top + 1))), ?_, by rw [pk_us, g2, g3 top (by omega), h2], fun i hi => (pk_un (by omega)).trans ((g3 i (by omega)).trans (h3 i hi))⟩
  rw [show (cs ++ c2 ++ [w]).length + m = cs.length + (c2.length + (m + 1)) by simp only [List.length_append, List.length_cons, List.length_nil]; omega, h1, g1]
  conv => lhs; unfold evC
  rw [if_neg (by decide), e0, if_neg hw.2.1, if_neg hw.2.2.1, if_pos (Or.inl hw.1), if_neg (fun z => absurd z.1 hw.2.2.2.1), if_neg (fun z => absurd z.1 hw.2.2.2.2), if_neg (by omega)]
  rw [show q + (cs ++ c2 ++ [w]).length = q + cs.length + c2.length + 1 by simp only [List.length_append, List.length_cons, List.length_nil]; omega]
  rfl
theorem opOf_w {lv : Nat} {b : Int32} (h : ¬ opOf lv b = 0) : opOf lv b < 0 ∧ ¬ opOf lv b = -14 ∧ ¬ opOf lv b = -13 ∧ ¬ opOf lv b = -11 ∧ ¬ opOf lv b = -12 := by
  rcases opOf_neg lv b h with e | e | e | e | e | e | e | e | e | e <;> rw [e] <;> decide
theorem Ev_opL {B : Nat → Int32} {n h lv : Nat} (hB : ∀ p, n ≤ p → B p = 0) {sub : Nat → PT} (hs : ∀ p r, p ≤ n → sub p = .inr r → EvOk h r.2.1 r.2.2 ∧ r.1 ≤ n) : ∀ (m p : Nat) (e : Den) (cs : List Int32) (r : Nat × Den × List Int32), p ≤ n → EvOk (h + 1) e cs → opL B lv sub m p e cs = .inr r → EvOk (h + 1) r.2.1 r.2.2
  | 0, p, e, cs, r, hp, he, hr => by
    cases hr
    exact he
  | m + 1, p, e, cs, r, hp, he, hr => by
    unfold opL at hr
    by_cases c : opOf lv (B p) = 0
    · rw [if_pos c] at hr
      cases hr
      exact he
    · rw [if_neg c] at hr
      have hpn : p < n := by
        refine Nat.lt_of_not_le (fun z => ?_)
        rw [hB p z] at c
        exact c (opOf_z lv)
      have hq := fun r' => hs (p + 1) r' hpn
      generalize sub (p + 1) = x at hq hr
      match x, hq, hr with
      | .inl q, _, hr => cases hr
      | .inr r', hq, hr =>
        obtain ⟨g1, g2⟩ := hq r' rfl
        exact Ev_opL hB hs m r'.1 _ _ r g2 (EvOk_bin (opOf_w c) he g1 (Nat.le_refl _)) hr
def hh (lv o : Nat) : Nat := (5 - lv) + 6 * (6 - o) + 1
theorem Ev_pP {B : Nat → Int32} {n : Nat} (hB : ∀ p, n ≤ p → B p = 0) : ∀ (F lv o p : Nat) (r : Nat × Den × List Int32), lv ≤ 5 → o ≤ 6 → p ≤ n → pP B F lv o p = .inr r → EvOk (hh lv o) r.2.1 r.2.2
  | 0, lv, o, p, r, hlv, ho, hp, hr => by cases hr
  | F + 1, lv, o, p, r, hlv, ho, hp, hr => by
    have ih := Ev_pP hB F
    unfold pP at hr
    by_cases c5 : lv < 5
    · rw [if_pos c5] at hr
      have h1 := fun r => ih (lv + 1) o p r (by omega) ho hp
      have k1 := PTok_pP hB F (lv + 1) o p hp
      have ehh : hh lv o = hh (lv + 1) o + 1 := by unfold hh; omega
      generalize pP B F (lv + 1) o p = x at h1 hr k1
      match x, h1, hr, k1 with
      | .inl q, _, hr, _ => cases hr
      | .inr r', h1, hr, k1 =>
        rw [ehh]
        refine Ev_opL (h := hh (lv + 1) o) hB (fun p2 r2 hp2 hr2 => ⟨ih (lv + 1) o p2 r2 (by omega) ho hp2 hr2, ?_⟩) _ _ _ _ r k1.2.1 ((h1 r' rfl).mono (Nat.le_succ _)) hr
        have k2 := PTok_pP hB F (lv + 1) o p2 hp2
        rw [hr2] at k2
        exact k2.2.1
    · rw [if_neg c5] at hr
      have h1h : 1 ≤ hh lv o := by unfold hh; omega
      by_cases cd : B p < 48 ∨ 57 < B p
      · rw [if_pos cd] at hr
        have hne : ∀ k : Int32, B p = k → ¬ k = 0 → p < n := fun k ek hk => by
          refine Nat.lt_of_not_le (fun z => hk ?_)
          rw [← ek, hB p z]
        cases hn : nmOf (B p) with
        | some k =>
          rw [hn] at hr
          cases hr
          exact (EvOk_name (nmOf_lt hn)).mono h1h
        | none =>
          rw [hn] at hr
          simp only at hr
          by_cases c6 : 6 ≤ o
          · rw [if_pos c6] at hr; cases hr
          · rw [if_neg c6] at hr
            by_cases c40 : B p = 40
            · rw [if_pos c40] at hr
              have h1 := fun r => ih 0 (o + 1) (p + 1) r (by omega) (by omega) (hne _ c40 (by decide))
              generalize pP B F 0 (o + 1) (p + 1) = x at h1 hr
              match x, h1, hr with
              | .inl q, _, hr => cases hr
              | .inr r', h1, hr =>
                simp only at hr
                by_cases c41 : B r'.1 = 41
                · rw [if_pos c41] at hr
                  cases hr
                  exact (h1 r' rfl).mono (by unfold hh; omega)
                · rw [if_neg c41] at hr; cases hr
            · rw [if_neg c40] at hr
              have h1 := fun r (hpn : p < n) => ih 5 (o + 1) (p + 1) r (by omega) (by omega) hpn
              by_cases c33 : B p = 33
              · rw [if_pos c33] at hr
                have hpn := hne _ c33 (by decide)
                generalize pP B F 5 (o + 1) (p + 1) = x at h1 hr
                match x, h1, hr with
                | .inl q, _, hr => cases hr
                | .inr r', h1, hr =>
                  cases hr
                  exact EvOk_not ((h1 r' hpn rfl).mono (by unfold hh; omega))
              · rw [if_neg c33] at hr
                by_cases c45 : B p = 45
                · rw [if_pos c45] at hr
                  have hpn := hne _ c45 (by decide)
                  generalize pP B F 5 (o + 1) (p + 1) = x at h1 hr
                  match x, h1, hr with
                  | .inl q, _, hr => cases hr
                  | .inr r', h1, hr =>
                    cases hr
                    exact EvOk_neg ((h1 r' hpn rfl).mono (by unfold hh; omega))
                · rw [if_neg c45] at hr; cases hr
      · rw [if_neg cd] at hr
        obtain ⟨h1, h2, k, h3, h4⟩ := numL_lt hB hp cd
        rw [h3] at hr
        cases hr
        exact (EvOk_push h4).mono h1h
/-- codes passed by -/
theorem ev_pass {cd nm : Nat → Int32} : ∀ (cs : List Int32) (m q top : Nat) (st : Nat → Int32), (∀ c, c ∈ cs → ¬ c = -14) → Cds cd q cs → evC cd nm (cs.length + m) q top st true = evC cd nm m (q + cs.length) top st true
  | [], m, q, top, st, _, _ => by
    rw [show ([] : List Int32).length + m = m by simp]
    rfl
  | c :: r, m, q, top, st, h, hc => by
    have ih := ev_pass (nm := nm) r m (q + 1) top st (fun c' hc' => h c' (List.mem_cons_of_mem _ hc')) hc.2
    rw [show (c :: r).length + m = (r.length + m) + 1 by simp only [List.length_cons]; omega]
    conv => lhs; unfold evC
    have e0 : cd q = c := hc.1
    rw [if_pos rfl, e0, decide_eq_true (h c (List.mem_cons_self)), ih]
    rw [show q + (c :: r).length = q + 1 + r.length by simp only [List.length_cons]; omega]
def LnEv (c e : Den) (cs : List Int32) : Prop := ∀ (cd nm : Nat → Int32) (m q : Nat) (st : Nat → Int32), Cds cd q cs → (¬ c nm = 0 → evC cd nm (cs.length + m) q 0 st false = e nm) ∧ (c nm = 0 → ∃ st', evC cd nm (cs.length + m) q 0 st false = evC cd nm m (q + cs.length) 0 st' false)
theorem Ev_pLn {B : Nat → Int32} {n p : Nat} (hB : ∀ p, n ≤ p → B p = 0) (hp : p ≤ n) (r : Nat × Den × Den × List Int32) (hr : pLn B p = .inr r) : LnEv r.2.1 r.2.2.1 r.2.2.2 ∧ p < r.1 ∧ r.1 ≤ n ∧ 0 < r.2.2.2.length ∧ r.2.2.2.length ≤ r.1 - p + 1 ∧ ∀ c, c ∈ r.2.2.2 → (10000 ≤ c → ∃ q, q < 6 ∧ c - 10000 = nI q) := by
  unfold pLn at hr
  have h1 := fun r => Ev_pP hB 60 0 0 p r (by decide) (by decide) hp
  have k1 := PTok_pP hB 60 0 0 p hp
  generalize pP B 60 0 0 p = x at h1 hr k1
  match x, h1, hr, k1 with
  | .inl q, _, hr, _ => cases hr
  | .inr r', h1, hr, k1 =>
    simp only at hr
    obtain ⟨k1, k2, k3, k4, k5⟩ := k1
    have h1 := h1 r' rfl
    by_cases c63 : B r'.1 = 63
    · rw [if_pos c63] at hr
      have hpn : r'.1 < n := by
        refine Nat.lt_of_not_le (fun z => ?_)
        rw [hB _ z] at c63
        exact absurd c63 (by decide)
      have g1 := fun r => Ev_pP hB 60 0 0 (r'.1 + 1) r (by decide) (by decide) hpn
      have l1 := PTok_pP hB 60 0 0 (r'.1 + 1) hpn
      generalize pP B 60 0 0 (r'.1 + 1) = y at g1 hr l1
      match y, g1, hr, l1 with
      | .inl q, _, hr, _ => cases hr
      | .inr u, g1, hr, l1 =>
        cases hr
        obtain ⟨l1, l2, l3, l4, l5⟩ := l1
        have g1 := g1 u rfl
        dsimp only
        refine ⟨?_, by omega, l2, ?_, ?_, ?_⟩
        · intro cd nm m q st hc
          obtain ⟨c123, c4⟩ := Cds_app _ _ _ hc
          obtain ⟨c12, c3⟩ := Cds_app _ _ _ c123
          obtain ⟨c1, c2⟩ := Cds_app _ _ _ c12
          have e13 : cd (q + r'.2.2.length) = -13 := c2.1
          have c3' : Cds cd (q + r'.2.2.length + 1) u.2.2 := by
            rw [show q + r'.2.2.length + 1 = q + (r'.2.2 ++ [(-13 : Int32)]).length by simp only [List.length_append, List.length_cons, List.length_nil]; omega]
            exact c3
          have e14 : cd (q + r'.2.2.length + 1 + u.2.2.length) = -14 := by
            rw [show q + r'.2.2.length + 1 + u.2.2.length = q + (r'.2.2 ++ [(-13 : Int32)] ++ u.2.2).length by simp only [List.length_append, List.length_cons, List.length_nil]; omega]
            exact c4.1
          obtain ⟨st1, q1, q2, q3⟩ := h1 cd nm (u.2.2.length + (m + 1) + 1) q 0 st c1 (by decide)
          have el : (r'.2.2 ++ [(-13 : Int32)] ++ u.2.2 ++ [(-14 : Int32)]).length + m = r'.2.2.length + (u.2.2.length + (m + 1) + 1) := by simp only [List.length_append, List.length_cons, List.length_nil]; omega
          have ez : evC cd nm ((r'.2.2 ++ [-13] ++ u.2.2 ++ [-14]).length + m) q 0 st false = evC cd nm (u.2.2.length + (m + 1)) (q + r'.2.2.length + 1) 0 st1 (decide (r'.2.1 nm = 0)) := by
            rw [el, q1]
            conv => lhs; unfold evC
            rw [if_neg (by decide), e13, if_neg (by decide), if_pos rfl, q2]
          refine ⟨fun z => ?_, fun z => ?_⟩
          · rw [decide_eq_false z] at ez
            obtain ⟨st2, w1, w2, w3⟩ := g1 cd nm (m + 1) (q + r'.2.2.length + 1) 0 st1 c3' (by decide)
            refine ez.trans (w1.trans ?_)
            conv => lhs; unfold evC
            rw [if_neg (by decide), e14, if_pos rfl, if_neg (by omega)]
            exact w2
          · rw [decide_eq_true z, ev_pass u.2.2 (m + 1) _ 0 st1 (fun c hc' => (l5 c hc').1) c3'] at ez
            refine ⟨st1, ez.trans ?_⟩
            conv => lhs; unfold evC
            rw [if_pos rfl, e14, decide_eq_false (by decide)]
            rw [show q + (r'.2.2 ++ [(-13 : Int32)] ++ u.2.2 ++ [(-14 : Int32)]).length = q + r'.2.2.length + 1 + u.2.2.length + 1 by simp only [List.length_append, List.length_cons, List.length_nil]; omega]
        · simp only [List.length_append, List.length_cons, List.length_nil]; omega
        · simp only [List.length_append, List.length_cons, List.length_nil]; omega
        · intro c hc
          simp only [List.mem_append, List.mem_cons, List.not_mem_nil, or_false] at hc
          rcases hc with ((z | z) | z) | z
          · exact (k5 c z).2
          · rw [z]; exact GC_neg' (by decide)
          · exact (l5 c z).2
          · rw [z]; exact GC_neg' (by decide)
    · rw [if_neg c63] at hr
      cases hr
      dsimp only
      refine ⟨?_, k1, k2, ?_, ?_, ?_⟩
      · intro cd nm m q st hc
        obtain ⟨c1, c2⟩ := Cds_app _ _ _ hc
        have e14 : cd (q + r'.2.2.length) = -14 := c2.1
        refine ⟨fun _ => ?_, fun z => absurd (show (1 : Int32) = 0 from z) (by decide)⟩
        obtain ⟨st1, q1, q2, q3⟩ := h1 cd nm (m + 1) q 0 st c1 (by decide)
        rw [show (r'.2.2 ++ [(-14 : Int32)]).length + m = r'.2.2.length + (m + 1) by simp only [List.length_append, List.length_cons, List.length_nil]; omega, q1]
        conv => lhs; unfold evC
        rw [if_neg (by decide), e14, if_pos rfl, if_neg (by omega)]
        exact q2
      · simp only [List.length_append, List.length_cons, List.length_nil]; omega
      · simp only [List.length_append, List.length_cons, List.length_nil]; omega
      · intro c hc
        simp only [List.mem_append, List.mem_cons, List.not_mem_nil, or_false] at hc
        rcases hc with z | z
        · exact (k5 c z).2
        · rw [z]; exact GC_neg' (by decide)
theorem pLn_le {B : Nat → Int32} {n p q : Nat} (hB : ∀ p, n ≤ p → B p = 0) (hp : p ≤ n) (hr : pLn B p = .inl q) : p ≤ q ∧ q ≤ n := by
  unfold pLn at hr
  have k1 := PTok_pP hB 60 0 0 p hp
  generalize pP B 60 0 0 p = x at hr k1
  match x, hr, k1 with
  | .inl q', hr, k1 => cases hr; exact k1
  | .inr r', hr, k1 =>
    simp only at hr
    by_cases c63 : B r'.1 = 63
    · rw [if_pos c63] at hr
      have hpn : r'.1 < n := by
        refine Nat.lt_of_not_le (fun z => ?_)
        rw [hB _ z] at c63
        exact absurd c63 (by decide)
      have l1 := PTok_pP hB 60 0 0 (r'.1 + 1) hpn
      generalize pP B 60 0 0 (r'.1 + 1) = y at hr l1
      match y, hr, l1 with
      | .inl q', hr, l1 => cases hr; exact ⟨by have := k1.1; have := l1.1; omega, l1.2⟩
      | .inr u, hr, _ => cases hr
    · rw [if_neg c63] at hr; cases hr
theorem Ev_pTx {B : Nat → Int32} {n : Nat} (hB : ∀ p, n ≤ p → B p = 0) : ∀ (F p : Nat) (r : Den × List Int32), p ≤ n → pTx B n F p = .inr r → (∀ (cd nm : Nat → Int32) (q : Nat) (st : Nat → Int32), Cds cd q r.2 → evC cd nm r.2.length q 0 st false = r.1 nm) ∧ 0 < r.2.length ∧ r.2.length ≤ n - p + 1 ∧ ∀ c, c ∈ r.2 → (10000 ≤ c → ∃ q, q < 6 ∧ c - 10000 = nI q)
  | 0, p, r, hp, hr => by cases hr
  | F + 1, p, r, hp, hr => by
    have ih := Ev_pTx hB F
    unfold pTx at hr
    have h1 := Ev_pLn hB hp
    generalize pLn B p = x at h1 hr
    match x, h1, hr with
    | .inl q, _, hr => cases hr
    | .inr v, h1, hr =>
      obtain ⟨h1, h2, h3, h4, h5, h6⟩ := h1 v rfl
      simp only at hr
      by_cases cn : n ≤ v.1
      · rw [if_pos cn] at hr
        cases hr
        refine ⟨?_, h4, by show v.2.2.2.length ≤ _; omega, h6⟩
        intro cd nm q st hc
        obtain ⟨a1, a2⟩ := h1 cd nm 0 q st hc
        show evC cd nm v.2.2.2.length q 0 st false = if v.2.1 nm = 0 then 0 else v.2.2.1 nm
        by_cases z : v.2.1 nm = 0
        · rw [if_pos z]
          obtain ⟨st', e⟩ := a2 z
          exact e
        · rw [if_neg z]
          exact a1 z
      · rw [if_neg cn] at hr
        by_cases c59 : B v.1 = 59
        · rw [if_pos c59] at hr
          have i1 := fun r => ih (v.1 + 1) r (by omega)
          generalize pTx B n F (v.1 + 1) = y at i1 hr
          match y, i1, hr with
          | .inl q, _, hr => cases hr
          | .inr u, i1, hr =>
            cases hr
            obtain ⟨i1, i2, i3, i4⟩ := i1 u rfl
            refine ⟨?_, by show 0 < (v.2.2.2 ++ u.2).length; rw [List.length_append]; omega, by show (v.2.2.2 ++ u.2).length ≤ _; rw [List.length_append]; omega, ?_⟩
            · intro cd nm q st hc
              obtain ⟨c1, c2⟩ := Cds_app _ _ _ hc
              obtain ⟨a1, a2⟩ := h1 cd nm u.2.length q st c1
              show evC cd nm (v.2.2.2 ++ u.2).length q 0 st false = if v.2.1 nm = 0 then u.1 nm else v.2.2.1 nm
              rw [List.length_append]
              by_cases z : v.2.1 nm = 0
              · rw [if_pos z]
                obtain ⟨st', e⟩ := a2 z
                exact e.trans (i1 cd nm _ st' c2)
              · rw [if_neg z]
                exact a1 z
            · intro c hc
              simp only [List.mem_append] at hc
              exact hc.elim (h6 c) (i4 c)
        · rw [if_neg c59] at hr; cases hr
/-- a byte of a text: 0 behind its end -/
def bT (t : Nat → Int32) (n p : Nat) : Int32 := if p < n then t p else 0
theorem bT_out {t : Nat → Int32} {n : Nat} : ∀ p, n ≤ p → bT t n p = 0 := fun p h => if_neg (by omega)
theorem pTx_inl {B : Nat → Int32} {n : Nat} (hB : ∀ p, n ≤ p → B p = 0) : ∀ (F p q : Nat), p ≤ n → pTx B n F p = .inl q → q ≤ n
  | 0, p, q, hp, hr => by cases hr; exact hp
  | F + 1, p, q, hp, hr => by
    unfold pTx at hr
    have h1 := Ev_pLn hB hp
    have h0 := fun q => pLn_le (q := q) hB hp
    generalize pLn B p = x at h1 h0 hr
    match x, h1, h0, hr with
    | .inl q', _, h0, hr => cases hr; exact (h0 q rfl).2
    | .inr v, h1, _, hr =>
      obtain ⟨h1, h2, h3, h4, h5, h6⟩ := h1 v rfl
      simp only at hr
      by_cases cn : n ≤ v.1
      · rw [if_pos cn] at hr; cases hr
      · rw [if_neg cn] at hr
        by_cases c59 : B v.1 = 59
        · rw [if_pos c59] at hr
          have i1 := fun q => pTx_inl hB F (v.1 + 1) q (by omega)
          generalize pTx B n F (v.1 + 1) = y at i1 hr
          match y, i1, hr with
          | .inl q', i1, hr => cases hr; exact i1 q rfl
          | .inr u, _, hr => cases hr
        · rw [if_neg c59] at hr; cases hr; exact h3
theorem evC_congr {cd nm nm' : Nat → Int32} {len : Nat} (hg : ∀ j, j < len → 10000 ≤ cd j → ∃ q, q < 6 ∧ cd j - 10000 = nI q) (hn : ∀ j, j < 6 → nm j = nm' j) : ∀ (m p top : Nat) (st : Nat → Int32) (ps : Bool), p + m ≤ len → evC cd nm m p top st ps = evC cd nm' m p top st ps
  | 0, _, _, _, _, _ => rfl
  | m + 1, p, top, st, ps, h => by
    have ih : ∀ top st ps, evC cd nm m (p + 1) top st ps = evC cd nm' m (p + 1) top st ps := fun top st ps => evC_congr hg hn m (p + 1) top st ps (by omega)
    have e : (if 10000 ≤ cd p then nm (cd p - 10000).toNatClampNeg else cd p) = (if 10000 ≤ cd p then nm' (cd p - 10000).toNatClampNeg else cd p) := by
      split
      · rename_i hz
        obtain ⟨q, hq, eq⟩ := hg p (by omega) hz
        rw [eq, nIc (by omega)]
        exact hn q hq
      · rfl
    unfold evC
    simp only [ih, e]
theorem Cds_ge {cd cd' : Nat → Int32} : ∀ (cs : List Int32) (q : Nat), (∀ j, q ≤ j → j < q + cs.length → cd' j = cd j) → Cds cd q cs → Cds cd' q cs
  | [], _, _, _ => trivial
  | c :: r, q, h, hc => ⟨(h q (Nat.le_refl _) (by simp only [List.length_cons]; omega)).trans hc.1, Cds_ge r (q + 1) (fun j h1 h2 => h j (by omega) (by simp only [List.length_cons]; omega)) hc.2⟩
theorem Cds_ex : ∀ (cs : List Int32) (q : Nat), ∃ cd, Cds cd q cs
  | [], _ => ⟨fun _ => 0, trivial⟩
  | c :: r, q => by
    obtain ⟨cd, h⟩ := Cds_ex r (q + 1)
    exact ⟨fun j => if j = q then c else cd j, if_pos rfl, Cds_ge r (q + 1) (fun j h1 _ => if_neg (by omega)) h⟩
theorem Cds_snoc {cd : Nat → Int32} {w : Int32} : ∀ (cs : List Int32) (q : Nat), Cds cd q cs → cd (q + cs.length) = w → Cds cd q (cs ++ [w])
  | [], q, _, h => ⟨h, trivial⟩
  | c :: r, q, h, g => ⟨h.1, Cds_snoc r (q + 1) h.2 (by rw [show q + 1 + r.length = q + (c :: r).length by simp only [List.length_cons]; omega]; exact g)⟩
/-- the worth of a text is that of the six names alone -/
theorem pTx_den {t : Nat → Int32} {n : Nat} {r : Den × List Int32} (hr : pTx (bT t n) n 121 0 = .inr r) {nm nm' : Nat → Int32} (hn : ∀ j, j < 6 → nm j = nm' j) : r.1 nm = r.1 nm' := by
  obtain ⟨a1, a2, a3, a4⟩ := Ev_pTx bT_out 121 0 r (Nat.zero_le _) hr
  obtain ⟨cd, hc⟩ := Cds_ex r.2 0
  rw [← a1 cd nm 0 (fun _ => 0) hc, ← a1 cd nm' 0 (fun _ => 0) hc]
  refine evC_congr (len := r.2.length) (fun j hj => ?_) hn _ _ _ _ _ (by omega)
  have := Cds_mem r.2 0 hc a4 j hj
  rw [Nat.zero_add] at this
  exact this
/-- what the class holds, if its codes are those of a text -/
theorem LawC_of {H : pmT} {t : Nat → Int32} {n : Nat} {r : Den × List Int32} (hn : n ≤ 120) (hr : pTx (bT t n) n 121 0 = .inr r) (h2 : H.2.2.2 = 16 ∨ H.2.2.2 = 17) (hl : H.1 14 6 = nI r.2.length) (hc : Cds (H.1 H.2.2.2) 0 r.2) : LawC (some r.1) H := by
  obtain ⟨a1, a2, a3, a4⟩ := Ev_pTx bT_out 121 0 r (Nat.zero_le _) hr
  have hg : ∀ j, j < r.2.length → 10000 ≤ H.1 H.2.2.2 j → ∃ q, q < 6 ∧ H.1 H.2.2.2 j - 10000 = nI q := fun j hj => by
    have := Cds_mem r.2 0 hc a4 j hj
    rw [Nat.zero_add] at this
    exact this
  refine ⟨h2, r.2.length, a2, by omega, hl, hg, fun st nm nm' hnm => ?_⟩
  rw [evC_congr hg hnm _ _ _ _ _ (by omega)]
  exact a1 _ _ _ _ hc
