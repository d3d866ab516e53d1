/-! what is meant: bars as rows of numbers, playings and nights; positions and frames -/
/-- right, wrong, marked, played, came right -/
abbrev Row : Type := Nat × Nat × Nat × Nat × Nat
def W_help (hb : Nat → Nat) (r : Row) (s : Nat) : Nat := (if s = 1 then hb 0 else 0) + (if r.2.2.1 = 1 then hb 1 else 0)
def W_came (hb : Nat → Nat) (r : Row) (s : Nat) : Nat := if r.2.1 < r.1 + W_help hb r s then 1 else 0
abbrev Law : Type := Option ((Nat → Int32) → Int32)
def W_nm (r : Row) (s c : Nat) : Nat → Int32 := fun j => match j with
  | 0 => nI r.1
  | 1 => nI r.2.1
  | 2 => nI c
  | 3 => nI s
  | 4 => nI r.2.2.1
  | _ => nI r.2.2.2.1
def W_give (L : Law) (r : Row) (s c : Nat) : Nat := match L with
  | none => max 1 (6 + 2 * c - (2 * s + r.2.2.2.1))
  | some f => min 99 (f (W_nm r s c)).toNatClampNeg
def W_learn (r : Row) (c v : Nat) : Row := if c = 1 then (min 999 (r.1 + v), r.2) else (r.1, min 999 (r.2.1 + v), r.2.2)
def W_count (r : Row) (c : Nat) : Row := (r.1, r.2.1, r.2.2.1, r.2.2.2.1 + 1, r.2.2.2.2 + c)
def W_play (hb : Nat → Nat) (L : Law) (r : Row) (s : Nat) : Row := W_count (W_learn r (W_came hb r s) (W_give L r s (W_came hb r s))) (W_came hb r s)
def W_right (r : Row) (f : Nat) : Nat := r.1 - r.1 * f / 12
def W_wrong (hb : Nat → Nat) (r : Row) (f : Nat) : Nat := min 999 (r.2.1 - r.2.1 * f / 12 + hb 3 * r.2.2.2.2 / 2)
def W_sleep (hb : Nat → Nat) (r : Row) (f : Nat) : Row := (W_right r f, W_wrong hb r f, r.2.2.1, 0, 0)
/-- a row whose numbers are in their ranges -/
def RV (k : Nat) (r : Row) : Prop := r.1 ≤ 999 ∧ r.2.1 ≤ 999 ∧ r.2.2.1 ≤ 1 ∧ r.2.2.2.1 ≤ k ∧ r.2.2.2.2 ≤ k
def HV (hb : Nat → Nat) : Prop := hb 0 ≤ 99 ∧ hb 1 ≤ 99 ∧ hb 2 ≤ 12 ∧ hb 3 ≤ 9 ∧ hb 4 ≤ 99
theorem RV.mono {k k' : Nat} {r : Row} (h : RV k r) (hk : k ≤ k') : RV k' r := ⟨h.1, h.2.1, h.2.2.1, Nat.le_trans h.2.2.2.1 hk, Nat.le_trans h.2.2.2.2 hk⟩
theorem W_came_le (hb : Nat → Nat) (r : Row) (s : Nat) : W_came hb r s ≤ 1 := by unfold W_came; split <;> omega
theorem W_give_le (L : Law) (r : Row) (s c : Nat) (hc : c ≤ 1) : W_give L r s c ≤ 99 := by
  unfold W_give
  split <;> omega
theorem RV_learn {k : Nat} {r : Row} (h : RV k r) (c v : Nat) : RV k (W_learn r c v) := by
  obtain ⟨h1, h2, h3, h4, h5⟩ := h
  unfold W_learn
  split
  · exact ⟨Nat.min_le_left _ _, h2, h3, h4, h5⟩
  · exact ⟨h1, Nat.min_le_left _ _, h3, h4, h5⟩
theorem RV_play {k : Nat} {r : Row} (hb : Nat → Nat) (L : Law) (h : RV k r) (s : Nat) : RV (k + 1) (W_play hb L r s) := by
  have hc := W_came_le hb r s
  obtain ⟨h1, h2, h3, h4, h5⟩ := RV_learn h (W_came hb r s) (W_give L r s (W_came hb r s))
  exact ⟨h1, h2, h3, Nat.succ_le_succ h4, by show _ + _ ≤ _; omega⟩
theorem RV_sleep {k : Nat} {r : Row} (hb : Nat → Nat) (h : RV k r) (f : Nat) : RV 0 (W_sleep hb r f) := by
  obtain ⟨h1, h2, h3, h4, h5⟩ := h
  refine ⟨?_, Nat.min_le_left _ _, h3, Nat.le_refl _, Nat.le_refl _⟩
  show W_right r f ≤ 999
  unfold W_right
  omega
/-! numbers -/
theorem nIc {n : Nat} (h : n < 2 ^ 31) : (nI n).toNatClampNeg = n := nI_clamp h
theorem lit_nI (n : Nat) : (OfNat.ofNat n : Int32) = nI n := rfl
theorem pm_max_nI {a b : Nat} (ha : a < 2 ^ 31) (hb : b < 2 ^ 31) : pm_max (nI a) (nI b) = nI (max a b) := by
  unfold pm_max
  split
  · rename_i h; rw [nI_ltI ha hb] at h; congr 1; omega
  · rename_i h; rw [nI_ltI ha hb] at h; congr 1; omega
theorem pm_min_nI {a b : Nat} (ha : a < 2 ^ 31) (hb : b < 2 ^ 31) : pm_min (nI a) (nI b) = nI (min a b) := by
  unfold pm_min
  split
  · rename_i h; rw [nI_ltI hb ha] at h; congr 1; omega
  · rename_i h; rw [nI_ltI hb ha] at h; congr 1; omega
/-! positions: an object's field by itself, a row as a whole -/
def pm_ob (o : Nat) : Bool := match pm_SH[o]? with
  | some (.inl _) => true
  | _ => false
def pm_cd (o k : Nat) : Nat := cond (pm_ob o) (100 * o + 1 + k) (100 * o)
def pm_has : List Nat → Nat → Bool
  | [], _ => false
  | x :: r, c => Nat.beq x c || pm_has r c
def fr (S : List Nat) (H H' : pmT) : Prop := (∀ o k, pm_has S (pm_cd o k) = false → H'.1 o k = H.1 o k) ∧ H'.2 = H.2
theorem fr.rf {S : List Nat} {H : pmT} : fr S H H := ⟨fun _ _ _ => rfl, rfl⟩
theorem fr.tr {S : List Nat} {H H1 H2 : pmT} (a : fr S H H1) (b : fr S H1 H2) : fr S H H2 := ⟨fun o k h => (b.1 o k h).trans (a.1 o k h), b.2.trans a.2⟩
theorem pm_has_sub {S S' : List Nat} (h : S.all (fun c => pm_has S' c) = true) : ∀ c, pm_has S c = true → pm_has S' c = true := by
  induction S with
  | nil => intro c hc; cases hc
  | cons x r ih =>
    intro c hc
    rw [List.all_cons, Bool.and_eq_true] at h
    unfold pm_has at hc
    rw [Bool.or_eq_true] at hc
    rcases hc with e | e
    · rw [← Nat.eq_of_beq_eq_true e]; exact h.1
    · exact ih h.2 c e
theorem fr.mono {S S' : List Nat} {H H' : pmT} (a : fr S H H') (h : S.all (fun c => pm_has S' c) = true) : fr S' H H' := ⟨fun o k hk => a.1 o k (by
  cases e : pm_has S (pm_cd o k) with
  | false => rfl
  | true => rw [pm_has_sub h _ e] at hk; cases hk), a.2⟩
theorem fr.up {S : List Nat} {H H1 : pmT} (a : fr S H H1) {o k : Nat} {v : Int32} (h : pm_has S (pm_cd o k) = true) : fr S H (pm_up H1.1 o k v, H1.2) := ⟨fun o' k' h' => by
  have hne : ¬ (o' = o ∧ k' = k) := fun ⟨e1, e2⟩ => by rw [e1, e2, h] at h'; cases h'
  show pm_up H1.1 o k v o' k' = _
  by_cases ho : o' = o
  · subst ho
    rw [pm_up_self, pk_un (fun z => hne ⟨rfl, z⟩)]
    exact a.1 o' k' h'
  · rw [pm_up_ne _ _ _ ho]; exact a.1 o' k' h', a.2⟩
theorem fr.row {S : List Nat} {H H1 : pmT} (a : fr S H H1) {o : Nat} {f : Nat → Int32} (h : ∀ k, pm_has S (pm_cd o k) = true) : fr S H (va_up H1.1 o f, H1.2) := ⟨fun o' k' h' => by
  show va_up H1.1 o f o' k' = _
  by_cases ho : o' = o
  · subst ho; rw [h k'] at h'; cases h'
  · rw [va_up_ne _ _ ho]; exact a.1 o' k' h', a.2⟩
/-! bars in the heap: now, in thought, in the image; the reference's, kept and in thought -/
def NR (H : pmT) (b : Nat) (r : Row) : Prop := H.1 3 b = nI r.1 ∧ H.1 4 b = nI r.2.1 ∧ H.1 5 b = nI r.2.2.1 ∧ H.1 6 b = nI r.2.2.2.1 ∧ H.1 7 b = nI r.2.2.2.2
def TR (H : pmT) (b : Nat) (r : Row) : Prop := H.1 9 b = nI r.1 ∧ H.1 10 b = nI r.2.1 ∧ H.1 11 b = nI r.2.2.1 ∧ H.1 12 b = nI r.2.2.2.1 ∧ H.1 13 b = nI r.2.2.2.2
def IR (H : pmT) (b : Nat) (r : Row) : Prop := H.1 37 b = nI r.1 ∧ H.1 38 b = nI r.2.1 ∧ H.1 39 b = nI r.2.2.1 ∧ H.1 40 b = nI r.2.2.2.1 ∧ H.1 41 b = nI r.2.2.2.2
def PR (H : pmT) (b : Nat) (r : Row) : Prop := H.1 56 b = nI r.1 ∧ H.1 56 (12 + b) = nI r.2.1 ∧ H.1 56 (24 + b) = nI r.2.2.1 ∧ H.1 60 b = nI r.2.2.2.1 ∧ H.1 61 b = nI r.2.2.2.2
def MR (H : pmT) (b : Nat) (r : Row) : Prop := H.1 65 b = nI r.1 ∧ H.1 66 b = nI r.2.1 ∧ H.1 56 (24 + b) = nI r.2.2.1 ∧ H.1 67 b = nI r.2.2.2.1 ∧ H.1 68 b = nI r.2.2.2.2
/-- the habits -/
def CHb (hb : Nat → Nat) (H : pmT) : Prop := H.1 20 0 = nI (hb 0) ∧ H.1 20 1 = nI (hb 1) ∧ H.1 20 2 = nI (hb 2) ∧ H.1 20 3 = nI (hb 3) ∧ H.1 20 4 = nI (hb 4)
def MHb (hb : Nat → Nat) (H : pmT) : Prop := H.1 56 36 = nI (hb 0) ∧ H.1 56 37 = nI (hb 1) ∧ H.1 56 38 = nI (hb 2) ∧ H.1 56 39 = nI (hb 3) ∧ H.1 56 40 = nI (hb 4)
/-! branches whose condition is known -/
theorem bt {c A B : Prop} (h : c) (a : A) : (c → A) ∧ (¬ c → B) := ⟨fun _ => a, fun n => absurd h n⟩
theorem bf {c A B : Prop} (h : ¬ c) (b : B) : (c → A) ∧ (¬ c → B) := ⟨fun q => absurd q h, fun _ => b⟩
theorem nt {c A B : Prop} (h : c) (b : B) : (¬ c → A) ∧ (c → B) := ⟨fun n => absurd h n, fun _ => b⟩
theorem nf {c A B : Prop} (h : ¬ c) (a : A) : (¬ c → A) ∧ (c → B) := ⟨fun _ => a, fun q => absurd q h⟩
/-! frames that speak of one place of some rows: S changes anywhere, the rows R at b alone -/
def fb (S R : List Nat) (b : Nat) (H H' : pmT) : Prop := (∀ o k, pm_has S (pm_cd o k) = false → (pm_has R o = false ∨ k ≠ b) → H'.1 o k = H.1 o k) ∧ H'.2 = H.2
theorem fb.rf {S R : List Nat} {b : Nat} {H : pmT} : fb S R b H H := ⟨fun _ _ _ _ => rfl, rfl⟩
theorem fb.tr {S R : List Nat} {b : Nat} {H H1 H2 : pmT} (x : fb S R b H H1) (y : fb S R b H1 H2) : fb S R b H H2 := ⟨fun o k h g => (y.1 o k h g).trans (x.1 o k h g), y.2.trans x.2⟩
theorem fb.up {S R : List Nat} {b : Nat} {H H1 : pmT} (a : fb S R b H H1) {o k : Nat} {v : Int32} (h : pm_has S (pm_cd o k) = true) : fb S R b H (pm_up H1.1 o k v, H1.2) := ⟨fun o' k' h' g => by
  have hne : ¬ (o' = o ∧ k' = k) := fun ⟨e1, e2⟩ => by rw [e1, e2, h] at h'; cases h'
  show pm_up H1.1 o k v o' k' = _
  by_cases ho : o' = o
  · subst ho
    rw [pm_up_self, pk_un (fun z => hne ⟨rfl, z⟩)]
    exact a.1 o' k' h' g
  · rw [pm_up_ne _ _ _ ho]; exact a.1 o' k' h' g, a.2⟩
theorem fb.upR {S R : List Nat} {b : Nat} {H H1 : pmT} (a : fb S R b H H1) {o : Nat} {v : Int32} (h : pm_has R o = true) : fb S R b H (pm_up H1.1 o b v, H1.2) := ⟨fun o' k' h' g => by
  show pm_up H1.1 o b v o' k' = _
  by_cases ho : o' = o
  · subst ho
    rw [pm_up_self, pk_un (fun z => by
      rcases g with g | g
      · rw [h] at g; cases g
      · exact g z)]
    exact a.1 o' k' h' g
  · rw [pm_up_ne _ _ _ ho]; exact a.1 o' k' h' g, a.2⟩
theorem fb.mono {S S' R R' : List Nat} {b : Nat} {H H' : pmT} (a : fb S R b H H') (h : S.all (fun c => pm_has S' c) = true) (g : R.all (fun c => pm_has R' c) = true) : fb S' R' b H H' := ⟨fun o k hk gk => a.1 o k (by
  cases e : pm_has S (pm_cd o k) with
  | false => rfl
  | true => rw [pm_has_sub h _ e] at hk; cases hk) (by
  rcases gk with gk | gk
  · refine Or.inl ?_
    cases e : pm_has R o with
    | false => rfl
    | true => rw [pm_has_sub g _ e] at gk; cases gk
  · exact Or.inr gk), a.2⟩
theorem fb.fr {S S' R : List Nat} {b : Nat} {H H' : pmT} (a : fb S R b H H') (h : S.all (fun c => pm_has S' c) = true) (g : R.all (fun o => !pm_ob o && pm_has S' (100 * o)) = true) : fr S' H H' := ⟨fun o k hk => a.1 o k (by
  cases e : pm_has S (pm_cd o k) with
  | false => rfl
  | true => rw [pm_has_sub h _ e] at hk; cases hk) (by
  refine Or.inl ?_
  cases e : pm_has R o with
  | false => rfl
  | true =>
    exfalso
    have hx : ∀ (R : List Nat), R.all (fun o => !pm_ob o && pm_has S' (100 * o)) = true → pm_has R o = true → (!pm_ob o && pm_has S' (100 * o)) = true := by
      intro R
      induction R with
      | nil => intro _ q; cases q
      | cons x r ih =>
        intro q1 q2
        rw [List.all_cons, Bool.and_eq_true] at q1
        unfold pm_has at q2
        rw [Bool.or_eq_true] at q2
        rcases q2 with z | z
        · rw [← Nat.eq_of_beq_eq_true z]; exact q1.1
        · exact ih q1.2 z
    have := hx R g e
    rw [Bool.and_eq_true] at this
    have ho : pm_ob o = false := by simpa using this.1
    unfold pm_cd at hk
    rw [ho] at hk
    rw [show cond false (100 * o + 1 + k) (100 * o) = 100 * o from rfl, this.2] at hk
    cases hk), a.2⟩
theorem fr.fb {S R : List Nat} {b : Nat} {H H' : pmT} (a : fr S H H') : fb S R b H H' := ⟨fun o k h _ => a.1 o k h, a.2⟩
theorem NR.fb {S R : List Nat} {b b' : Nat} {H H' : pmT} {r : Row} (h : NR H b' r) (a : fb S R b H H') (g : (pm_has S 300 || (pm_has S 400 || (pm_has S 500 || (pm_has S 600 || pm_has S 700)))) = false) (n : b' ≠ b) : NR H' b' r := by
  simp only [Bool.or_eq_false_iff] at g
  exact ⟨(a.1 3 b' g.1 (Or.inr n)).trans h.1, (a.1 4 b' g.2.1 (Or.inr n)).trans h.2.1, (a.1 5 b' g.2.2.1 (Or.inr n)).trans h.2.2.1, (a.1 6 b' g.2.2.2.1 (Or.inr n)).trans h.2.2.2.1, (a.1 7 b' g.2.2.2.2 (Or.inr n)).trans h.2.2.2.2⟩
theorem NR.fr {S : List Nat} {b' : Nat} {H H' : pmT} {r : Row} (h : NR H b' r) (a : fr S H H') (g : (pm_has S 300 || (pm_has S 400 || (pm_has S 500 || (pm_has S 600 || pm_has S 700)))) = false) : NR H' b' r := by
  simp only [Bool.or_eq_false_iff] at g
  exact ⟨(a.1 3 b' g.1).trans h.1, (a.1 4 b' g.2.1).trans h.2.1, (a.1 5 b' g.2.2.1).trans h.2.2.1, (a.1 6 b' g.2.2.2.1).trans h.2.2.2.1, (a.1 7 b' g.2.2.2.2).trans h.2.2.2.2⟩
theorem TR.fb {S R : List Nat} {b b' : Nat} {H H' : pmT} {r : Row} (h : TR H b' r) (a : fb S R b H H') (g : (pm_has S 900 || (pm_has S 1000 || (pm_has S 1100 || (pm_has S 1200 || pm_has S 1300)))) = false) (n : b' ≠ b) : TR H' b' r := by
  simp only [Bool.or_eq_false_iff] at g
  exact ⟨(a.1 9 b' g.1 (Or.inr n)).trans h.1, (a.1 10 b' g.2.1 (Or.inr n)).trans h.2.1, (a.1 11 b' g.2.2.1 (Or.inr n)).trans h.2.2.1, (a.1 12 b' g.2.2.2.1 (Or.inr n)).trans h.2.2.2.1, (a.1 13 b' g.2.2.2.2 (Or.inr n)).trans h.2.2.2.2⟩
theorem TR.fr {S : List Nat} {b' : Nat} {H H' : pmT} {r : Row} (h : TR H b' r) (a : fr S H H') (g : (pm_has S 900 || (pm_has S 1000 || (pm_has S 1100 || (pm_has S 1200 || pm_has S 1300)))) = false) : TR H' b' r := by
  simp only [Bool.or_eq_false_iff] at g
  exact ⟨(a.1 9 b' g.1).trans h.1, (a.1 10 b' g.2.1).trans h.2.1, (a.1 11 b' g.2.2.1).trans h.2.2.1, (a.1 12 b' g.2.2.2.1).trans h.2.2.2.1, (a.1 13 b' g.2.2.2.2).trans h.2.2.2.2⟩
