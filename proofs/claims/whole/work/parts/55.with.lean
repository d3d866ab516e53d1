/-! with so many playings: the class takes the cheapest, the reference tries all sets -/
def W_sm (w : Nat → Nat) (P : Nat → Bool) : Nat → Nat
  | 0 => 0
  | n + 1 => W_sm w P n + (if P n = true then w n else 0)
theorem W_sm_congr {w : Nat → Nat} {P Q : Nat → Bool} : ∀ {n : Nat}, (∀ k, k < n → P k = Q k) → W_sm w P n = W_sm w Q n
  | 0, _ => rfl
  | n + 1, h => by
    unfold W_sm
    rw [W_sm_congr (fun k hk => h k (by omega)), h n (by omega)]
theorem W_sm_add {w : Nat → Nat} {P Q : Nat → Bool} {b : Nat} (hb : P b = false) (hq : ∀ k, Q k = (P k || decide (k = b))) : ∀ n, W_sm w Q n = W_sm w P n + (if b < n then w b else 0)
  | 0 => rfl
  | n + 1 => by
    have ih := W_sm_add (w := w) hb hq n
    unfold W_sm
    rw [ih, hq n]
    by_cases c : n = b
    · subst c
      rw [hb]
      simp
    · rw [show (P n || decide (n = b)) = P n by simp [c]]
      by_cases c2 : b < n
      · rw [if_pos c2, if_pos (show b < n + 1 by omega)]
        generalize (if P n = true then w n else 0) = z
        omega
      · rw [if_neg c2, if_neg (show ¬ b < n + 1 by omega)]
        generalize (if P n = true then w n else 0) = z
        omega
theorem W_cnt_add {P Q : Nat → Bool} {b : Nat} (hb : P b = false) (hq : ∀ k, Q k = (P k || decide (k = b))) : ∀ n, W_cnt Q n = W_cnt P n + (if b < n then 1 else 0)
  | 0 => rfl
  | n + 1 => by
    have ih := W_cnt_add hb hq n
    unfold W_cnt
    rw [ih, hq n]
    by_cases c : n = b
    · subst c
      rw [hb]
      simp
    · rw [show (P n || decide (n = b)) = P n by simp [c]]
      by_cases c2 : b < n
      · rw [if_pos c2, if_pos (show b < n + 1 by omega)]
        generalize (if P n = true then 1 else 0) = z
        omega
      · rw [if_neg c2, if_neg (show ¬ b < n + 1 by omega)]
        generalize (if P n = true then 1 else 0) = z
        omega
/-- a set that holds all up to a threshold is cheapest of its size -/
theorem W_thr {w : Nat → Nat} {P X : Nat → Bool} {th : Nat} : ∀ n, (∀ x, x < n → P x = true → w x ≤ th) → (∀ y, y < n → P y = false → th ≤ w y) → W_sm w P n + th * W_cnt X n ≤ W_sm w X n + th * W_cnt P n
  | 0, _, _ => Nat.le_refl _
  | n + 1, h1, h2 => by
    have ih := W_thr (w := w) (P := P) (X := X) (th := th) n (fun x hx => h1 x (by omega)) (fun y hy => h2 y (by omega))
    have a1 := h1 n (by omega)
    have a2 := h2 n (by omega)
    unfold W_sm W_cnt
    rw [Nat.mul_add, Nat.mul_add]
    cases hp : P n <;> cases hx : X n <;> simp only [if_true, if_false, Bool.false_eq_true, Nat.mul_one, Nat.mul_zero, Nat.add_zero] <;> rw [hp] at a1 a2 <;> simp at a1 a2 <;> omega
theorem W_thr_ex {w : Nat → Nat} {P : Nat → Bool} : ∀ n, (∀ x y, x < n → y < n → P x = true → P y = false → w x ≤ w y) → ∃ th, (∀ x, x < n → P x = true → w x ≤ th) ∧ (∀ y, y < n → P y = false → th ≤ w y)
  | 0, _ => ⟨0, fun x hx => by omega, fun y hy => by omega⟩
  | n + 1, h => by
    obtain ⟨th, h1, h2⟩ := W_thr_ex (w := w) (P := P) n (fun x y hx hy => h x y (by omega) (by omega))
    cases hp : P n with
    | true =>
      refine ⟨max th (w n), fun x hx px => ?_, fun y hy py => ?_⟩
      · by_cases c : x = n
        · rw [c]; omega
        · have := h1 x (by omega) px; omega
      · by_cases c : y = n
        · rw [c, hp] at py; cases py
        · have q1 := h2 y (by omega) py
          have q2 := h n y (by omega) hy hp py
          omega
    | false =>
      refine ⟨min th (w n), fun x hx px => ?_, fun y hy py => ?_⟩
      · by_cases c : x = n
        · rw [c, hp] at px; cases px
        · have q1 := h1 x (by omega) px
          have q2 := h x n hx (by omega) px hp
          omega
      · by_cases c : y = n
        · rw [c]; omega
        · have := h2 y (by omega) py; omega
def wt (c : Nat → Nat) (b : Nat) : Nat := c b * 4096 + 2 ^ b
theorem pow12 {b : Nat} (h : b < 12) : 2 ^ b < 4096 := by
  have : 2 ^ b < 2 ^ 12 := Nat.pow_lt_pow_right (by decide) h
  exact this
theorem wt_sm {c : Nat → Nat} {P : Nat → Bool} : ∀ n, W_sm (wt c) P n = 4096 * W_sm c P n + W_set P n
  | 0 => rfl
  | n + 1 => by
    have ih := wt_sm (c := c) (P := P) n
    unfold W_sm W_set
    rw [ih]
    have e : wt c n = c n * 4096 + 2 ^ n := rfl
    rw [e]
    generalize 2 ^ n = p
    cases P n <;> simp only [if_true, if_false, Bool.false_eq_true] <;> omega
theorem W_set_id {X n : Nat} (h : X < 2 ^ n) : W_set (fun k => X.testBit k) n = X := by
  apply Nat.eq_of_testBit_eq
  intro k
  rw [W_set_bit]
  by_cases c : k < n
  · simp [c]
  · simp only [c, decide_false, Bool.false_and]
    symm
    exact Nat.testBit_lt_two_pow (Nat.lt_of_lt_of_le h (Nat.pow_le_pow_right (by decide) (by omega)))
def Tb (X : Nat) : Nat → Bool := fun k => X.testBit k
def Better (c : Nat → Nat) (n B X : Nat) : Prop := W_cnt (Tb X) n < W_cnt (Tb B) n ∨ (W_cnt (Tb X) n = W_cnt (Tb B) n ∧ (W_sm c (Tb B) n < W_sm c (Tb X) n ∨ (W_sm c (Tb B) n = W_sm c (Tb X) n ∧ B ≤ X)))
def Low (c : Nat → Nat) (n S : Nat) : Prop := ∀ x y, x < n → y < n → Tb S x = true → Tb S y = false → wt c x ≤ wt c y
theorem cheap_ok {c : Nat → Nat} {S n : Nat} (hn12 : n ≤ 12) : ∀ (m b : Nat) (best : Option Nat), b + m = n → (match best with
      | none => ∀ y, y < b → Tb S y = true
      | some a => a < b ∧ Tb S a = false ∧ ∀ y, y < b → Tb S y = false → wt c a ≤ wt c y) → (match W_cheap c S m b best with
      | none => ∀ y, y < n → Tb S y = true
      | some a => a < n ∧ Tb S a = false ∧ ∀ y, y < n → Tb S y = false → wt c a ≤ wt c y)
  | 0, b, best, hb, h => by
    have e : b = n := by omega
    rw [e] at h
    exact h
  | m + 1, b, best, hb, h => by
    unfold W_cheap
    by_cases cS : S.testBit b = true
    · rw [if_pos cS]
      refine cheap_ok hn12 m (b + 1) best (by omega) ?_
      cases best with
      | none =>
        intro y hy
        by_cases e : y = b
        · rw [e]; exact cS
        · exact h y (by omega)
      | some a =>
        refine ⟨by have := h.1; omega, h.2.1, fun y hy ty => ?_⟩
        by_cases e : y = b
        · rw [e] at ty; unfold Tb at ty; rw [cS] at ty; cases ty
        · exact h.2.2 y (by omega) ty
    · rw [if_neg cS]
      have tb : Tb S b = false := by unfold Tb; simpa using cS
      cases best with
      | none =>
        refine cheap_ok hn12 m (b + 1) (some b) (by omega) ⟨Nat.lt_succ_self _, tb, fun y hy ty => ?_⟩
        by_cases e : y = b
        · rw [e]; exact Nat.le_refl _
        · rw [h y (by omega)] at ty; cases ty
      | some a =>
        obtain ⟨h1, h2, h3⟩ := h
        have pa : 2 ^ a < 2 ^ b := Nat.pow_lt_pow_right (by decide) h1
        have pb := pow12 (show b < 12 by omega)
        simp only
        by_cases cc : c a ≤ c b
        · rw [if_pos cc]
          refine cheap_ok hn12 m (b + 1) (some a) (by omega) ⟨by omega, h2, fun y hy ty => ?_⟩
          by_cases e : y = b
          · rw [e]; unfold wt; omega
          · exact h3 y (by omega) ty
        · rw [if_neg cc]
          refine cheap_ok hn12 m (b + 1) (some b) (by omega) ⟨Nat.lt_succ_self _, tb, fun y hy ty => ?_⟩
          by_cases e : y = b
          · rw [e]; exact Nat.le_refl _
          · have := h3 y (by omega) ty
            have pa0 := Nat.two_pow_pos a
            have q : wt c b ≤ wt c a := by unfold wt; omega
            omega
theorem wt_c {c : Nat → Nat} {x y : Nat} (hx : x < 12) (hy : y < 12) (h : wt c x ≤ wt c y) : c x ≤ c y := by
  have p1 := pow12 hx
  have p2 := pow12 hy
  unfold wt at h
  generalize 2 ^ x = p at h p1
  generalize 2 ^ y = q at h p2
  omega
theorem or_bit (S b k : Nat) : Tb (S ||| 2 ^ b) k = (Tb S k || decide (k = b)) := by
  unfold Tb
  rw [Nat.testBit_or, Nat.testBit_two_pow]
  congr 1
  exact decide_eq_decide.mpr ⟨fun z => z.symm, fun z => z.symm⟩
theorem choose_ok {c : Nat → Nat} {n N : Nat} (hn12 : n ≤ 12) : ∀ (m S P : Nat), W_cnt (Tb S) n + m = n → S < 2 ^ n → Low c n S → W_sm c (Tb S) n = P → P ≤ N → (W_choose c n N m S P).1 < 2 ^ n ∧ Low c n (W_choose c n N m S P).1 ∧ W_sm c (Tb (W_choose c n N m S P).1) n = (W_choose c n N m S P).2 ∧ (W_choose c n N m S P).2 ≤ N ∧ ∀ X, W_sm c (Tb X) n ≤ N → W_cnt (Tb X) n ≤ W_cnt (Tb (W_choose c n N m S P).1) n
  | 0, S, P, h1, h2, h3, h4, h5 => ⟨h2, h3, h4, h5, fun X _ => by
    show W_cnt (Tb X) n ≤ W_cnt (Tb S) n
    have := W_cnt_le (Tb X) n
    omega⟩
  | m + 1, S, P, h1, h2, h3, h4, h5 => by
    unfold W_choose
    have hc := cheap_ok (c := c) (S := S) hn12 n 0 none (by omega) (fun y hy => by omega)
    cases ec : W_cheap c S n 0 none with
    | none =>
      rw [ec] at hc
      exfalso
      have hall : ∀ k, (∀ y, y < k → Tb S y = true) → W_cnt (Tb S) k = k := by
        intro k
        induction k with
        | zero => intro _; rfl
        | succ k ih =>
          intro h
          unfold W_cnt
          rw [ih (fun y hy => h y (by omega)), if_pos (h k (by omega))]
      have := hall n hc
      omega
    | some b =>
      rw [ec] at hc
      obtain ⟨hb, tb, hmin⟩ := hc
      simp only
      by_cases cN : P + c b ≤ N
      · rw [if_pos cN]
        have hq := or_bit S b
        refine choose_ok hn12 m (S ||| 2 ^ b) (P + c b) ?_ ?_ ?_ ?_ cN
        · rw [W_cnt_add tb hq n, if_pos hb]; omega
        · exact Nat.or_lt_two_pow h2 (Nat.pow_lt_pow_right (by decide) hb)
        · intro x y hx hy tx ty
          rw [hq] at tx ty
          simp only [Bool.or_eq_true, Bool.or_eq_false_iff, decide_eq_true_eq, decide_eq_false_iff_not] at tx ty
          rcases tx with tx | tx
          · exact h3 x y hx hy tx ty.1
          · rw [tx]; exact hmin y hy ty.1
        · rw [W_sm_add tb hq n, if_pos hb, h4]
      · rw [if_neg cN]
        refine ⟨h2, h3, h4, h5, fun X hX => ?_⟩
        show W_cnt (Tb X) n ≤ W_cnt (Tb S) n
        have ht := W_thr (w := c) (P := Tb S) (X := Tb X) (th := c b) n (fun x hx tx => wt_c (by omega) (by omega) (h3 x b hx hb tx tb)) (fun y hy ty => wt_c (by omega) (by omega) (hmin y hy ty))
        refine Nat.le_of_not_lt (fun hlt => ?_)
        have hm : c b * (W_cnt (Tb S) n + 1) ≤ c b * W_cnt (Tb X) n := Nat.mul_le_mul_left _ hlt
        rw [Nat.mul_add, Nat.mul_one] at hm
        omega
theorem choose_best {c : Nat → Nat} {n N : Nat} (hn12 : n ≤ 12) : ∀ X, X < 2 ^ n → W_sm c (Tb X) n ≤ N → Better c n (W_choose c n N n 0 0).1 X := by
  have c0 : ∀ n, W_cnt (Tb 0) n = 0 := by
    intro n
    induction n with
    | zero => rfl
    | succ n ih => unfold W_cnt; rw [ih]; simp [Tb]
  have s0 : ∀ n, W_sm c (Tb 0) n = 0 := by
    intro n
    induction n with
    | zero => rfl
    | succ n ih => unfold W_sm; rw [ih]; simp [Tb]
  obtain ⟨h1, h2, h3, h4, h5⟩ := choose_ok (c := c) (N := N) hn12 n 0 0 (by rw [c0]; omega) (Nat.two_pow_pos n) (fun x y hx hy tx ty => by simp [Tb] at tx) (s0 n) (Nat.zero_le _)
  intro X hX hf
  generalize (W_choose c n N n 0 0).1 = G at h1 h2 h3 h5
  have hc := h5 X hf
  by_cases ce : W_cnt (Tb X) n < W_cnt (Tb G) n
  · exact Or.inl ce
  · have ee : W_cnt (Tb X) n = W_cnt (Tb G) n := by omega
    obtain ⟨th, t1, t2⟩ := W_thr_ex (w := wt c) (P := Tb G) n h2
    have ht := W_thr (w := wt c) (P := Tb G) (X := Tb X) (th := th) n t1 t2
    rw [ee, wt_sm, wt_sm, show W_set (Tb G) n = G from W_set_id h1, show W_set (Tb X) n = X from W_set_id hX] at ht
    have p1 : 2 ^ n ≤ 2 ^ 12 := Nat.pow_le_pow_right (by decide) hn12
    refine Or.inr ⟨ee, ?_⟩
    omega
/-! the reference: how few playings each bar takes -/
def Wp (hb : Nat → Nat) (L : Law) : Nat → Row → Row
  | 0, r => r
  | j + 1, r => W_play hb L (Wp hb L j r) 1
theorem RV_Wp {hb : Nat → Nat} {L : Law} {k : Nat} {r : Row} (h : RV k r) : ∀ j, RV (k + j) (Wp hb L j r)
  | 0 => h
  | j + 1 => RV_play hb L (RV_Wp h j) 1
def cI (v : Nat) : Int32 := if v ≤ 60 then nI v else -1
def W_fw (hb : Nat → Nat) (L : Law) (r : Row) (j : Nat) : Int32 := cI (W_cost hb L (61 - j) j (Wp hb L j r))
theorem lp_fewIn {d n b j : Nat} {hb : Nat → Nat} {L : Law} {now : Nat → Row} {K : pmT → Prop} {H0 : pmT} (hM : MS hb L n now H0) (ef : H0.1 55 23 = nI (hb 2)) (hbn : b < n) (hj : j ≤ 60) (kk : ∀ H', fr JP H0 H' → pm_RW none (d + 80) M_Mo_findsFewest (pm_v K) 24 [(0, .ref 55), (1, .int (nI b)), (2, .int (nI j + (-1 : Int32)))] [] (pm_up H'.1 69 b (if W_wrong hb (Wp hb L j (now b)) (hb 2) < W_right (Wp hb L j (now b)) (hb 2) then nI j else H0.1 69 b), H'.2)) : ∀ (m i : Nat) (H : pmT), i + m = j → fr JP H0 H → MR H b (Wp hb L i (now b)) → pm_RW none (d + 80) M_Mo_findsFewest (pm_v K) 35 [(0, .ref 55), (1, .int (nI b)), (2, .int (nI j)), (3, .int (nI i))] [] H
  | 0, i, H, hi, hf, hR => by
    have hn12 := hM.2.2.1
    have e : i = j := by omega
    subst e
    refine b_Mo_findsFewest_35 _ _ _ ?_
    first | refine bt (nI_le (Nat.le_refl i) (show i < 2 ^ 31 by omega)) ?_ | refine bf (nI_le (Nat.le_refl i) (show i < 2 ^ 31 by omega)) ?_ | refine nt (nI_le (Nat.le_refl i) (show i < 2 ^ 31 by omega)) ?_ | refine nf (nI_le (Nat.le_refl i) (show i < 2 ^ 31 by omega)) ?_
    have hX1 := hM.1.fr hf rfl rfl
    have hV := RV_Wp (hb := hb) (L := L) (hM.2.2.2.2 b hbn) i
    refine c_nightM hX1.1 hX1.2.1 ((hf.1 55 23 rfl).trans ef) hR hV (by omega) (by omega) hX1.2.1.2.2.1 (fun H1 f1 hR1 => ?_)
    have hVs := RV_sleep hb hV (hb 2)
    have hf1 : fr JP H0 H1 := hf.tr (f1.fr rfl rfl)
    rw [nIc (show b < 2 ^ 31 by omega), hR1.1, hR1.2.1, i_le _ _ (by have := hVs.1; omega) (by have := hVs.2.1; omega)]
    refine ⟨vp_in_nI (by omega) (by decide), ?_⟩
    have k1 := kk H1 hf1
    by_cases c : W_wrong hb (Wp hb L i (now b)) (hb 2) < W_right (Wp hb L i (now b)) (hb 2)
    · rw [if_pos c] at k1
      first | refine bt (show ¬ (W_sleep hb (Wp hb L i (now b)) (hb 2)).1 ≤ (W_sleep hb (Wp hb L i (now b)) (hb 2)).2.1 from fun z => absurd c (Nat.not_lt.mpr z)) ?_ | refine bf (show ¬ (W_sleep hb (Wp hb L i (now b)) (hb 2)).1 ≤ (W_sleep hb (Wp hb L i (now b)) (hb 2)).2.1 from fun z => absurd c (Nat.not_lt.mpr z)) ?_ | refine nt (show ¬ (W_sleep hb (Wp hb L i (now b)) (hb 2)).1 ≤ (W_sleep hb (Wp hb L i (now b)) (hb 2)).2.1 from fun z => absurd c (Nat.not_lt.mpr z)) ?_ | refine nf (show ¬ (W_sleep hb (Wp hb L i (now b)) (hb 2)).1 ≤ (W_sleep hb (Wp hb L i (now b)) (hb 2)).2.1 from fun z => absurd c (Nat.not_lt.mpr z)) ?_
      exact k1
    · rw [if_neg c] at k1
      first | refine bt (show (W_sleep hb (Wp hb L i (now b)) (hb 2)).1 ≤ (W_sleep hb (Wp hb L i (now b)) (hb 2)).2.1 from Nat.not_lt.mp c) ?_ | refine bf (show (W_sleep hb (Wp hb L i (now b)) (hb 2)).1 ≤ (W_sleep hb (Wp hb L i (now b)) (hb 2)).2.1 from Nat.not_lt.mp c) ?_ | refine nt (show (W_sleep hb (Wp hb L i (now b)) (hb 2)).1 ≤ (W_sleep hb (Wp hb L i (now b)) (hb 2)).2.1 from Nat.not_lt.mp c) ?_ | refine nf (show (W_sleep hb (Wp hb L i (now b)) (hb 2)).1 ≤ (W_sleep hb (Wp hb L i (now b)) (hb 2)).2.1 from Nat.not_lt.mp c) ?_
      rw [show H1.1 69 b = H0.1 69 b from hf1.1 69 b rfl]
      exact k1
  | m + 1, i, H, hi, hf, hR => by
    have ih := lp_fewIn (d := d) (K := K) hM ef hbn hj kk m
    have hn12 := hM.2.2.1
    refine b_Mo_findsFewest_35 _ _ _ ?_
    first | refine bt (nI_ge (show i < j by omega) (by omega)) ?_ | refine bf (nI_ge (show i < j by omega) (by omega)) ?_ | refine nt (nI_ge (show i < j by omega) (by omega)) ?_ | refine nf (nI_ge (show i < j by omega) (by omega)) ?_
    have hX1 := hM.1.fr hf rfl rfl
    have hV := RV_Wp (hb := hb) (L := L) (hM.2.2.2.2 b hbn) i
    refine c_playsM (s := 1) (d := d + 7) hX1 hR hV (by omega) (by omega) (by decide) (fun H1 f1 hR1 => ?_)
    rw [show nI i + (1 : Int32) = nI (i + 1) from nI_1 i]
    exact ih (i + 1) H1 (by omega) (hf.tr (f1.fr rfl rfl)) hR1
theorem W_fw_s {hb : Nat → Nat} {L : Law} {r : Row} {j : Nat} (hj : j ≤ 60) : W_fw hb L r j = if W_wrong hb (Wp hb L j r) (hb 2) < W_right (Wp hb L j r) (hb 2) then nI j else W_fw hb L r (j + 1) := by
  unfold W_fw
  rw [show 61 - j = 61 - (j + 1) + 1 by omega]
  conv => lhs; unfold W_cost
  by_cases c : W_wrong hb (Wp hb L j r) (hb 2) < W_right (Wp hb L j r) (hb 2)
  · rw [if_pos c, if_pos c]
    exact if_pos hj
  · rw [if_neg c, if_neg c]
    rfl
abbrev JF : List Nat := [5514, 5515, 5516, 5517, 5518, 6400, 6500, 6600, 6700, 6800, 6900]
theorem lp_fewB {d n b : Nat} {hb : Nat → Nat} {L : Law} {now : Nat → Row} {K : pmT → Prop} {H0 : pmT} (hM : MS hb L n now H0) (ef : H0.1 55 23 = nI (hb 2)) (hbn : b < n) (kk : ∀ H', fr JF H0 H' → (∀ b', ¬ b' = b → H'.1 69 b' = H0.1 69 b') → H'.1 69 b = W_fw hb L (now b) 0 → pm_RW none (d + 80) M_Mo_findsFewest (pm_v K) 6 [(0, .ref 55), (1, .int (nI (b + 1)))] [] H') : ∀ (m : Nat) (H : pmT), m ≤ 61 → fr JF H0 H → (∀ b', ¬ b' = b → H.1 69 b' = H0.1 69 b') → H.1 69 b = W_fw hb L (now b) m → pm_RW none (d + 80) M_Mo_findsFewest (pm_v K) 24 [(0, .ref 55), (1, .int (nI b)), (2, .int (nI m + (-1 : Int32)))] [] H
  | 0, H, hm, hf, h1, h2 => by
    refine b_Mo_findsFewest_24 _ _ ?_
    first | refine bt (show nI 0 + (-1 : Int32) < 0 by decide) ?_ | refine bf (show nI 0 + (-1 : Int32) < 0 by decide) ?_ | refine nt (show nI 0 + (-1 : Int32) < 0 by decide) ?_ | refine nf (show nI 0 + (-1 : Int32) < 0 by decide) ?_
    rw [show nI b + (1 : Int32) = nI (b + 1) from nI_1 b]
    exact kk H hf h1 h2
  | m + 1, H, hm, hf, h1, h2 => by
    have ih := lp_fewB (d := d) (K := K) hM ef hbn kk m
    have hn12 := hM.2.2.1
    refine b_Mo_findsFewest_24 _ _ ?_
    rw [show nI (m + 1) + (-1 : Int32) = nI m from pk_m1 m]
    first | refine bt (nI_pos (show m < 2 ^ 31 by omega)) ?_ | refine bf (nI_pos (show m < 2 ^ 31 by omega)) ?_ | refine nt (nI_pos (show m < 2 ^ 31 by omega)) ?_ | refine nf (nI_pos (show m < 2 ^ 31 by omega)) ?_
    have hM1 := hM.fr (hf.mono rfl)
    obtain ⟨q1, q2, q3, q4, q5, q6, q7⟩ := c_takeM (hM1.2.2.2.1 b hbn) (show b < 12 by omega)
    rw [q1, q2]
    refine ⟨q3, q4, q5, ?_⟩
    have f7 : fr JP H _ := q7.fr rfl rfl
    have hM2 := hM1.fr (f7.mono rfl)
    refine lp_fewIn (d := d) (j := m) hM2 ((f7.1 55 23 rfl).trans ((hf.1 55 23 rfl).trans ef)) hbn (by omega) (fun H' f' => ?_) m 0 _ (by omega) fr.rf q6
    have f8 : fr JF H0 H' := hf.tr ((f7.mono rfl).tr (f'.mono rfl))
    refine ih _ (by omega) (f8.up rfl) (fun b' hb' => ?_) ?_
    · show pm_up H'.1 69 b _ 69 b' = _
      rw [pm_up_self, pk_un hb', f'.1 69 b' rfl]
      exact (f7.1 69 b' rfl).trans (h1 b' hb')
    · show pm_up H'.1 69 b _ 69 b = _
      rw [pm_up_self, pk_us, W_fw_s (show m ≤ 60 by omega)]
      by_cases c : W_wrong hb (Wp hb L m (now b)) (hb 2) < W_right (Wp hb L m (now b)) (hb 2)
      · rw [if_pos c, if_pos c]
      · rw [if_neg c, if_neg c]
        exact (f7.1 69 b rfl).trans h2
theorem lp_few {d n : Nat} {hb : Nat → Nat} {L : Law} {now : Nat → Row} {K : pmT → Prop} {H0 : pmT} (hM : MS hb L n now H0) (ef : H0.1 55 23 = nI (hb 2)) (kk : ∀ H', fr JF H0 H' → (∀ b, b < n → H'.1 69 b = cI (W_costs hb L now b)) → K H') : ∀ (m b : Nat) (H : pmT), b + m = n → fr JF H0 H → (∀ b', b' < b → H.1 69 b' = cI (W_costs hb L now b')) → pm_RW none (d + 80) M_Mo_findsFewest (pm_v K) 6 [(0, .ref 55), (1, .int (nI b))] [] H
  | 0, b, H, hb0, hf, h1 => by
    have hn12 := hM.2.2.1
    refine b_Mo_findsFewest_6 _ ?_
    rw [show H.1 55 6 = nI n from (hf.1 55 6 rfl).trans hM.2.1]
    first | refine bt (nI_le (show n ≤ b by omega) (show b < 2 ^ 31 by omega)) ?_ | refine bf (nI_le (show n ≤ b by omega) (show b < 2 ^ 31 by omega)) ?_ | refine nt (nI_le (show n ≤ b by omega) (show b < 2 ^ 31 by omega)) ?_ | refine nf (nI_le (show n ≤ b by omega) (show b < 2 ^ 31 by omega)) ?_
    exact kk H hf (fun b' h => h1 b' (by omega))
  | m + 1, b, H, hb0, hf, h1 => by
    have ih := lp_few (d := d) (K := K) hM ef kk m
    have hn12 := hM.2.2.1
    refine b_Mo_findsFewest_6 _ ?_
    rw [show H.1 55 6 = nI n from (hf.1 55 6 rfl).trans hM.2.1]
    first | refine bt (nI_ge (show b < n by omega) (by omega)) ?_ | refine bf (nI_ge (show b < n by omega) (by omega)) ?_ | refine nt (nI_ge (show b < n by omega) (by omega)) ?_ | refine nf (nI_ge (show b < n by omega) (by omega)) ?_
    rw [nIc (show b < 2 ^ 31 by omega)]
    refine ⟨vp_in_nI (by omega) (by decide), ?_⟩
    have f2 : fr JF H0 (pm_up H.1 69 b (-1 : Int32), H.2) := hf.up rfl
    have hM2 := hM.fr (f2.mono rfl)
    refine lp_fewB (d := d) hM2 ((f2.1 55 23 rfl).trans ef) (show b < n by omega) (fun H' f' h2 h3 => ?_) 61 _ (Nat.le_refl _) fr.rf (fun _ _ => rfl) ?_
    · refine ih (b + 1) H' (by omega) (f2.tr f') (fun b' hb' => ?_)
      by_cases e : b' = b
      · rw [e, h3]; rfl
      · rw [h2 b' e]
        show pm_up H.1 69 b _ 69 b' = _
        rw [pm_up_self, pk_un e]
        exact h1 b' (by omega)
    · show pm_up H.1 69 b (-1 : Int32) 69 b = _
      rw [pm_up_self, pk_us]
      rfl
theorem bit_1 {S b : Nat} (hS : S < 4096) (hb : b < 12) : ((nI S >>> (nI b &&& 31)) &&& (1 : Int32) = 1) = (Tb S b = true) := by
  have h0 := bit_t hS hb
  have e : ∃ j, j < 2 ^ 1 ∧ (nI S >>> (nI b &&& 31)) &&& (1 : Int32) = nI j := pk_andE _ 1 rfl
  obtain ⟨j, hj, ej⟩ := e
  rw [ej] at h0 ⊢
  apply propext
  unfold Tb
  rcases (show j = 0 ∨ j = 1 by omega) with z | z <;> subst z
  · have : ¬ S.testBit b = true := h0.mp rfl
    exact ⟨fun y => absurd y (by decide), fun y => absurd y this⟩
  · refine ⟨fun _ => ?_, fun _ => rfl⟩
    by_cases c : S.testBit b = true
    · exact c
    · exact absurd (h0.mpr c) (by decide)
theorem lp_takes1 {d n X : Nat} {c : Nat → Nat} {K : Int32 → pmT → Prop} {H : pmT} (hn : H.1 55 6 = nI n) (hn12 : n ≤ 12) (hX : X < 2 ^ n) (hf : ∀ b, b < n → H.1 69 b = cI (c b)) (k1 : (∃ b, b < n ∧ Tb X b = true ∧ ¬ c b ≤ 60) → K (-1) H) (k2 : (∀ b, b < n → Tb X b = true → c b ≤ 60) → K (nI (W_sm c (Tb X) n)) H) : ∀ (m b : Nat), b + m = n → (∀ b', b' < b → Tb X b' = true → c b' ≤ 60) → W_sm c (Tb X) b ≤ 60 * b → pm_RW none (d + 1) M_Mo_takes1 (pm_i K) 4 [(0, .ref 55), (1, .int (nI X)), (2, .int (nI (W_sm c (Tb X) b))), (3, .int (nI b))] [] H
  | 0, b, hb0, h1, h2 => by
    refine b_Mo_takes1_4 _ _ _ ?_
    rw [hn]
    first | refine bt (nI_le (show n ≤ b by omega) (show b < 2 ^ 31 by omega)) ?_ | refine bf (nI_le (show n ≤ b by omega) (show b < 2 ^ 31 by omega)) ?_ | refine nt (nI_le (show n ≤ b by omega) (show b < 2 ^ 31 by omega)) ?_ | refine nf (nI_le (show n ≤ b by omega) (show b < 2 ^ 31 by omega)) ?_
    have e : b = n := by omega
    rw [e] at h1 ⊢
    exact k2 h1
  | m + 1, b, hb0, h1, h2 => by
    have ih := lp_takes1 (d := d) hn hn12 hX hf k1 k2 m
    have p1 : 2 ^ n ≤ 2 ^ 12 := Nat.pow_le_pow_right (by decide) hn12
    refine b_Mo_takes1_4 _ _ _ ?_
    rw [hn, bit_1 (show X < 4096 by omega) (show b < 12 by omega), nIc (show b < 2 ^ 31 by omega), hf b (by omega), show nI b + (1 : Int32) = nI (b + 1) from nI_1 b]
    first | refine bt (nI_ge (show b < n by omega) (by omega)) ?_ | refine bf (nI_ge (show b < n by omega) (by omega)) ?_ | refine nt (nI_ge (show b < n by omega) (by omega)) ?_ | refine nf (nI_ge (show b < n by omega) (by omega)) ?_
    have i1 := ih (b + 1) (by omega)
    have es : W_sm c (Tb X) (b + 1) = W_sm c (Tb X) b + (if Tb X b = true then c b else 0) := rfl
    by_cases cb : Tb X b = true
    · first | refine bt cb ?_ | refine bf cb ?_ | refine nt cb ?_ | refine nf cb ?_
      refine ⟨vp_in_nI (by omega) (by decide), ?_⟩
      rw [if_pos cb] at es
      unfold cI
      by_cases c6 : c b ≤ 60
      · rw [if_pos c6]
        first | refine bt (nI_pos' (show c b < 2 ^ 31 by omega)) ?_ | refine bf (nI_pos' (show c b < 2 ^ 31 by omega)) ?_ | refine nt (nI_pos' (show c b < 2 ^ 31 by omega)) ?_ | refine nf (nI_pos' (show c b < 2 ^ 31 by omega)) ?_
        rw [nI_add, ← es]
        exact i1 (fun b' hb' t' => by
          by_cases e : b' = b
          · rw [e]; exact c6
          · exact h1 b' (by omega) t') (by omega)
      · rw [if_neg c6]
        first | refine bt (show ¬ (0 : Int32) ≤ -1 by decide) ?_ | refine bf (show ¬ (0 : Int32) ≤ -1 by decide) ?_ | refine nt (show ¬ (0 : Int32) ≤ -1 by decide) ?_ | refine nf (show ¬ (0 : Int32) ≤ -1 by decide) ?_
        exact k1 ⟨b, by omega, cb, c6⟩
    · first | refine bt cb ?_ | refine bf cb ?_ | refine nt cb ?_ | refine nf cb ?_
      rw [if_neg cb, Nat.add_zero] at es
      rw [es] at i1
      exact i1 (fun b' hb' t' => by
        by_cases e : b' = b
        · rw [e] at t'; exact absurd t' cb
        · exact h1 b' (by omega) t') (by omega)
theorem c_takes1 {d n X : Nat} {c : Nat → Nat} {K : Int32 → pmT → Prop} {H : pmT} (hn : H.1 55 6 = nI n) (hn12 : n ≤ 12) (hX : X < 2 ^ n) (hf : ∀ b, b < n → H.1 69 b = cI (c b)) (k1 : (∃ b, b < n ∧ Tb X b = true ∧ ¬ c b ≤ 60) → K (-1) H) (k2 : (∀ b, b < n → Tb X b = true → c b ≤ 60) → K (nI (W_sm c (Tb X) n)) H) : pm_R (d + 1) M_Mo_takes1 [.ref 55, .int (nI X)] H (pm_i K) := by
  refine m_Mo_takes1 _ ?_
  exact lp_takes1 hn hn12 hX hf k1 k2 n 0 (by omega) (fun b' h => by omega) (Nat.zero_le _)
theorem W_sm_ge {c : Nat → Nat} {P : Nat → Bool} {b : Nat} : ∀ n, b < n → P b = true → c b ≤ W_sm c P n
  | 0, h, _ => by omega
  | n + 1, h, hp => by
    unfold W_sm
    by_cases e : b = n
    · subst e; rw [if_pos hp]; omega
    · have := W_sm_ge (c := c) (P := P) (b := b) n (by omega) hp
      omega
theorem W_sm_720 {c : Nat → Nat} {P : Nat → Bool} : ∀ n, (∀ b, b < n → P b = true → c b ≤ 60) → W_sm c P n ≤ 60 * n
  | 0, _ => Nat.le_refl _
  | n + 1, h => by
    have := W_sm_720 (c := c) (P := P) n (fun b hb => h b (by omega))
    unfold W_sm
    split
    · rename_i z; have := h n (by omega) z; omega
    · omega
theorem pop_cnt {n X : Nat} (hn12 : n ≤ 12) (hX : X < 2 ^ n) : W_pop X = W_cnt (Tb X) n := by
  unfold W_pop
  exact W_cnt_zero hn12 (fun k h1 _ => Nat.testBit_lt_two_pow (Nat.lt_of_lt_of_le hX (Nat.pow_le_pow_right (by decide) h1)))
theorem one_shl' : ∀ b, b < 13 → (1 : Int32) <<< (nI b &&& 31) = nI (2 ^ b) := by decide +kernel
theorem lp_withM {D n N w : Nat} {c : Nat → Nat} {K : Int32 → pmT → Prop} {H : pmT} (hn : H.1 55 6 = nI n) (hn12 : n ≤ 12) (hN : N ≤ 60) (hw : w ≤ 2) (hc : ∀ b, b < n → c b ≤ 60 ∨ c b = 1000) (hf : ∀ b, b < n → H.1 69 b = cI (c b)) (kk : ∀ B, B < 2 ^ n → W_sm c (Tb B) n ≤ N → (∀ X, X < 2 ^ n → W_sm c (Tb X) n ≤ N → Better c n B X) → K (if w = 0 then nI (W_cnt (Tb B) n) else if w = 1 then nI B else nI (W_sm c (Tb B) n)) H) : ∀ (m s B : Nat), s + m = 2 ^ n → B < s → W_sm c (Tb B) n ≤ N → (∀ X, X < s → W_sm c (Tb X) n ≤ N → Better c n B X) → pm_RW none (D + 100) M_Mo_with (pm_i K) 35 [(0, .ref 55), (1, .int (nI N)), (2, .int (nI w)), (3, .int (nI B)), (4, .int (nI s))] [] H
  | 0, s, B, hs, hB, hBf, hI => by
    have p1 : 2 ^ n ≤ 2 ^ 12 := Nat.pow_le_pow_right (by decide) hn12
    refine b_Mo_with_35 _ _ _ _ ?_
    rw [hn, one_shl' n (by omega)]
    first | refine bt (nI_le (show 2 ^ n ≤ s by omega) (show s < 2 ^ 31 by omega)) ?_ | refine bf (nI_le (show 2 ^ n ≤ s by omega) (show s < 2 ^ 31 by omega)) ?_ | refine nt (nI_le (show 2 ^ n ≤ s by omega) (show s < 2 ^ 31 by omega)) ?_ | refine nf (nI_le (show 2 ^ n ≤ s by omega) (show s < 2 ^ 31 by omega)) ?_
    have k1 := kk B (by omega) hBf (fun X hX => hI X (by omega))
    have hB60 : ∀ b, b < n → Tb B b = true → c b ≤ 60 := fun b hb tb => by
      rcases hc b hb with z | z
      · exact z
      · have := W_sm_ge (c := c) (P := Tb B) n hb tb; omega
    rw [show (nI w = (0 : Int32)) = (w = 0) from i_eq w 0 (by omega) (by decide), show (nI w = (1 : Int32)) = (w = 1) from i_eq w 1 (by omega) (by decide)]
    by_cases c0 : w = 0
    · first | refine bt c0 ?_ | refine bf c0 ?_ | refine nt c0 ?_ | refine nf c0 ?_
      rw [if_pos c0] at k1
      refine c_bitsM (by omega) ?_
      rw [pop_cnt hn12 (by omega)]
      exact k1
    · first | refine bt c0 ?_ | refine bf c0 ?_ | refine nt c0 ?_ | refine nf c0 ?_
      rw [if_neg c0] at k1
      by_cases c1 : w = 1
      · first | refine bt c1 ?_ | refine bf c1 ?_ | refine nt c1 ?_ | refine nf c1 ?_
        rw [if_pos c1] at k1
        exact k1
      · first | refine bt c1 ?_ | refine bf c1 ?_ | refine nt c1 ?_ | refine nf c1 ?_
        rw [if_neg c1] at k1
        refine c_takes1 (d := D + 98) hn hn12 (by omega) hf (fun h => ?_) (fun _ => k1)
        obtain ⟨b, q1, q2, q3⟩ := h
        exact absurd (hB60 b q1 q2) q3
  | m + 1, s, B, hs, hB, hBf, hI => by
    have ih := lp_withM (D := D) (K := K) hn hn12 hN hw hc hf kk m
    have p1 : 2 ^ n ≤ 2 ^ 12 := Nat.pow_le_pow_right (by decide) hn12
    refine b_Mo_with_35 _ _ _ _ ?_
    rw [hn, one_shl' n (by omega)]
    first | refine bt (nI_ge (show s < 2 ^ n by omega) (show 2 ^ n < 2 ^ 31 by omega)) ?_ | refine bf (nI_ge (show s < 2 ^ n by omega) (show 2 ^ n < 2 ^ 31 by omega)) ?_ | refine nt (nI_ge (show s < 2 ^ n by omega) (show 2 ^ n < 2 ^ 31 by omega)) ?_ | refine nf (nI_ge (show s < 2 ^ n by omega) (show 2 ^ n < 2 ^ 31 by omega)) ?_
    have hB60 : ∀ b, b < n → Tb B b = true → c b ≤ 60 := fun b hb tb => by
      rcases hc b hb with z | z
      · exact z
      · have := W_sm_ge (c := c) (P := Tb B) n hb tb; omega
    rw [show nI s + (1 : Int32) = nI (s + 1) from nI_1 s]
    have skip : ¬ W_sm c (Tb s) n ≤ N → pm_RW none (D + 100) M_Mo_with (pm_i K) 35 [(0, .ref 55), (1, .int (nI N)), (2, .int (nI w)), (3, .int (nI B)), (4, .int (nI (s + 1)))] [] H := fun h => ih (s + 1) B (by omega) (by omega) hBf (fun X hX hXf => by
      by_cases e : X = s
      · rw [e] at hXf; exact absurd hXf h
      · exact hI X (by omega) hXf)
    refine c_takes1 (d := D + 98) hn hn12 (by omega) hf (fun h => ?_) (fun h60 => ?_)
    · first | refine bt (show (-1 : Int32) < 0 by decide) ?_ | refine bf (show (-1 : Int32) < 0 by decide) ?_ | refine nt (show (-1 : Int32) < 0 by decide) ?_ | refine nf (show (-1 : Int32) < 0 by decide) ?_
      obtain ⟨b, q1, q2, q3⟩ := h
      refine skip (fun z => ?_)
      have := W_sm_ge (c := c) (P := Tb s) n q1 q2
      omega
    · have hsl := W_sm_720 (c := c) (P := Tb s) n h60
      have hbl := W_sm_720 (c := c) (P := Tb B) n hB60
      first | refine bt (nI_pos (show W_sm c (Tb s) n < 2 ^ 31 by omega)) ?_ | refine bf (nI_pos (show W_sm c (Tb s) n < 2 ^ 31 by omega)) ?_ | refine nt (nI_pos (show W_sm c (Tb s) n < 2 ^ 31 by omega)) ?_ | refine nf (nI_pos (show W_sm c (Tb s) n < 2 ^ 31 by omega)) ?_
      rw [i_lt N _ (by omega) (by omega)]
      by_cases cN : N < W_sm c (Tb s) n
      · first | refine bt cN ?_ | refine bf cN ?_ | refine nt cN ?_ | refine nf cN ?_
        exact skip (by omega)
      · first | refine bt cN ?_ | refine bf cN ?_ | refine nt cN ?_ | refine nf cN ?_
        refine c_bitsM (by omega) ?_
        refine c_bitsM (by omega) ?_
        rw [pop_cnt hn12 (show s < 2 ^ n by omega), pop_cnt hn12 (show B < 2 ^ n by omega)]
        have l1 := W_cnt_le (Tb s) n
        have l2 := W_cnt_le (Tb B) n
        have et := pk_sub_toInt (a := W_cnt (Tb s) n) (b := W_cnt (Tb B) n) (by omega) (by omega)
        have e0 : (0 < nI (W_cnt (Tb s) n) - nI (W_cnt (Tb B) n)) = (W_cnt (Tb B) n < W_cnt (Tb s) n) := by
          rw [t_lt, et]
          apply propext
          show (0 : Int) < _ ↔ _
          omega
        have e1 : (nI (W_cnt (Tb s) n) - nI (W_cnt (Tb B) n) = 0) = (W_cnt (Tb B) n = W_cnt (Tb s) n) := by
          rw [t_eq, et]
          apply propext
          show _ = (0 : Int) ↔ _
          omega
        rw [e0, e1]
        have self : Better c n s s := Or.inr ⟨rfl, Or.inr ⟨rfl, Nat.le_refl _⟩⟩
        have take : (∀ X, X < s → W_sm c (Tb X) n ≤ N → Better c n s X) → pm_RW none (D + 100) M_Mo_with (pm_i K) 35 [(0, .ref 55), (1, .int (nI N)), (2, .int (nI w)), (3, .int (nI s)), (4, .int (nI (s + 1)))] [] H := fun h => ih (s + 1) s (by omega) (by omega) (by omega) (fun X hX hXf => by
          by_cases e : X = s
          · rw [e]; exact self
          · exact h X (by omega) hXf)
        have keep : Better c n B s → pm_RW none (D + 100) M_Mo_with (pm_i K) 35 [(0, .ref 55), (1, .int (nI N)), (2, .int (nI w)), (3, .int (nI B)), (4, .int (nI (s + 1)))] [] H := fun h => ih (s + 1) B (by omega) (by omega) hBf (fun X hX hXf => by
          by_cases e : X = s
          · rw [e]; exact h
          · exact hI X (by omega) hXf)
        by_cases c1 : W_cnt (Tb B) n < W_cnt (Tb s) n
        · first | refine bt c1 ?_ | refine bf c1 ?_ | refine nt c1 ?_ | refine nf c1 ?_
          refine take (fun X hX hXf => ?_)
          have := hI X hX hXf
          unfold Better at this ⊢
          omega
        · first | refine bt c1 ?_ | refine bf c1 ?_ | refine nt c1 ?_ | refine nf c1 ?_
          by_cases c2 : W_cnt (Tb B) n = W_cnt (Tb s) n
          · first | refine bt c2 ?_ | refine bf c2 ?_ | refine nt c2 ?_ | refine nf c2 ?_
            refine c_takes1 (d := D + 98) hn hn12 (by omega) hf (fun h => ?_) (fun _ => ?_)
            · obtain ⟨b, q1, q2, q3⟩ := h
              exact absurd (hB60 b q1 q2) q3
            · rw [i_le _ _ (by omega) (by omega)]
              by_cases c3 : W_sm c (Tb B) n ≤ W_sm c (Tb s) n
              · first | refine bt c3 ?_ | refine bf c3 ?_ | refine nt c3 ?_ | refine nf c3 ?_
                refine keep ?_
                unfold Better
                omega
              · first | refine bt c3 ?_ | refine bf c3 ?_ | refine nt c3 ?_ | refine nf c3 ?_
                refine take (fun X hX hXf => ?_)
                have := hI X hX hXf
                unfold Better at this ⊢
                omega
          · first | refine bt c2 ?_ | refine bf c2 ?_ | refine nt c2 ?_ | refine nf c2 ?_
            refine keep ?_
            unfold Better
            omega
theorem p_with {D t : Nat} {H : pmT} {K : Int32 → Int32 → pmT → Prop} (a1 a2 : Int32) (hR : Rel t H) (ht : t ≤ 1000) (kk : ∀ x H', Rel (t + 1) H' → K x x H') : pm_R (D + 200) M_PW_with [.ref 0, .int a1, .int a2] H (pm_i fun x H1 => pm_R (D + 200) M_Mo_with [.ref 55, .int a1, .int a2] H1 (pm_i fun y H2 => K x y H2)) := by
  obtain ⟨hb, L, n, now, m, hN, hT, hD⟩ := id hR
  have hC := hN.cs ht
  have hM := hN.ms ht
  have hn12 := hC.2.2.1
  have hB := hT.2.2.2.1
  have hSh := hT.2.2.2.2.2.1
  have en : (nI n - (1 : Int32)).toInt = (n : Int) - 1 := nm1_t (by omega)
  have hR1 : Rel (t + 1) H := hR.mono (Nat.le_succ _)
  by_cases hok : (0 ≤ a1.toInt ∧ a1.toInt ≤ 60) ∧ (0 ≤ a2.toInt ∧ a2.toInt ≤ 2)
  · obtain ⟨⟨p1, p2⟩, p3, p4⟩ := hok
    obtain ⟨N, _, rfl, eN⟩ := nI_tI a1 p1
    obtain ⟨w, _, rfl, es⟩ := nI_tI a2 p3
    have N0 : ¬ nI N < (0 : Int32) := nI_pos (by omega)
    have N1 : nI N ≤ (60 : Int32) := nI_le (show N ≤ 60 by omega) (by decide)
    have N2 : ¬ lg_cmp (nI N).toInt64 (0 : Int64) < 0 := l_0 (by omega)
    have N3 : ¬ 0 < lg_cmp (nI N).toInt64 (60 : Int64) := l_c (by omega) (by show (N : Int) ≤ 60; omega)
    have N4 : (nI N).toNatClampNeg = N := nIc (by omega)
    have w0 : ¬ nI w < (0 : Int32) := nI_pos (by omega)
    have w1 : nI w ≤ (2 : Int32) := nI_le (show w ≤ 2 by omega) (by decide)
    have w2 : ¬ lg_cmp (nI w).toInt64 (0 : Int64) < 0 := l_0 (by omega)
    have w3 : ¬ 0 < lg_cmp (nI w).toInt64 (2 : Int64) := l_c (by omega) (by show (w : Int) ≤ 2; omega)
    have w4 : (nI w).toNatClampNeg = w := nIc (by omega)
    have ew0 : (nI w = (0 : Int32)) = (w = 0) := i_eq w 0 (by omega) (by decide)
    have ew1 : (nI w = (1 : Int32)) = (w = 1) := i_eq w 1 (by omega) (by decide)
    refine m_PW_with _ _ ?_
    repeat (first | with_reducible refine bt N0 ?_ | with_reducible refine bf N0 ?_ | with_reducible refine nt N0 ?_ | with_reducible refine nf N0 ?_ | with_reducible refine And.intro N0 ?_ | with_reducible refine bt N1 ?_ | with_reducible refine bf N1 ?_ | with_reducible refine nt N1 ?_ | with_reducible refine nf N1 ?_ | with_reducible refine And.intro N1 ?_ | with_reducible refine bt w0 ?_ | with_reducible refine bf w0 ?_ | with_reducible refine nt w0 ?_ | with_reducible refine nf w0 ?_ | with_reducible refine And.intro w0 ?_ | with_reducible refine bt w1 ?_ | with_reducible refine bf w1 ?_ | with_reducible refine nt w1 ?_ | with_reducible refine nf w1 ?_ | with_reducible refine And.intro w1 ?_)
    refine c_choose (d := D + 193) hC (show N ≤ 60 by omega) (fun H1 f1 e4 e5 => ?_)
    have hcc : ∀ b, b < n → W_costs hb L now b ≤ 60 ∨ W_costs hb L now b = 1000 := fun b _ => W_cost_le 61 0 (now b) rfl
    have s0 : ∀ k, W_sm (W_costs hb L now) (Tb 0) k = 0 := by
      intro k
      induction k with
      | zero => rfl
      | succ k ih => unfold W_sm; rw [ih]; simp [Tb]
    have c0 : ∀ k, W_cnt (Tb 0) k = 0 := by
      intro k
      induction k with
      | zero => rfl
      | succ k ih => unfold W_cnt; rw [ih]; simp [Tb]
    have hbest := choose_best (c := W_costs hb L now) (N := N) hn12
    obtain ⟨g1, g2, g3, g4, g5⟩ := choose_ok (c := W_costs hb L now) (N := N) hn12 n 0 0 (by rw [c0]; omega) (Nat.two_pow_pos n) (fun x y hx hy tx ty => by simp [Tb] at tx) (s0 n) (Nat.zero_le _)
    generalize hG : W_choose (W_costs hb L now) n N n 0 0 = G at e4 e5 hbest g1 g2 g3 g4 g5
    have p12 : 2 ^ n ≤ 2 ^ 12 := Nat.pow_le_pow_right (by decide) hn12
    have hM1 := (hN.c f1).ms ht
    have ref : ∀ (x : Int32), x = (if w = 0 then nI (W_cnt (Tb G.1) n) else if w = 1 then nI G.1 else nI G.2) → pm_R (D + 200) M_Mo_with [.ref 55, .int (nI N), .int (nI w)] H1 (pm_i fun y H2 => K x y H2) := by
      intro x ex
      refine m_Mo_with _ _ ?_
      repeat (first | with_reducible refine bt N2 ?_ | with_reducible refine bf N2 ?_ | with_reducible refine nt N2 ?_ | with_reducible refine nf N2 ?_ | with_reducible refine And.intro N2 ?_ | with_reducible refine bt N3 ?_ | with_reducible refine bf N3 ?_ | with_reducible refine nt N3 ?_ | with_reducible refine nf N3 ?_ | with_reducible refine And.intro N3 ?_ | with_reducible refine bt w2 ?_ | with_reducible refine bf w2 ?_ | with_reducible refine nt w2 ?_ | with_reducible refine nf w2 ?_ | with_reducible refine And.intro w2 ?_ | with_reducible refine bt w3 ?_ | with_reducible refine bf w3 ?_ | with_reducible refine nt w3 ?_ | with_reducible refine nf w3 ?_ | with_reducible refine And.intro w3 ?_)
      refine m_Mo_findsFewest ?_
      refine c_begins hM1 (fun H2 f2 hT2 ef => ?_)
      have f2' : fr JQ H1 H2 := f2.mono rfl
      have hM2 := hM1.fr f2'
      refine lp_few (d := D + 119) hM2 ef (fun H3 f3 hf3 => ?_) n 0 H2 (by omega) fr.rf (fun b' h => by omega)
      have f3' : fr JQ H2 H3 := f3.mono rfl
      have hM3 := hM2.fr f3'
      refine lp_withM (D := D + 100) hM3.2.1 hn12 (show N ≤ 60 by omega) (show w ≤ 2 by omega) hcc hf3 (fun B hB hBf hBb => ?_) (2 ^ n - 1) 1 0 (by have := Nat.two_pow_pos n; omega) (by decide) (by rw [s0]; omega) (fun X hX hXf => ?_)
      · have q1 := hBb G.1 g1 (by rw [g3]; exact g4)
        have q2 := hbest B hB hBf
        have eB : B = G.1 := by unfold Better at q1 q2; omega
        subst eB
        rw [g3, ← ex]
        exact kk _ _ (hR.z f1 (f2'.tr f3'))
      · rw [show X = 0 by omega]
        exact Or.inr ⟨rfl, Or.inr ⟨rfl, Nat.le_refl _⟩⟩
    rw [ew0, ew1, e4, e5]
    by_cases cw : w = 0
    · first | refine bt cw ?_ | refine bf cw ?_ | refine nt cw ?_ | refine nf cw ?_
      refine c_bitCount (by omega) ?_
      rw [pop_cnt hn12 g1]
      exact ref _ (by rw [if_pos cw])
    · first | refine bt cw ?_ | refine bf cw ?_ | refine nt cw ?_ | refine nf cw ?_
      by_cases cw1 : w = 1
      · first | refine bt cw1 ?_ | refine bf cw1 ?_ | refine nt cw1 ?_ | refine nf cw1 ?_
        exact ref _ (by rw [if_neg cw, if_pos cw1])
      · first | refine bt cw1 ?_ | refine bf cw1 ?_ | refine nt cw1 ?_ | refine nf cw1 ?_
        exact ref _ (by rw [if_neg cw, if_neg cw1])
  · have hm : pm_R (D + 200) M_Mo_with [.ref 55, .int a1, .int a2] H (pm_i fun y H2 => K (-1) y H2) := by
      refine m_Mo_with _ _ ?_
      try rw [hM.2.1]
      ((try (simp only [lgl, lgg, i2l_t, u32_0, u64_0, u32_1, u64_1, u32_2, u64_2, u32_3, u64_3, u32_4, u64_4, u32_5, u64_5, u32_7, u64_7, u32_12, u64_12, u32_24, u64_24, u32_30, u64_30, u32_49, u64_49, u32_60, u64_60, u32_99, u64_99, u32_255, u64_255, u32_999, u64_999, en])); (try (simp only [t_lt, t_le, u32_0, u64_0, u32_1, u64_1, u32_2, u64_2, u32_3, u64_3, u32_4, u64_4, u32_5, u64_5, u32_7, u64_7, u32_12, u64_12, u32_24, u64_24, u32_30, u64_30, u32_49, u64_49, u32_60, u64_60, u32_99, u64_99, u32_255, u64_255, u32_999, u64_999, en])); repeat' (first | with_reducible intro hh | with_reducible apply And.intro | exact vp_in_iff.mpr (by omega) | (exfalso; omega) | exact kk _ _ hR1))
    refine m_PW_with _ _ ?_
    try rw [hC.2.1]
    ((try (simp only [lgl, lgg, i2l_t, u32_0, u64_0, u32_1, u64_1, u32_2, u64_2, u32_3, u64_3, u32_4, u64_4, u32_5, u64_5, u32_7, u64_7, u32_12, u64_12, u32_24, u64_24, u32_30, u64_30, u32_49, u64_49, u32_60, u64_60, u32_99, u64_99, u32_255, u64_255, u32_999, u64_999, en])); (try (simp only [t_lt, t_le, u32_0, u64_0, u32_1, u64_1, u32_2, u64_2, u32_3, u64_3, u32_4, u64_4, u32_5, u64_5, u32_7, u64_7, u32_12, u64_12, u32_24, u64_24, u32_30, u64_30, u32_49, u64_49, u32_60, u64_60, u32_99, u64_99, u32_255, u64_255, u32_999, u64_999, en])); repeat' (first | with_reducible intro hh | with_reducible apply And.intro | exact vp_in_iff.mpr (by omega) | (exfalso; omega) | exact hm))
