/-! deeds of a body -/
def W_ow (k a : Nat) : Nat := ([1, 10, 11, 2, 20, 0, 0, 0, 0, 30, 0, 0, 0, 41, 40, 0, 0, 0, 50, 0, 0, 0, 0, 60, 70, 0, 0, 0, 0, 80, 0, 81] : List Nat).getD (4 * k + a) 0
theorem ow_ok : ∀ k, k ≤ 7 → ∀ a, a ≤ 3 → pm_OW (k * 4 + a) = nI (W_ow k a) ∧ W_ow k a < 100 ∧ (W_ow k a = 0 → k ≠ 0) := by decide +kernel
def W_hf (a : Nat) : Nat → Nat → Nat
  | 0, k => k
  | f + 1, k => if W_ow k a = 0 then W_hf a f (W_ab k) else k
def W_ho (k a : Nat) : Nat := W_hf a 8 k
def W_cd (k a : Nat) : Nat := W_ow (W_ho k a) a
def W_up (k a : Nat) : Nat := W_ab (W_ho k a)
theorem cd_ok : ∀ k, k ≤ 7 → ∀ a, a ≤ 3 → W_ho k a ≤ 7 ∧ pm_OW (W_ho k a * 4 + a) = nI (W_cd k a) ∧ W_up k a ≤ 7 ∧ ((W_cd k a = 1 ∨ W_cd k a = 2 ∨ W_cd k a = 10 ∨ W_cd k a = 11) ∨ pm_AB (W_ho k a) = nI (W_up k a)) := by decide +kernel
theorem cd_all : ∀ k, k ≤ 7 → ∀ a, a ≤ 3 → W_cd k a = 1 ∨ W_cd k a = 2 ∨ W_cd k a = 10 ∨ W_cd k a = 11 ∨ W_cd k a = 20 ∨ W_cd k a = 30 ∨ W_cd k a = 40 ∨ W_cd k a = 41 ∨ W_cd k a = 50 ∨ W_cd k a = 60 ∨ W_cd k a = 70 ∨ W_cd k a = 80 ∨ W_cd k a = 81 := by decide +kernel
theorem lp_holder {d a : Nat} {H : pmT} {K : Int32 → pmT → Prop} (ha : a ≤ 3) : ∀ (f k i : Nat), i + f = 8 → W_dp k < f → k ≤ 7 → K (nI (W_hf a f k)) H → pm_RW none (d + 1) M_Bo_holder (pm_i K) 4 [(1, .int (nI a)), (2, .int (nI k)), (3, .int (nI i))] [] H
  | 0, k, i, hi, hd, hk, kk => absurd hd (Nat.not_lt_zero _)
  | f + 1, k, i, hi, hd, hk, kk => by
    refine b_Bo_holder_4 _ _ _ ?_
    first | refine bt (nI_ge (a := i) (b := 8) (by omega) (by decide)) ?_ | refine bf (nI_ge (a := i) (b := 8) (by omega) (by decide)) ?_ | refine nt (nI_ge (a := i) (b := 8) (by omega) (by decide)) ?_ | refine nf (nI_ge (a := i) (b := 8) (by omega) (by decide)) ?_
    first | refine bt (nI_pos (show k < 2 ^ 31 by omega)) ?_ | refine bf (nI_pos (show k < 2 ^ 31 by omega)) ?_ | refine nt (nI_pos (show k < 2 ^ 31 by omega)) ?_ | refine nf (nI_pos (show k < 2 ^ 31 by omega)) ?_
    first | refine bt (nI_le (show k ≤ 7 from hk) (by decide)) ?_ | refine bf (nI_le (show k ≤ 7 from hk) (by decide)) ?_ | refine nt (nI_le (show k ≤ 7 from hk) (by decide)) ?_ | refine nf (nI_le (show k ≤ 7 from hk) (by decide)) ?_
    obtain ⟨o1, o2, o3⟩ := ow_ok k hk a ha
    have ei : nI k * (4 : Int32) + nI a = nI (k * 4 + a) := by rw [show nI k * (4 : Int32) = nI (k * 4) from pk_mul k 4, nI_add]
    rw [ei, nIc (show k * 4 + a < 2 ^ 31 by omega), o1, show (nI (W_ow k a) = 0) = (W_ow k a = 0) from i_eq (W_ow k a) 0 (by omega) (by decide)]
    refine ⟨vp_in_nI (by omega) (by decide), ?_⟩
    unfold W_hf at kk
    by_cases z : W_ow k a = 0
    · first | refine bt z ?_ | refine bf z ?_ | refine nt z ?_ | refine nf z ?_
      rw [if_pos z] at kk
      obtain ⟨q1, q2, q3⟩ := W_ab_ok k hk (o3 z)
      rw [nIc (show k < 2 ^ 31 by omega), q3, nI_1 i]
      exact ⟨vp_in_nI (by omega) (by decide), lp_holder ha f (W_ab k) (i + 1) (by omega) (by omega) q1 kk⟩
    · first | refine bt z ?_ | refine bf z ?_ | refine nt z ?_ | refine nf z ?_
      rw [if_neg z] at kk
      exact kk
theorem c_holder {d k a : Nat} {H : pmT} {K : Int32 → pmT → Prop} (hk : k ≤ 7) (ha : a ≤ 3) (kk : K (nI (W_ho k a)) H) : pm_R (d + 1) M_Bo_holder [.int (nI k), .int (nI a)] H (pm_i K) := by
  refine m_Bo_holder _ _ ?_
  have hd : ∀ k, k ≤ 7 → W_dp k < 8 := by decide
  exact lp_holder ha 8 k 0 (by omega) (hd k hk) hk kk
def add1 : Option Nat → Option Nat
  | some p => some (p + 1)
  | none => none
def add2 : Option Nat → Option Nat → Option Nat
  | some p, some q => some (p + q + 1)
  | _, _ => none
theorem add1_s {a : Option Nat} {n : Nat} (h : add1 a = some n) : ∃ p, a = some p ∧ n = p + 1 := by
  cases a with
  | none => cases h
  | some p => exact ⟨p, rfl, (Option.some.inj h).symm⟩
theorem add2_s {a b : Option Nat} {n : Nat} (h : add2 a b = some n) : ∃ p q, a = some p ∧ b = some q ∧ n = p + q + 1 := by
  cases a with
  | none => cases h
  | some p => cases b with
    | none => cases h
    | some q => exact ⟨p, q, rfl, rfl, (Option.some.inj h).symm⟩
/-- what a deed comes to: the steps written down, how many, and the answer -/
def ev (kd : Nat) (ix : Int32) : Nat → Nat → Nat → Int32 → (Nat → Int32) → Nat → (Nat → Int32) × Nat × Int32
  | 0, _, _, _, tr, r => (tr, r, 0)
  | f + 1, k, a, x, tr, r => if W_cd k a = 1 then (upd tr r (nI (W_cd k a)), r + 1, x + ix) else if W_cd k a = 2 then let p := ev kd ix f kd 1 x (upd tr r (nI (W_cd k a))) (r + 1); let q := ev kd ix f kd 2 1 p.1 p.2.1; (q.1, q.2.1, p.2.2 - q.2.2) else if W_cd k a = 10 then let p := ev kd ix f kd 0 x (upd tr r (nI (W_cd k a))) (r + 1); (p.1, p.2.1, p.2.2 * 2) else if W_cd k a = 11 then (upd tr r (nI (W_cd k a)), r + 1, x ^^^ ix) else if W_cd k a = 20 then let p := ev kd ix f (W_up k a) 0 x (upd tr r (nI (W_cd k a))) (r + 1); (p.1, p.2.1, p.2.2 + 3) else if W_cd k a = 30 then let p := ev kd ix f (W_up k a) 1 x (upd tr r (nI (W_cd k a))) (r + 1); (p.1, p.2.1, -p.2.2) else if W_cd k a = 40 then let p := ev kd ix f (W_up k a) 2 x (upd tr r (nI (W_cd k a))) (r + 1); (p.1, p.2.1, p.2.2 * 3) else if W_cd k a = 41 then let p := ev kd ix f (W_up k a) 1 (x + 1) (upd tr r (nI (W_cd k a))) (r + 1); (p.1, p.2.1, p.2.2) else if W_cd k a = 50 then let p := ev kd ix f (W_up k a) 2 x (upd tr r (nI (W_cd k a))) (r + 1); let q := ev kd ix f kd 0 2 p.1 p.2.1; (q.1, q.2.1, p.2.2 - q.2.2) else if W_cd k a = 60 then let p := ev kd ix f (W_up k a) 3 x (upd tr r (nI (W_cd k a))) (r + 1); (p.1, p.2.1, p.2.2 ^^^ 5) else if W_cd k a = 70 then let p := ev kd ix f (W_up k a) 0 x (upd tr r (nI (W_cd k a))) (r + 1); (p.1, p.2.1, p.2.2 * 2) else if W_cd k a = 80 then let p := ev kd ix f (W_up k a) 1 x (upd tr r (nI (W_cd k a))) (r + 1); let q := ev kd ix f kd 2 2 p.1 p.2.1; (q.1, q.2.1, p.2.2 + q.2.2) else if W_cd k a = 81 then let p := ev kd ix f (W_up k a) 3 x (upd tr r (nI (W_cd k a))) (r + 1); (p.1, p.2.1, p.2.2 - 1) else (tr, r, 0)
/-- how many steps -/
def cn (kd : Nat) : Nat → Nat → Nat → Option Nat
  | 0, _, _ => none
  | f + 1, k, a => if W_cd k a = 1 then some 1 else if W_cd k a = 2 then add2 (cn kd f kd 1) (cn kd f kd 2) else if W_cd k a = 10 then add1 (cn kd f kd 0) else if W_cd k a = 11 then some 1 else if W_cd k a = 20 then add1 (cn kd f (W_up k a) 0) else if W_cd k a = 30 then add1 (cn kd f (W_up k a) 1) else if W_cd k a = 40 then add1 (cn kd f (W_up k a) 2) else if W_cd k a = 41 then add1 (cn kd f (W_up k a) 1) else if W_cd k a = 50 then add2 (cn kd f (W_up k a) 2) (cn kd f kd 0) else if W_cd k a = 60 then add1 (cn kd f (W_up k a) 3) else if W_cd k a = 70 then add1 (cn kd f (W_up k a) 0) else if W_cd k a = 80 then add2 (cn kd f (W_up k a) 1) (cn kd f kd 2) else if W_cd k a = 81 then add1 (cn kd f (W_up k a) 3) else none
theorem cn_all : ∀ kd, kd ≤ 7 → ∀ k, k ≤ 7 → ∀ a, a ≤ 3 → (match cn kd 14 k a with | some n => Nat.ble n 200 | none => false) = true := by decide +kernel
theorem ev_1 {kd f k a r : Nat} {ix x : Int32} {tr : Nat → Int32} (h : W_cd k a = 1) : ev kd ix (f + 1) k a x tr r = ((upd tr r (nI (W_cd k a)), r + 1, x + ix)) := by
  conv => lhs; unfold ev
  rw [if_pos h]
theorem cn_1 {kd f k a : Nat} (h : W_cd k a = 1) : cn kd (f + 1) k a = (some 1) := by
  conv => lhs; unfold cn
  rw [if_pos h]
theorem ev_2 {kd f k a r : Nat} {ix x : Int32} {tr : Nat → Int32} (h : W_cd k a = 2) : ev kd ix (f + 1) k a x tr r = (let p := ev kd ix f kd 1 x (upd tr r (nI (W_cd k a))) (r + 1); let q := ev kd ix f kd 2 1 p.1 p.2.1; (q.1, q.2.1, p.2.2 - q.2.2)) := by
  conv => lhs; unfold ev
  rw [if_neg (show ¬ W_cd k a = 1 by rw [h]; decide)]
  rw [if_pos h]
theorem cn_2 {kd f k a : Nat} (h : W_cd k a = 2) : cn kd (f + 1) k a = (add2 (cn kd f kd 1) (cn kd f kd 2)) := by
  conv => lhs; unfold cn
  rw [if_neg (show ¬ W_cd k a = 1 by rw [h]; decide)]
  rw [if_pos h]
theorem ev_10 {kd f k a r : Nat} {ix x : Int32} {tr : Nat → Int32} (h : W_cd k a = 10) : ev kd ix (f + 1) k a x tr r = (let p := ev kd ix f kd 0 x (upd tr r (nI (W_cd k a))) (r + 1); (p.1, p.2.1, p.2.2 * 2)) := by
  conv => lhs; unfold ev
  rw [if_neg (show ¬ W_cd k a = 1 by rw [h]; decide)]
  rw [if_neg (show ¬ W_cd k a = 2 by rw [h]; decide)]
  rw [if_pos h]
theorem cn_10 {kd f k a : Nat} (h : W_cd k a = 10) : cn kd (f + 1) k a = (add1 (cn kd f kd 0)) := by
  conv => lhs; unfold cn
  rw [if_neg (show ¬ W_cd k a = 1 by rw [h]; decide)]
  rw [if_neg (show ¬ W_cd k a = 2 by rw [h]; decide)]
  rw [if_pos h]
theorem ev_11 {kd f k a r : Nat} {ix x : Int32} {tr : Nat → Int32} (h : W_cd k a = 11) : ev kd ix (f + 1) k a x tr r = ((upd tr r (nI (W_cd k a)), r + 1, x ^^^ ix)) := by
  conv => lhs; unfold ev
  rw [if_neg (show ¬ W_cd k a = 1 by rw [h]; decide)]
  rw [if_neg (show ¬ W_cd k a = 2 by rw [h]; decide)]
  rw [if_neg (show ¬ W_cd k a = 10 by rw [h]; decide)]
  rw [if_pos h]
theorem cn_11 {kd f k a : Nat} (h : W_cd k a = 11) : cn kd (f + 1) k a = (some 1) := by
  conv => lhs; unfold cn
  rw [if_neg (show ¬ W_cd k a = 1 by rw [h]; decide)]
  rw [if_neg (show ¬ W_cd k a = 2 by rw [h]; decide)]
  rw [if_neg (show ¬ W_cd k a = 10 by rw [h]; decide)]
  rw [if_pos h]
theorem ev_20 {kd f k a r : Nat} {ix x : Int32} {tr : Nat → Int32} (h : W_cd k a = 20) : ev kd ix (f + 1) k a x tr r = (let p := ev kd ix f (W_up k a) 0 x (upd tr r (nI (W_cd k a))) (r + 1); (p.1, p.2.1, p.2.2 + 3)) := by
  conv => lhs; unfold ev
  rw [if_neg (show ¬ W_cd k a = 1 by rw [h]; decide)]
  rw [if_neg (show ¬ W_cd k a = 2 by rw [h]; decide)]
  rw [if_neg (show ¬ W_cd k a = 10 by rw [h]; decide)]
  rw [if_neg (show ¬ W_cd k a = 11 by rw [h]; decide)]
  rw [if_pos h]
theorem cn_20 {kd f k a : Nat} (h : W_cd k a = 20) : cn kd (f + 1) k a = (add1 (cn kd f (W_up k a) 0)) := by
  conv => lhs; unfold cn
  rw [if_neg (show ¬ W_cd k a = 1 by rw [h]; decide)]
  rw [if_neg (show ¬ W_cd k a = 2 by rw [h]; decide)]
  rw [if_neg (show ¬ W_cd k a = 10 by rw [h]; decide)]
  rw [if_neg (show ¬ W_cd k a = 11 by rw [h]; decide)]
  rw [if_pos h]
theorem ev_30 {kd f k a r : Nat} {ix x : Int32} {tr : Nat → Int32} (h : W_cd k a = 30) : ev kd ix (f + 1) k a x tr r = (let p := ev kd ix f (W_up k a) 1 x (upd tr r (nI (W_cd k a))) (r + 1); (p.1, p.2.1, -p.2.2)) := by
  conv => lhs; unfold ev
  rw [if_neg (show ¬ W_cd k a = 1 by rw [h]; decide)]
  rw [if_neg (show ¬ W_cd k a = 2 by rw [h]; decide)]
  rw [if_neg (show ¬ W_cd k a = 10 by rw [h]; decide)]
  rw [if_neg (show ¬ W_cd k a = 11 by rw [h]; decide)]
  rw [if_neg (show ¬ W_cd k a = 20 by rw [h]; decide)]
  rw [if_pos h]
theorem cn_30 {kd f k a : Nat} (h : W_cd k a = 30) : cn kd (f + 1) k a = (add1 (cn kd f (W_up k a) 1)) := by
  conv => lhs; unfold cn
  rw [if_neg (show ¬ W_cd k a = 1 by rw [h]; decide)]
  rw [if_neg (show ¬ W_cd k a = 2 by rw [h]; decide)]
  rw [if_neg (show ¬ W_cd k a = 10 by rw [h]; decide)]
  rw [if_neg (show ¬ W_cd k a = 11 by rw [h]; decide)]
  rw [if_neg (show ¬ W_cd k a = 20 by rw [h]; decide)]
  rw [if_pos h]
theorem ev_40 {kd f k a r : Nat} {ix x : Int32} {tr : Nat → Int32} (h : W_cd k a = 40) : ev kd ix (f + 1) k a x tr r = (let p := ev kd ix f (W_up k a) 2 x (upd tr r (nI (W_cd k a))) (r + 1); (p.1, p.2.1, p.2.2 * 3)) := by
  conv => lhs; unfold ev
  rw [if_neg (show ¬ W_cd k a = 1 by rw [h]; decide)]
  rw [if_neg (show ¬ W_cd k a = 2 by rw [h]; decide)]
  rw [if_neg (show ¬ W_cd k a = 10 by rw [h]; decide)]
  rw [if_neg (show ¬ W_cd k a = 11 by rw [h]; decide)]
  rw [if_neg (show ¬ W_cd k a = 20 by rw [h]; decide)]
  rw [if_neg (show ¬ W_cd k a = 30 by rw [h]; decide)]
  rw [if_pos h]
theorem cn_40 {kd f k a : Nat} (h : W_cd k a = 40) : cn kd (f + 1) k a = (add1 (cn kd f (W_up k a) 2)) := by
  conv => lhs; unfold cn
  rw [if_neg (show ¬ W_cd k a = 1 by rw [h]; decide)]
  rw [if_neg (show ¬ W_cd k a = 2 by rw [h]; decide)]
  rw [if_neg (show ¬ W_cd k a = 10 by rw [h]; decide)]
  rw [if_neg (show ¬ W_cd k a = 11 by rw [h]; decide)]
  rw [if_neg (show ¬ W_cd k a = 20 by rw [h]; decide)]
  rw [if_neg (show ¬ W_cd k a = 30 by rw [h]; decide)]
  rw [if_pos h]
theorem ev_41 {kd f k a r : Nat} {ix x : Int32} {tr : Nat → Int32} (h : W_cd k a = 41) : ev kd ix (f + 1) k a x tr r = (let p := ev kd ix f (W_up k a) 1 (x + 1) (upd tr r (nI (W_cd k a))) (r + 1); (p.1, p.2.1, p.2.2)) := by
  conv => lhs; unfold ev
  rw [if_neg (show ¬ W_cd k a = 1 by rw [h]; decide)]
  rw [if_neg (show ¬ W_cd k a = 2 by rw [h]; decide)]
  rw [if_neg (show ¬ W_cd k a = 10 by rw [h]; decide)]
  rw [if_neg (show ¬ W_cd k a = 11 by rw [h]; decide)]
  rw [if_neg (show ¬ W_cd k a = 20 by rw [h]; decide)]
  rw [if_neg (show ¬ W_cd k a = 30 by rw [h]; decide)]
  rw [if_neg (show ¬ W_cd k a = 40 by rw [h]; decide)]
  rw [if_pos h]
theorem cn_41 {kd f k a : Nat} (h : W_cd k a = 41) : cn kd (f + 1) k a = (add1 (cn kd f (W_up k a) 1)) := by
  conv => lhs; unfold cn
  rw [if_neg (show ¬ W_cd k a = 1 by rw [h]; decide)]
  rw [if_neg (show ¬ W_cd k a = 2 by rw [h]; decide)]
  rw [if_neg (show ¬ W_cd k a = 10 by rw [h]; decide)]
  rw [if_neg (show ¬ W_cd k a = 11 by rw [h]; decide)]
  rw [if_neg (show ¬ W_cd k a = 20 by rw [h]; decide)]
  rw [if_neg (show ¬ W_cd k a = 30 by rw [h]; decide)]
  rw [if_neg (show ¬ W_cd k a = 40 by rw [h]; decide)]
  rw [if_pos h]
theorem ev_50 {kd f k a r : Nat} {ix x : Int32} {tr : Nat → Int32} (h : W_cd k a = 50) : ev kd ix (f + 1) k a x tr r = (let p := ev kd ix f (W_up k a) 2 x (upd tr r (nI (W_cd k a))) (r + 1); let q := ev kd ix f kd 0 2 p.1 p.2.1; (q.1, q.2.1, p.2.2 - q.2.2)) := by
  conv => lhs; unfold ev
  rw [if_neg (show ¬ W_cd k a = 1 by rw [h]; decide)]
  rw [if_neg (show ¬ W_cd k a = 2 by rw [h]; decide)]
  rw [if_neg (show ¬ W_cd k a = 10 by rw [h]; decide)]
  rw [if_neg (show ¬ W_cd k a = 11 by rw [h]; decide)]
  rw [if_neg (show ¬ W_cd k a = 20 by rw [h]; decide)]
  rw [if_neg (show ¬ W_cd k a = 30 by rw [h]; decide)]
  rw [if_neg (show ¬ W_cd k a = 40 by rw [h]; decide)]
  rw [if_neg (show ¬ W_cd k a = 41 by rw [h]; decide)]
  rw [if_pos h]
theorem cn_50 {kd f k a : Nat} (h : W_cd k a = 50) : cn kd (f + 1) k a = (add2 (cn kd f (W_up k a) 2) (cn kd f kd 0)) := by
  conv => lhs; unfold cn
  rw [if_neg (show ¬ W_cd k a = 1 by rw [h]; decide)]
  rw [if_neg (show ¬ W_cd k a = 2 by rw [h]; decide)]
  rw [if_neg (show ¬ W_cd k a = 10 by rw [h]; decide)]
  rw [if_neg (show ¬ W_cd k a = 11 by rw [h]; decide)]
  rw [if_neg (show ¬ W_cd k a = 20 by rw [h]; decide)]
  rw [if_neg (show ¬ W_cd k a = 30 by rw [h]; decide)]
  rw [if_neg (show ¬ W_cd k a = 40 by rw [h]; decide)]
  rw [if_neg (show ¬ W_cd k a = 41 by rw [h]; decide)]
  rw [if_pos h]
theorem ev_60 {kd f k a r : Nat} {ix x : Int32} {tr : Nat → Int32} (h : W_cd k a = 60) : ev kd ix (f + 1) k a x tr r = (let p := ev kd ix f (W_up k a) 3 x (upd tr r (nI (W_cd k a))) (r + 1); (p.1, p.2.1, p.2.2 ^^^ 5)) := by
  conv => lhs; unfold ev
  rw [if_neg (show ¬ W_cd k a = 1 by rw [h]; decide)]
  rw [if_neg (show ¬ W_cd k a = 2 by rw [h]; decide)]
  rw [if_neg (show ¬ W_cd k a = 10 by rw [h]; decide)]
  rw [if_neg (show ¬ W_cd k a = 11 by rw [h]; decide)]
  rw [if_neg (show ¬ W_cd k a = 20 by rw [h]; decide)]
  rw [if_neg (show ¬ W_cd k a = 30 by rw [h]; decide)]
  rw [if_neg (show ¬ W_cd k a = 40 by rw [h]; decide)]
  rw [if_neg (show ¬ W_cd k a = 41 by rw [h]; decide)]
  rw [if_neg (show ¬ W_cd k a = 50 by rw [h]; decide)]
  rw [if_pos h]
theorem cn_60 {kd f k a : Nat} (h : W_cd k a = 60) : cn kd (f + 1) k a = (add1 (cn kd f (W_up k a) 3)) := by
  conv => lhs; unfold cn
  rw [if_neg (show ¬ W_cd k a = 1 by rw [h]; decide)]
  rw [if_neg (show ¬ W_cd k a = 2 by rw [h]; decide)]
  rw [if_neg (show ¬ W_cd k a = 10 by rw [h]; decide)]
  rw [if_neg (show ¬ W_cd k a = 11 by rw [h]; decide)]
  rw [if_neg (show ¬ W_cd k a = 20 by rw [h]; decide)]
  rw [if_neg (show ¬ W_cd k a = 30 by rw [h]; decide)]
  rw [if_neg (show ¬ W_cd k a = 40 by rw [h]; decide)]
  rw [if_neg (show ¬ W_cd k a = 41 by rw [h]; decide)]
  rw [if_neg (show ¬ W_cd k a = 50 by rw [h]; decide)]
  rw [if_pos h]
theorem ev_70 {kd f k a r : Nat} {ix x : Int32} {tr : Nat → Int32} (h : W_cd k a = 70) : ev kd ix (f + 1) k a x tr r = (let p := ev kd ix f (W_up k a) 0 x (upd tr r (nI (W_cd k a))) (r + 1); (p.1, p.2.1, p.2.2 * 2)) := by
  conv => lhs; unfold ev
  rw [if_neg (show ¬ W_cd k a = 1 by rw [h]; decide)]
  rw [if_neg (show ¬ W_cd k a = 2 by rw [h]; decide)]
  rw [if_neg (show ¬ W_cd k a = 10 by rw [h]; decide)]
  rw [if_neg (show ¬ W_cd k a = 11 by rw [h]; decide)]
  rw [if_neg (show ¬ W_cd k a = 20 by rw [h]; decide)]
  rw [if_neg (show ¬ W_cd k a = 30 by rw [h]; decide)]
  rw [if_neg (show ¬ W_cd k a = 40 by rw [h]; decide)]
  rw [if_neg (show ¬ W_cd k a = 41 by rw [h]; decide)]
  rw [if_neg (show ¬ W_cd k a = 50 by rw [h]; decide)]
  rw [if_neg (show ¬ W_cd k a = 60 by rw [h]; decide)]
  rw [if_pos h]
theorem cn_70 {kd f k a : Nat} (h : W_cd k a = 70) : cn kd (f + 1) k a = (add1 (cn kd f (W_up k a) 0)) := by
  conv => lhs; unfold cn
  rw [if_neg (show ¬ W_cd k a = 1 by rw [h]; decide)]
  rw [if_neg (show ¬ W_cd k a = 2 by rw [h]; decide)]
  rw [if_neg (show ¬ W_cd k a = 10 by rw [h]; decide)]
  rw [if_neg (show ¬ W_cd k a = 11 by rw [h]; decide)]
  rw [if_neg (show ¬ W_cd k a = 20 by rw [h]; decide)]
  rw [if_neg (show ¬ W_cd k a = 30 by rw [h]; decide)]
  rw [if_neg (show ¬ W_cd k a = 40 by rw [h]; decide)]
  rw [if_neg (show ¬ W_cd k a = 41 by rw [h]; decide)]
  rw [if_neg (show ¬ W_cd k a = 50 by rw [h]; decide)]
  rw [if_neg (show ¬ W_cd k a = 60 by rw [h]; decide)]
  rw [if_pos h]
theorem ev_80 {kd f k a r : Nat} {ix x : Int32} {tr : Nat → Int32} (h : W_cd k a = 80) : ev kd ix (f + 1) k a x tr r = (let p := ev kd ix f (W_up k a) 1 x (upd tr r (nI (W_cd k a))) (r + 1); let q := ev kd ix f kd 2 2 p.1 p.2.1; (q.1, q.2.1, p.2.2 + q.2.2)) := by
  conv => lhs; unfold ev
  rw [if_neg (show ¬ W_cd k a = 1 by rw [h]; decide)]
  rw [if_neg (show ¬ W_cd k a = 2 by rw [h]; decide)]
  rw [if_neg (show ¬ W_cd k a = 10 by rw [h]; decide)]
  rw [if_neg (show ¬ W_cd k a = 11 by rw [h]; decide)]
  rw [if_neg (show ¬ W_cd k a = 20 by rw [h]; decide)]
  rw [if_neg (show ¬ W_cd k a = 30 by rw [h]; decide)]
  rw [if_neg (show ¬ W_cd k a = 40 by rw [h]; decide)]
  rw [if_neg (show ¬ W_cd k a = 41 by rw [h]; decide)]
  rw [if_neg (show ¬ W_cd k a = 50 by rw [h]; decide)]
  rw [if_neg (show ¬ W_cd k a = 60 by rw [h]; decide)]
  rw [if_neg (show ¬ W_cd k a = 70 by rw [h]; decide)]
  rw [if_pos h]
theorem cn_80 {kd f k a : Nat} (h : W_cd k a = 80) : cn kd (f + 1) k a = (add2 (cn kd f (W_up k a) 1) (cn kd f kd 2)) := by
  conv => lhs; unfold cn
  rw [if_neg (show ¬ W_cd k a = 1 by rw [h]; decide)]
  rw [if_neg (show ¬ W_cd k a = 2 by rw [h]; decide)]
  rw [if_neg (show ¬ W_cd k a = 10 by rw [h]; decide)]
  rw [if_neg (show ¬ W_cd k a = 11 by rw [h]; decide)]
  rw [if_neg (show ¬ W_cd k a = 20 by rw [h]; decide)]
  rw [if_neg (show ¬ W_cd k a = 30 by rw [h]; decide)]
  rw [if_neg (show ¬ W_cd k a = 40 by rw [h]; decide)]
  rw [if_neg (show ¬ W_cd k a = 41 by rw [h]; decide)]
  rw [if_neg (show ¬ W_cd k a = 50 by rw [h]; decide)]
  rw [if_neg (show ¬ W_cd k a = 60 by rw [h]; decide)]
  rw [if_neg (show ¬ W_cd k a = 70 by rw [h]; decide)]
  rw [if_pos h]
theorem ev_81 {kd f k a r : Nat} {ix x : Int32} {tr : Nat → Int32} (h : W_cd k a = 81) : ev kd ix (f + 1) k a x tr r = (let p := ev kd ix f (W_up k a) 3 x (upd tr r (nI (W_cd k a))) (r + 1); (p.1, p.2.1, p.2.2 - 1)) := by
  conv => lhs; unfold ev
  rw [if_neg (show ¬ W_cd k a = 1 by rw [h]; decide)]
  rw [if_neg (show ¬ W_cd k a = 2 by rw [h]; decide)]
  rw [if_neg (show ¬ W_cd k a = 10 by rw [h]; decide)]
  rw [if_neg (show ¬ W_cd k a = 11 by rw [h]; decide)]
  rw [if_neg (show ¬ W_cd k a = 20 by rw [h]; decide)]
  rw [if_neg (show ¬ W_cd k a = 30 by rw [h]; decide)]
  rw [if_neg (show ¬ W_cd k a = 40 by rw [h]; decide)]
  rw [if_neg (show ¬ W_cd k a = 41 by rw [h]; decide)]
  rw [if_neg (show ¬ W_cd k a = 50 by rw [h]; decide)]
  rw [if_neg (show ¬ W_cd k a = 60 by rw [h]; decide)]
  rw [if_neg (show ¬ W_cd k a = 70 by rw [h]; decide)]
  rw [if_neg (show ¬ W_cd k a = 80 by rw [h]; decide)]
  rw [if_pos h]
theorem cn_81 {kd f k a : Nat} (h : W_cd k a = 81) : cn kd (f + 1) k a = (add1 (cn kd f (W_up k a) 3)) := by
  conv => lhs; unfold cn
  rw [if_neg (show ¬ W_cd k a = 1 by rw [h]; decide)]
  rw [if_neg (show ¬ W_cd k a = 2 by rw [h]; decide)]
  rw [if_neg (show ¬ W_cd k a = 10 by rw [h]; decide)]
  rw [if_neg (show ¬ W_cd k a = 11 by rw [h]; decide)]
  rw [if_neg (show ¬ W_cd k a = 20 by rw [h]; decide)]
  rw [if_neg (show ¬ W_cd k a = 30 by rw [h]; decide)]
  rw [if_neg (show ¬ W_cd k a = 40 by rw [h]; decide)]
  rw [if_neg (show ¬ W_cd k a = 41 by rw [h]; decide)]
  rw [if_neg (show ¬ W_cd k a = 50 by rw [h]; decide)]
  rw [if_neg (show ¬ W_cd k a = 60 by rw [h]; decide)]
  rw [if_neg (show ¬ W_cd k a = 70 by rw [h]; decide)]
  rw [if_neg (show ¬ W_cd k a = 80 by rw [h]; decide)]
  rw [if_pos h]
theorem ev_r {kd : Nat} {ix : Int32} (hkd : kd ≤ 7) : ∀ (f k a : Nat) (x : Int32) (tr : Nat → Int32) (r n : Nat), k ≤ 7 → a ≤ 3 → cn kd f k a = some n → (ev kd ix f k a x tr r).2.1 = r + n
  | 0, k, a, x, tr, r, n, hk, ha, h => by cases h
  | f + 1, k, a, x, tr, r, n, hk, ha, h => by
    have ih := ev_r (ix := ix) hkd f
    obtain ⟨o1, o2, o3, o4⟩ := cd_ok k hk a ha
    rcases cd_all k hk a ha with e | e | e | e | e | e | e | e | e | e | e | e | e
    · rw [cn_1 e] at h
      rw [ev_1 e]
      have := Option.some.inj h
      show r + 1 = r + n
      omega
    · rw [cn_2 e] at h
      rw [ev_2 e]
      obtain ⟨p, q, h1, h2, hn⟩ := add2_s h
      refine (ih _ _ _ _ _ q hkd (by decide) h2).trans ?_
      rw [ih _ _ _ _ _ p hkd (by decide) h1]
      omega
    · rw [cn_10 e] at h
      rw [ev_10 e]
      obtain ⟨p, h1, hn⟩ := add1_s h
      refine (ih _ _ _ _ _ p hkd (by decide) h1).trans ?_
      omega
    · rw [cn_11 e] at h
      rw [ev_11 e]
      have := Option.some.inj h
      show r + 1 = r + n
      omega
    · rw [cn_20 e] at h
      rw [ev_20 e]
      obtain ⟨p, h1, hn⟩ := add1_s h
      refine (ih _ _ _ _ _ p o3 (by decide) h1).trans ?_
      omega
    · rw [cn_30 e] at h
      rw [ev_30 e]
      obtain ⟨p, h1, hn⟩ := add1_s h
      refine (ih _ _ _ _ _ p o3 (by decide) h1).trans ?_
      omega
    · rw [cn_40 e] at h
      rw [ev_40 e]
      obtain ⟨p, h1, hn⟩ := add1_s h
      refine (ih _ _ _ _ _ p o3 (by decide) h1).trans ?_
      omega
    · rw [cn_41 e] at h
      rw [ev_41 e]
      obtain ⟨p, h1, hn⟩ := add1_s h
      refine (ih _ _ _ _ _ p o3 (by decide) h1).trans ?_
      omega
    · rw [cn_50 e] at h
      rw [ev_50 e]
      obtain ⟨p, q, h1, h2, hn⟩ := add2_s h
      refine (ih _ _ _ _ _ q hkd (by decide) h2).trans ?_
      rw [ih _ _ _ _ _ p o3 (by decide) h1]
      omega
    · rw [cn_60 e] at h
      rw [ev_60 e]
      obtain ⟨p, h1, hn⟩ := add1_s h
      refine (ih _ _ _ _ _ p o3 (by decide) h1).trans ?_
      omega
    · rw [cn_70 e] at h
      rw [ev_70 e]
      obtain ⟨p, h1, hn⟩ := add1_s h
      refine (ih _ _ _ _ _ p o3 (by decide) h1).trans ?_
      omega
    · rw [cn_80 e] at h
      rw [ev_80 e]
      obtain ⟨p, q, h1, h2, hn⟩ := add2_s h
      refine (ih _ _ _ _ _ q hkd (by decide) h2).trans ?_
      rw [ih _ _ _ _ _ p o3 (by decide) h1]
      omega
    · rw [cn_81 e] at h
      rw [ev_81 e]
      obtain ⟨p, h1, hn⟩ := add1_s h
      refine (ih _ _ _ _ _ p o3 (by decide) h1).trans ?_
      omega
