/-! what the walks use: weaker ends, words of the methods, small rows -/
theorem pm_R.mono {d y : Nat} {av : List Value} {H : pmT} {Q Q' : pmQ} (h : pm_R d y av H Q) (hq : ∀ v H', Q v H' → Q' v H') : pm_R d y av H Q' := by
  refine ⟨h.1, fun l D tc ad sz => ?_⟩
  intro p e ha hc hk s m args below hf happ hP hK
  obtain ⟨n, o, h1, h2, h3, h4, h5⟩ := h.2 l D tc ad sz p e ha hc hk s m args below hf happ hP hK
  refine ⟨n, o, h1, h2, h3, ?_, h5⟩
  generalize stepsAlone p.tables e n s = tt at h4
  generalize pm_rk y = rk at h4
  match rk, h4 with
  | 0, h4 =>
    obtain ⟨⟨u, q1, q2, q3⟩, q4⟩ := h4
    exact ⟨⟨u, q1, hq _ _ q2, q3⟩, q4⟩
  | 1, h4 =>
    obtain ⟨⟨r, u, q1, q2, q3⟩, q4⟩ := h4
    exact ⟨⟨r, u, q1, hq _ _ q2, q3⟩, q4⟩
  | _ + 2, h4 =>
    obtain ⟨⟨r, u, q1, q2, q3⟩, q4⟩ := h4
    exact ⟨⟨r, u, q1, hq _ _ q2, q3⟩, q4⟩
theorem pm_mi {d y : Nat} {av : List Value} {H : pmT} {f g : Int32 → pmT → Prop} (h : pm_R d y av H (pm_i f)) (hq : ∀ x H', f x H' → g x H') : pm_R d y av H (pm_i g) := h.mono fun v H' q => by
  cases v with
  | none => exact False.elim q
  | some w => cases w <;> first | exact hq _ _ q | exact False.elim q
theorem pm_ml' {d y : Nat} {av : List Value} {H : pmT} {f g : Int64 → pmT → Prop} (h : pm_R d y av H (pm_l f)) (hq : ∀ x H', f x H' → g x H') : pm_R d y av H (pm_l g) := h.mono fun v H' q => by
  cases v with
  | none => exact False.elim q
  | some w => cases w <;> first | exact hq _ _ q | exact False.elim q
theorem pm_mv' {d y : Nat} {av : List Value} {H : pmT} {f g : pmT → Prop} (h : pm_R d y av H (pm_v f)) (hq : ∀ H', f H' → g H') : pm_R d y av H (pm_v g) := h.mono fun v H' q => by
  cases v with
  | none => exact hq _ q
  | some w => exact False.elim q
theorem pm_nb (n : Nat) : Nat.beq n n = true := by
  cases hb : Nat.beq n n with
  | true => rfl
  | false => exact absurd rfl (Nat.ne_of_beq_eq_false hb)
theorem pm_mkO {o ci : Nat} {P : Prop} (e : pm_SH[o]? = some (.inl ci)) (h : P) : pm_chkO o ci P := by
  unfold pm_chkO
  rw [e]
  show cond (Nat.beq ci ci) P False
  rw [pm_nb]
  exact h
theorem pm_mkA {o t n : Nat} {f : Nat → Prop} (e : pm_SH[o]? = some (.inr (t, n))) (h : f n) : pm_chkA o t f := by
  unfold pm_chkA
  rw [e]
  show cond (Nat.beq t t) (f n) False
  rw [pm_nb]
  exact h
theorem pm_mO {o ci : Nat} {P P' : Prop} (h : pm_chkO o ci P) (hq : P → P') : pm_chkO o ci P' := by
  obtain ⟨e, hp⟩ := pm_chkO_of h
  exact pm_mkO e (hq hp)
theorem pm_mA {o t : Nat} {f g : Nat → Prop} (h : pm_chkA o t f) (hq : ∀ n, f n → g n) : pm_chkA o t g := by
  obtain ⟨n, e, hp⟩ := pm_chkA_of h
  exact pm_mkA e (hq n hp)
def pm_okmB (y i1 i2 i3 i4 : Nat) : Bool := pm_wb i1 (Cond.code (pm_nm y) (pm_by y) (pm_ml y) (pm_rt y)) && (plainName (pm_nm y).cls && (decide ((pm_nm y).cls ≠ "java/lang/invoke/MethodHandle" ∧ (pm_nm y).cls ≠ "java/lang/invoke/VarHandle") && (pm_wb i2 (Cond.initialized (pm_nm y).cls) && (Nat.ble (pm_ml y) 45 &&
  cond (pm_sta y) (pm_wb i3 (Cond.static (pm_nm y))) (pm_wb i3 (Cond.instanceMethod (pm_nm y)) && pm_wb i4 (Cond.selects (pm_nm y).cls (pm_nm y) (pm_nm y)))))))
theorem pm_okm_of (y i1 i2 i3 i4 : Nat) (h : pm_okmB y i1 i2 i3 i4 = true) : pm_okm y := by
  simp only [pm_okmB, Bool.and_eq_true] at h
  obtain ⟨h1, h2, h3, h4, h5, h6⟩ := h
  refine ⟨pm_wb_of h1, h2, of_decide_eq_true h3, pm_wb_of h4, Nat.le_of_ble_eq_true h5, ?_⟩
  cases hs : pm_sta y with
  | true => rw [hs] at h6; exact pm_wb_of h6
  | false =>
    rw [hs] at h6
    simp only [cond_false, Bool.and_eq_true] at h6
    exact ⟨pm_wb_of h6.1, pm_wb_of h6.2⟩
/-- a place that is written is in its row -/
theorem pm_ik {i : Int32} {n : Nat} (h : decide (¬ (i < 0 ∨ n ≤ i.toNatClampNeg)) = true) : vp_in i n := by
  unfold vp_in
  exact of_decide_eq_true h
theorem pm_ck {sp dp n : Int32} {n0 n1 : Nat} (h : decide (¬ sp < 0 ∧ ¬ dp < 0 ∧ ¬ n < 0 ∧ sp.toNatClampNeg + n.toNatClampNeg ≤ n0 ∧ dp.toNatClampNeg + n.toNatClampNeg ≤ n1) = true) : pm_cpin sp dp n n0 n1 := by
  unfold pm_cpin
  exact of_decide_eq_true h
theorem pm_shO {i : Int32} (h : vp_in i 6) : pm_SH[43 + 2 * i.toNatClampNeg]? = some (.inl 7) := by
  have hlt : i.toNatClampNeg < 6 := Nat.not_le.mp fun z => h (Or.inr z)
  generalize i.toNatClampNeg = k at hlt
  match k, hlt with
  | 0, _ => rfl
  | 1, _ => rfl
  | 2, _ => rfl
  | 3, _ => rfl
  | 4, _ => rfl
  | 5, _ => rfl
theorem pm_shA {i : Int32} (h : vp_in i 6) : pm_SH[43 + 2 * i.toNatClampNeg + 1]? = some (.inr (1, 60)) := by
  have hlt : i.toNatClampNeg < 6 := Nat.not_le.mp fun z => h (Or.inr z)
  generalize i.toNatClampNeg = k at hlt
  match k, hlt with
  | 0, _ => rfl
  | 1, _ => rfl
  | 2, _ => rfl
  | 3, _ => rfl
  | 4, _ => rfl
  | 5, _ => rfl
theorem pm_s0 {k : Nat} (h : k < 6) : pm_SH[43 + 2 * k]? = some (.inl 7) := by
  match k, h with
  | 0, _ => rfl
  | 1, _ => rfl
  | 2, _ => rfl
  | 3, _ => rfl
  | 4, _ => rfl
  | 5, _ => rfl
theorem pm_s1' {k : Nat} (h : k < 6) : pm_SH[43 + 2 * k + 1]? = some (.inr (1, 60)) := by
  match k, h with
  | 0, _ => rfl
  | 1, _ => rfl
  | 2, _ => rfl
  | 3, _ => rfl
  | 4, _ => rfl
  | 5, _ => rfl
