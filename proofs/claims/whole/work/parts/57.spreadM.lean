/-! how to spread: the class goes through the days forward, the reference backward -/
def W_ev (hb : Nat → Nat) (L : Law) (d : Nat → Nat) : Nat → Nat → Row → Row
  | 0, _, r => r
  | m + 1, j, r => W_ev hb L d m (j + 1) (W_sleep hb (Wp hb L (d j) r) (hb 2))
def Cd (d : Nat → Nat) : Nat → Nat
  | 0 => 0
  | m + 1 => Cd d m + d m * 13 ^ m
def Ds (d : Nat → Nat) : Nat → Nat → Nat
  | 0, _ => 0
  | m + 1, j => d j + Ds d m (j + 1)
theorem Cd_lt {d : Nat → Nat} : ∀ m, (∀ j, j < m → d j ≤ 12) → Cd d m < 13 ^ m
  | 0, _ => Nat.one_pos
  | m + 1, h => by
    have ih := Cd_lt (d := d) m (fun j hj => h j (by omega))
    have h1 : d m * 13 ^ m ≤ 12 * 13 ^ m := Nat.mul_le_mul_right _ (h m (by omega))
    unfold Cd
    rw [Nat.pow_succ]
    generalize 13 ^ m = p at ih h1
    omega
theorem Cd_congr {d e : Nat → Nat} : ∀ m, (∀ j, j < m → d j = e j) → Cd d m = Cd e m
  | 0, _ => rfl
  | m + 1, h => by
    unfold Cd
    rw [Cd_congr m (fun j hj => h j (by omega)), h m (by omega)]
theorem Ds_congr {d e : Nat → Nat} : ∀ m j, (∀ i, j ≤ i → i < j + m → d i = e i) → Ds d m j = Ds e m j
  | 0, _, _ => rfl
  | m + 1, j, h => by
    unfold Ds
    rw [Ds_congr m (j + 1) (fun i h1 h2 => h i (by omega) (by omega)), h j (Nat.le_refl _) (by omega)]
theorem Ds_snoc {d : Nat → Nat} : ∀ m j, Ds d (m + 1) j = Ds d m j + d (j + m)
  | 0, j => by show d j + 0 = 0 + d j; omega
  | m + 1, j => by
    show d j + Ds d (m + 1) (j + 1) = d j + Ds d m (j + 1) + d (j + (m + 1))
    rw [Ds_snoc m (j + 1), show j + 1 + m = j + (m + 1) by omega]
    omega
theorem Ds_ge {d : Nat → Nat} : ∀ m j i, j ≤ i → i < j + m → d i ≤ Ds d m j
  | 0, j, i, h1, h2 => by omega
  | m + 1, j, i, h1, h2 => by
    unfold Ds
    by_cases e : i = j
    · rw [e]; omega
    · have := Ds_ge (d := d) m (j + 1) i (by omega) (by omega)
      omega
theorem W_ev_congr {hb : Nat → Nat} {L : Law} {d e : Nat → Nat} : ∀ m j r, (∀ i, j ≤ i → i < j + m → d i = e i) → W_ev hb L d m j r = W_ev hb L e m j r
  | 0, _, _, _ => rfl
  | m + 1, j, r, h => by
    unfold W_ev
    rw [h j (Nat.le_refl _) (by omega)]
    exact W_ev_congr m (j + 1) _ (fun i h1 h2 => h i (by omega) (by omega))
theorem later_iff {D B : Nat → Nat} : ∀ m, (∀ j, j < m → D j ≤ 12) → (∀ j, j < m → B j ≤ 12) → (W_later D B m = true ↔ Cd B m < Cd D m)
  | 0, _, _ => ⟨fun z => absurd (show false = true from z) (by decide), fun z => absurd z (Nat.lt_irrefl _)⟩
  | m + 1, h1, h2 => by
    have ih := later_iff (D := D) (B := B) m (fun j hj => h1 j (by omega)) (fun j hj => h2 j (by omega))
    have l1 := Cd_lt (d := D) m (fun j hj => h1 j (by omega))
    have l2 := Cd_lt (d := B) m (fun j hj => h2 j (by omega))
    unfold W_later Cd
    by_cases c : D m = B m
    · rw [if_pos c, c, ih]
      omega
    · rw [if_neg c, decide_eq_true_eq]
      generalize 13 ^ m = p at l1 l2
      generalize Cd D m = x at l1
      generalize Cd B m = y at l2
      rcases Nat.lt_or_gt_of_ne c with g | g
      · have : (D m + 1) * p ≤ B m * p := Nat.mul_le_mul_right _ g
        rw [Nat.add_mul, Nat.one_mul] at this
        omega
      · have : (B m + 1) * p ≤ D m * p := Nat.mul_le_mul_right _ g
        rw [Nat.add_mul, Nat.one_mul] at this
        omega
theorem Cd_inj {D B : Nat → Nat} : ∀ m, (∀ j, j < m → D j ≤ 12) → (∀ j, j < m → B j ≤ 12) → Cd D m = Cd B m → ∀ j, j < m → D j = B j
  | 0, _, _, _, j, hj => by omega
  | m + 1, h1, h2, e, j, hj => by
    have l1 := Cd_lt (d := D) m (fun j hj => h1 j (by omega))
    have l2 := Cd_lt (d := B) m (fun j hj => h2 j (by omega))
    have ih := Cd_inj (D := D) (B := B) m (fun j hj => h1 j (by omega)) (fun j hj => h2 j (by omega))
    unfold Cd at e
    have em : D m = B m := by
      generalize 13 ^ m = p at l1 l2 e
      generalize Cd D m = x at l1 e
      generalize Cd B m = y at l2 e
      rcases Nat.lt_trichotomy (D m) (B m) with g | g | g
      · have : (D m + 1) * p ≤ B m * p := Nat.mul_le_mul_right _ g
        rw [Nat.add_mul, Nat.one_mul] at this
        omega
      · exact g
      · have : (B m + 1) * p ≤ D m * p := Nat.mul_le_mul_right _ g
        rw [Nat.add_mul, Nat.one_mul] at this
        omega
    by_cases c : j = m
    · rw [c]; exact em
    · rw [em] at e
      exact ih (by omega) j (by omega)
theorem Cd_up {d e : Nat → Nat} {day : Nat} : ∀ m, day < m → (∀ j, day < j → j < m → d j = e j) → d day < e day → (∀ j, j < day → d j ≤ 12) → Cd d m < Cd e m
  | 0, h, _, _, _ => by omega
  | m + 1, h, h1, h2, h3 => by
    by_cases c : day = m
    · subst c
      have l1 := Cd_lt (d := d) day h3
      have : (d day + 1) * 13 ^ day ≤ e day * 13 ^ day := Nat.mul_le_mul_right _ h2
      unfold Cd
      rw [Nat.add_mul, Nat.one_mul] at this
      generalize 13 ^ day = p at l1 this
      omega
    · have ih := Cd_up (d := d) (e := e) (day := day) m (by omega) (fun j a b => h1 j a (by omega)) h2 h3
      unfold Cd
      rw [h1 m (by omega) (by omega)]
      omega
theorem p13 {days : Nat} (h : days ≤ 5) : 13 ^ days ≤ 371293 := Nat.le_trans (Nat.pow_le_pow_right (by decide) h) (by decide)
def KV (v : Int) (c : Nat) : Int := v * 371293 + c
def Good (st : Spr) : Prop := (∀ j, j < 5 → st.1 j ≤ 12) ∧ ∀ j, j < 5 → st.2.2 j ≤ 12
def kst (days : Nat) (st : Spr) : Int := KV st.2.1 (Cd st.2.2 days)
def Kd (hb : Nat → Nat) (L : Law) (days m day : Nat) (r : Row) (d : Nat → Nat) : Int := KV (W_lead (W_ev hb L d m day r)) (Cd d days)
theorem weigh_ok {days : Nat} (h5 : days ≤ 5) {r : Row} {st : Spr} (hg : Good st) : Good (W_weigh days r st) ∧ (W_weigh days r st).1 = st.1 ∧ kst days st ≤ kst days (W_weigh days r st) ∧ KV (W_lead r) (Cd st.1 days) ≤ kst days (W_weigh days r st) ∧ ((W_weigh days r st).2 = st.2 ∨ (W_weigh days r st).2 = (W_lead r, st.1)) := by
  have l1 := Cd_lt (d := st.1) days (fun j hj => hg.1 j (by omega))
  have l2 := Cd_lt (d := st.2.2) days (fun j hj => hg.2 j (by omega))
  have l5 := p13 h5
  have hl := later_iff (D := st.1) (B := st.2.2) days (fun j hj => hg.1 j (by omega)) (fun j hj => hg.2 j (by omega))
  unfold W_weigh
  by_cases c : st.2.1 < W_lead r ∨ W_lead r = st.2.1 ∧ W_later st.1 st.2.2 days = true
  · rw [if_pos c]
    refine ⟨⟨hg.1, hg.1⟩, rfl, ?_, Int.le_refl _, Or.inr rfl⟩
    show KV st.2.1 (Cd st.2.2 days) ≤ KV (W_lead r) (Cd st.1 days)
    unfold KV
    rw [hl] at c
    omega
  · rw [if_neg c]
    refine ⟨hg, rfl, Int.le_refl _, ?_, Or.inl rfl⟩
    show KV (W_lead r) (Cd st.1 days) ≤ KV st.2.1 (Cd st.2.2 days)
    unfold KV
    rw [hl] at c
    omega
/-- what a way through the days from one on does -/
def Sub (hb : Nat → Nat) (L : Law) (days day m : Nat) (f : Nat → Row → Spr → Spr) : Prop := ∀ left r st, left ≤ 12 → (m = 0 → left = 0) → Good st → Good (f left r st) ∧ (∀ j, j < day → (f left r st).1 j = st.1 j) ∧ kst days st ≤ kst days (f left r st) ∧ (∀ d, (∀ j, j < day → d j = st.1 j) → Ds d m day = left → Kd hb L days m day r d ≤ kst days (f left r st)) ∧ ((f left r st).2 = st.2 ∨ ∃ d, (∀ j, j < day → d j = st.1 j) ∧ Ds d m day = left ∧ (f left r st).2 = (W_lead (W_ev hb L d m day r), d))
theorem put_st {st : Spr} {day k j : Nat} : (W_put st day k).1 j = if j = day then k else st.1 j := rfl
theorem dlp_ok {hb : Nat → Nat} {L : Law} {last day left m' : Nat} {r : Row} {sub : Nat → Row → Spr → Spr} (hl12 : left ≤ 12) (hday : day = last ↔ m' = 0) (hsub : Sub hb L (last + 1) (day + 1) m' sub) : ∀ (i k : Nat) (rk : Row) (st : Spr), i + k = left + 1 → (if k = 0 then rk else W_play hb L rk 1) = Wp hb L k r → Good st → Good (W_dlp hb L last day left sub i k rk st) ∧ (∀ j, j < day → (W_dlp hb L last day left sub i k rk st).1 j = st.1 j) ∧ kst (last + 1) st ≤ kst (last + 1) (W_dlp hb L last day left sub i k rk st) ∧ (∀ d, (∀ j, j < day → d j = st.1 j) → Ds d (m' + 1) day = left → k ≤ d day → Kd hb L (last + 1) (m' + 1) day r d ≤ kst (last + 1) (W_dlp hb L last day left sub i k rk st)) ∧ ((W_dlp hb L last day left sub i k rk st).2 = st.2 ∨ ∃ d, (∀ j, j < day → d j = st.1 j) ∧ Ds d (m' + 1) day = left ∧ (W_dlp hb L last day left sub i k rk st).2 = (W_lead (W_ev hb L d (m' + 1) day r), d))
  | 0, k, rk, st, hi, hk, hg => ⟨hg, fun _ _ => rfl, Int.le_refl _, fun d _ h2 h3 => by
      have : d day ≤ Ds d (m' + 1) day := Ds_ge (m' + 1) day day (Nat.le_refl _) (by omega)
      omega, Or.inl rfl⟩
  | i + 1, k, rk, st, hi, hk, hg => by
    have ih := dlp_ok (hb := hb) (L := L) (r := r) hl12 hday hsub i (k + 1)
    have hk1 : (if k + 1 = 0 then Wp hb L k r else W_play hb L (Wp hb L k r) 1) = Wp hb L (k + 1) r := if_neg (by omega)
    unfold W_dlp
    simp only [hk]
    by_cases c : day = last ∧ k < left
    · rw [if_pos c]
      obtain ⟨g1, g2, g3, g4, g5⟩ := ih (Wp hb L k r) st (by omega) hk1 hg
      refine ⟨g1, g2, g3, fun d h1 h2 h3 => g4 d h1 h2 ?_, g5⟩
      have hm := hday.mp c.1
      subst hm
      have : Ds d (0 + 1) day = d day + 0 := rfl
      omega
    · rw [if_neg c]
      have hput : Good (W_put st day k) := ⟨fun j hj => by
        rw [put_st]
        split
        · omega
        · exact hg.1 j hj, hg.2⟩
      have hm0 : m' = 0 → left - k = 0 := fun z => by have := hday.mpr z; omega
      obtain ⟨s1, s2, s3, s4, s5⟩ := hsub (left - k) (W_sleep hb (Wp hb L k r) (hb 2)) (W_put st day k) (by omega) hm0 hput
      generalize sub (left - k) (W_sleep hb (Wp hb L k r) (hb 2)) (W_put st day k) = st1 at s1 s2 s3 s4 s5
      obtain ⟨g1, g2, g3, g4, g5⟩ := ih (Wp hb L k r) st1 (by omega) hk1 s1
      have e1 : ∀ j, j < day → st1.1 j = st.1 j := fun j hj => by
        rw [s2 j (by omega), put_st, if_neg (by omega)]
      have k0 : kst (last + 1) (W_put st day k) = kst (last + 1) st := rfl
      refine ⟨g1, fun j hj => (g2 j hj).trans (e1 j hj), by rw [← k0]; exact Int.le_trans s3 g3, fun d h1 h2 h3 => ?_, ?_⟩
      · by_cases ek : d day = k
        · refine Int.le_trans ?_ g3
          have h2' : d day + Ds d m' (day + 1) = left := h2
          have := s4 d (fun j hj => by
            rw [put_st]
            by_cases z : j = day
            · rw [if_pos z, z]; exact ek
            · rw [if_neg z]; exact h1 j (by omega)) (by omega)
          have eK : Kd hb L (last + 1) (m' + 1) day r d = Kd hb L (last + 1) m' (day + 1) (W_sleep hb (Wp hb L k r) (hb 2)) d := by
            rw [← ek]; rfl
          rw [eK]
          exact this
        · exact g4 d (fun j hj => (h1 j hj).trans (e1 j hj).symm) h2 (by omega)
      · rcases g5 with g5 | ⟨d, q1, q2, q3⟩
        · rw [g5]
          rcases s5 with s5 | ⟨d, q1, q2, q3⟩
          · exact Or.inl s5
          · refine Or.inr ⟨d, fun j hj => ?_, ?_, ?_⟩
            · have := q1 j (by omega)
              rw [put_st, if_neg (by omega)] at this
              exact this
            · have ed := q1 day (by omega)
              rw [put_st, if_pos rfl] at ed
              show d day + Ds d m' (day + 1) = left
              omega
            · have ed := q1 day (by omega)
              rw [put_st, if_pos rfl] at ed
              rw [q3, ← ed]
              rfl
        · exact Or.inr ⟨d, fun j hj => (q1 j hj).trans (e1 j hj), q2, q3⟩
theorem day_ok {hb : Nat → Nat} {L : Law} {last : Nat} (hl : last < 5) : ∀ (q day : Nat), day + q = last → Sub hb L (last + 1) day (q + 1) (fun l r st => W_day hb L last (q + 1) day l r st)
  | 0, day, hd => by
    intro left r st hl12 _ hg
    have hsub : Sub hb L (last + 1) (day + 1) 0 (fun l r' st' => if day = last then W_weigh (last + 1) r' st' else W_day hb L last 0 (day + 1) l r' st') := by
      intro left' r' st' _ h0 hg'
      simp only [if_pos (show day = last by omega)]
      obtain ⟨w1, w2, w3, w4, w5⟩ := weigh_ok (days := last + 1) (by omega) (r := r') hg'
      refine ⟨w1, fun j _ => by rw [w2], w3, fun d h1 _ => ?_, ?_⟩
      · have : Cd d (last + 1) = Cd st'.1 (last + 1) := Cd_congr _ (fun j hj => h1 j (by omega))
        unfold Kd
        rw [this]
        exact w4
      · rcases w5 with w5 | w5
        · exact Or.inl w5
        · exact Or.inr ⟨st'.1, fun _ _ => rfl, (h0 rfl).symm, w5⟩
    have := dlp_ok (hb := hb) (L := L) (last := last) (day := day) (r := r) hl12 (by omega) hsub (left + 1) 0 r st (by omega) rfl hg
    obtain ⟨g1, g2, g3, g4, g5⟩ := this
    exact ⟨g1, g2, g3, fun d h1 h2 => g4 d h1 h2 (Nat.zero_le _), g5⟩
  | q + 1, day, hd => by
    intro left r st hl12 _ hg
    have ih := day_ok (hb := hb) (L := L) hl q (day + 1) (by omega)
    have hsub : Sub hb L (last + 1) (day + 1) (q + 1) (fun l r' st' => if day = last then W_weigh (last + 1) r' st' else W_day hb L last (q + 1) (day + 1) l r' st') := by
      intro left' r' st' h12 h0 hg'
      simp only [if_neg (show ¬ day = last by omega)]
      exact ih left' r' st' h12 h0 hg'
    have := dlp_ok (hb := hb) (L := L) (last := last) (day := day) (r := r) hl12 (by omega) hsub (left + 1) 0 r st (by omega) rfl hg
    obtain ⟨g1, g2, g3, g4, g5⟩ := this
    exact ⟨g1, g2, g3, fun d h1 h2 => g4 d h1 h2 (Nat.zero_le _), g5⟩
/-- the best way to spread -/
def Best (hb : Nat → Nat) (L : Law) (days n : Nat) (r : Row) (v : Int) (B : Nat → Nat) : Prop := ∃ d, Ds d days 0 = n ∧ v = W_lead (W_ev hb L d days 0 r) ∧ (∀ j, j < days → B j = d j) ∧ (∀ j, j < days → d j ≤ 12) ∧ ∀ e, Ds e days 0 = n → Kd hb L days days 0 r e ≤ Kd hb L days days 0 r d
theorem Best_eq {hb : Nat → Nat} {L : Law} {days n : Nat} {r : Row} {v v' : Int} {B B' : Nat → Nat} (h5 : days ≤ 5) (h : Best hb L days n r v B) (h' : Best hb L days n r v' B') : v = v' ∧ ∀ j, j < days → B j = B' j := by
  obtain ⟨d, a1, a2, a3, a4, a5⟩ := h
  obtain ⟨e, b1, b2, b3, b4, b5⟩ := h'
  have q1 := a5 e b1
  have q2 := b5 d a1
  have l1 := Cd_lt (d := d) days a4
  have l2 := Cd_lt (d := e) days b4
  have l5 := p13 h5
  unfold Kd KV at q1 q2
  rw [← a2, ← b2] at q1 q2
  have ev : v = v' := by omega
  have ec : Cd d days = Cd e days := by omega
  refine ⟨ev, fun j hj => ?_⟩
  rw [a3 j hj, b3 j hj]
  exact Cd_inj days a4 b4 ec j hj
theorem lead_bd {k : Nat} {r : Row} (h : RV k r) : -999 ≤ W_lead r ∧ W_lead r ≤ 999 := by
  have h1 := h.1
  have h2 := h.2.1
  unfold W_lead
  omega
theorem RV_ev {hb : Nat → Nat} {L : Law} {d : Nat → Nat} : ∀ m j k r, RV k r → ∃ k', RV k' (W_ev hb L d m j r)
  | 0, _, k, r, h => ⟨k, h⟩
  | m + 1, j, k, r, h => RV_ev m (j + 1) 0 _ (RV_sleep hb (RV_Wp h (d j)) (hb 2))
theorem spread_C {hb : Nat → Nat} {L : Law} {days n k : Nat} {r : Row} {D : Nat → Nat} (h1 : 1 ≤ days) (h5 : days ≤ 5) (hn : n ≤ 12) (hr : RV k r) (hD : ∀ j, j < 5 → D j ≤ 12) : Best hb L days n r (W_spread hb L days n r D).2.1 (W_spread hb L days n r D).2.2 := by
  have e : days - 1 + 1 = days := by omega
  have hq := day_ok (hb := hb) (L := L) (last := days - 1) (by omega) (days - 1) 0 (by omega) n r (D, -2000000000, fun _ => 0) hn (by omega) ⟨hD, fun _ _ => Nat.zero_le _⟩
  simp only [e] at hq
  obtain ⟨g1, g2, g3, g4, g5⟩ := hq
  have eS : W_day hb L (days - 1) days 0 n r (D, -2000000000, fun _ => 0) = W_spread hb L days n r D := rfl
  rw [eS] at g1 g2 g3 g4 g5
  have d0 : Ds (fun j => if j = 0 then n else 0) days 0 = n := by
    obtain ⟨q, rfl⟩ : ∃ q, days = q + 1 := ⟨days - 1, by omega⟩
    show (if 0 = 0 then n else 0) + Ds (fun j => if j = 0 then n else 0) q 1 = n
    have : ∀ q j, 1 ≤ j → Ds (fun j => if j = 0 then n else 0) q j = 0 := by
      intro q
      induction q with
      | zero => intro j _; rfl
      | succ q ih =>
        intro j hj
        show (if j = 0 then n else 0) + Ds _ q (j + 1) = 0
        rw [if_neg (by omega), ih (j + 1) (by omega)]
    rw [this q 1 (Nat.le_refl _), if_pos rfl]
    rfl
  rcases g5 with g5 | ⟨d, q1, q2, q3⟩
  · exfalso
    have := g4 _ (fun j hj => by omega) d0
    obtain ⟨k', hk'⟩ := RV_ev (hb := hb) (L := L) (d := fun j => if j = 0 then n else 0) days 0 k r hr
    have hb2 := lead_bd hk'
    unfold kst at this
    rw [g5] at this
    have c0 : ∀ m, Cd (fun _ => 0) m = 0 := by
      intro m
      induction m with
      | zero => rfl
      | succ m ih => unfold Cd; rw [ih]; simp
    have : Kd hb L days days 0 r (fun j => if j = 0 then n else 0) ≤ KV (-2000000000) (Cd (fun _ => 0) days) := this
    rw [c0] at this
    unfold Kd KV at this
    omega
  · refine ⟨d, q2, by rw [q3], fun j _ => by rw [q3], fun j hj => ?_, fun e he => ?_⟩
    · have := g1.2 j (by omega)
      rw [q3] at this
      exact this
    · have := g4 e (fun j hj => by omega) he
      unfold kst at this
      rw [q3] at this
      exact this
/-! the reference's way -/
def R_leaf (hb : Nat → Nat) (L : Law) (days : Nat) (r : Row) (left : Nat) (st : Spr) : Spr :=
  if st.2.1 = -2000000000 ∨ st.2.1 < W_lead (W_ev hb L (va_up st.1 0 left) days 0 r) then (va_up st.1 0 left, W_lead (W_ev hb L (va_up st.1 0 left) days 0 r), va_up st.1 0 left) else (va_up st.1 0 left, st.2)
def R_lp (sub : Nat → Spr → Spr) (day left : Nat) : Nat → Spr → Spr
  | 0, st => st
  | m + 1, st => R_lp sub day left m (sub (left - m) (va_up st.1 day m, st.2))
def R_spr (hb : Nat → Nat) (L : Law) (days : Nat) (r : Row) : Nat → Nat → Spr → Spr
  | 0, left, st => R_leaf hb L days r left st
  | day + 1, left, st => R_lp (R_spr hb L days r day) (day + 1) left (left + 1) st
/-- among the ways that agree with st behind a day -/
def Rg (days day left : Nat) (D d : Nat → Nat) : Prop := (∀ j, day < j → j < days → d j = D j) ∧ Ds d (day + 1) 0 = left
def SubR (hb : Nat → Nat) (L : Law) (days day : Nat) (r : Row) (f : Nat → Spr → Spr) : Prop := ∀ left st, left ≤ 12 → Good st → (st.2.1 = -2000000000 ∨ ∀ d, Rg days day left st.1 d → Cd d days < Cd st.2.2 days) → Good (f left st) ∧ (∀ j, day < j → (f left st).1 j = st.1 j) ∧ (∀ d, Rg days day left st.1 d → Kd hb L days days 0 r d ≤ kst days (f left st)) ∧ kst days st ≤ kst days (f left st) ∧ ((f left st).2 = st.2 ∨ ∃ d, Rg days day left st.1 d ∧ (f left st).2 = (W_lead (W_ev hb L d days 0 r), d))
theorem up_at {D : Nat → Nat} {k v j : Nat} : va_up D k v j = if j = k then v else D j := rfl
theorem leaf_ok {hb : Nat → Nat} {L : Law} {days k : Nat} {r : Row} (h1 : 1 ≤ days) (h5 : days ≤ 5) (hr : RV k r) : SubR hb L days 0 r (R_leaf hb L days r) := by
  intro left st hl hg hH
  have hgD : ∀ j, j < 5 → va_up st.1 0 left j ≤ 12 := fun j hj => by
    rw [up_at]
    split
    · exact hl
    · exact hg.1 j hj
  have eqd : ∀ d, Rg days 0 left st.1 d → ∀ j, j < days → d j = va_up st.1 0 left j := fun d hd j hj => by
    rw [up_at]
    by_cases z : j = 0
    · rw [if_pos z, z]
      have : d 0 + 0 = left := hd.2
      omega
    · rw [if_neg z]; exact hd.1 j (by omega) hj
  have rgD : Rg days 0 left st.1 (va_up st.1 0 left) := ⟨fun j a b => by rw [up_at, if_neg (by omega)], by
    show va_up st.1 0 left 0 + 0 = left
    rw [up_at, if_pos rfl]; rfl⟩
  have eK : ∀ d, Rg days 0 left st.1 d → Kd hb L days days 0 r d = Kd hb L days days 0 r (va_up st.1 0 left) := fun d hd => by
    unfold Kd
    rw [W_ev_congr (e := va_up st.1 0 left) days 0 r (fun i _ hi => eqd d hd i (by omega)), Cd_congr days (eqd d hd)]
  have l1 := Cd_lt (d := va_up st.1 0 left) days (fun j hj => hgD j (by omega))
  have l2 := Cd_lt (d := st.2.2) days (fun j hj => hg.2 j (by omega))
  have l5 := p13 h5
  obtain ⟨k', hk'⟩ := RV_ev (hb := hb) (L := L) (d := va_up st.1 0 left) days 0 k r hr
  have hbd := lead_bd hk'
  unfold R_leaf
  by_cases c : st.2.1 = -2000000000 ∨ st.2.1 < W_lead (W_ev hb L (va_up st.1 0 left) days 0 r)
  · rw [if_pos c]
    refine ⟨⟨hgD, hgD⟩, fun j hj => by show va_up st.1 0 left j = _; rw [up_at, if_neg (by omega)], fun d hd => by rw [eK d hd]; exact Int.le_refl _, ?_, Or.inr ⟨_, rgD, rfl⟩⟩
    show KV st.2.1 (Cd st.2.2 days) ≤ KV (W_lead (W_ev hb L (va_up st.1 0 left) days 0 r)) (Cd (va_up st.1 0 left) days)
    unfold KV
    omega
  · rw [if_neg c]
    refine ⟨⟨hgD, hg.2⟩, fun j hj => by show va_up st.1 0 left j = _; rw [up_at, if_neg (by omega)], fun d hd => ?_, Int.le_refl _, Or.inl rfl⟩
    rw [eK d hd]
    have := hH.resolve_left (fun z => c (Or.inl z)) _ rgD
    show KV (W_lead (W_ev hb L (va_up st.1 0 left) days 0 r)) (Cd (va_up st.1 0 left) days) ≤ KV st.2.1 (Cd st.2.2 days)
    unfold KV
    omega
theorem rlp_ok {hb : Nat → Nat} {L : Law} {days day left k : Nat} {r : Row} {f : Nat → Spr → Spr} (hd : day + 1 < days) (hl : left ≤ 12) (hr : RV k r) (hf : SubR hb L days day r f) : ∀ (m : Nat) (st : Spr), m ≤ left + 1 → Good st → (st.2.1 = -2000000000 ∨ ∀ d, Rg days (day + 1) left st.1 d → d (day + 1) < m → Cd d days < Cd st.2.2 days) → Good (R_lp f (day + 1) left m st) ∧ (∀ j, day + 1 < j → (R_lp f (day + 1) left m st).1 j = st.1 j) ∧ (∀ d, Rg days (day + 1) left st.1 d → d (day + 1) < m → Kd hb L days days 0 r d ≤ kst days (R_lp f (day + 1) left m st)) ∧ kst days st ≤ kst days (R_lp f (day + 1) left m st) ∧ ((R_lp f (day + 1) left m st).2 = st.2 ∨ ∃ d, Rg days (day + 1) left st.1 d ∧ (R_lp f (day + 1) left m st).2 = (W_lead (W_ev hb L d days 0 r), d))
  | 0, st, hm, hg, hH => ⟨hg, fun _ _ => rfl, fun d _ z => absurd z (Nat.not_lt_zero _), Int.le_refl _, Or.inl rfl⟩
  | m + 1, st, hm, hg, hH => by
    have ih := rlp_ok (hb := hb) (L := L) (r := r) hd hl hr hf m
    unfold R_lp
    have hg1 : Good (va_up st.1 (day + 1) m, st.2) := ⟨fun j hj => by
      show va_up st.1 (day + 1) m j ≤ 12
      rw [up_at]
      split
      · omega
      · exact hg.1 j hj, hg.2⟩
    have rg1 : ∀ d, Rg days day (left - m) (va_up st.1 (day + 1) m) d → Rg days (day + 1) left st.1 d ∧ d (day + 1) = m := fun d h => by
      have e := h.1 (day + 1) (by omega) hd
      rw [up_at, if_pos rfl] at e
      refine ⟨⟨fun j a b => ?_, ?_⟩, e⟩
      · have := h.1 j (by omega) b
        rw [up_at, if_neg (by omega)] at this
        exact this
      · have := Ds_snoc (d := d) (day + 1) 0
        rw [this, h.2, Nat.zero_add, e]
        omega
    have rg2 : ∀ d, Rg days (day + 1) left st.1 d → d (day + 1) = m → Rg days day (left - m) (va_up st.1 (day + 1) m) d := fun d h e => by
      refine ⟨fun j a b => ?_, ?_⟩
      · rw [up_at]
        by_cases z : j = day + 1
        · rw [if_pos z, z]; exact e
        · rw [if_neg z]; exact h.1 j (by omega) b
      · have := Ds_snoc (d := d) (day + 1) 0
        rw [h.2, Nat.zero_add, e] at this
        omega
    obtain ⟨s1, s2, s3, s4, s5⟩ := hf (left - m) (va_up st.1 (day + 1) m, st.2) (by omega) hg1 (hH.imp id (fun h d hd1 => by
      obtain ⟨q1, q2⟩ := rg1 d hd1
      exact h d q1 (by omega)))
    generalize f (left - m) (va_up st.1 (day + 1) m, st.2) = st1 at s1 s2 s3 s4 s5
    have e1 : ∀ j, day + 1 < j → st1.1 j = st.1 j := fun j hj => by
      rw [s2 j (by omega)]
      show va_up st.1 (day + 1) m j = _
      rw [up_at, if_neg (by omega)]
    have rg3 : ∀ d, Rg days (day + 1) left st.1 d ↔ Rg days (day + 1) left st1.1 d := fun d => by
      constructor
      · exact fun h => ⟨fun j a b => (h.1 j a b).trans (e1 j a).symm, h.2⟩
      · exact fun h => ⟨fun j a b => (h.1 j a b).trans (e1 j a), h.2⟩
    have s4' : kst days st ≤ kst days st1 := s4
    have hH1 : st1.2.1 = -2000000000 ∨ ∀ d, Rg days (day + 1) left st1.1 d → d (day + 1) < m → Cd d days < Cd st1.2.2 days := by
      rcases s5 with s5 | ⟨d', q1, q2⟩
      · have s5 : st1.2 = st.2 := s5
        rw [s5]
        exact hH.imp id (fun h d hd1 hlt => h d ((rg3 d).mpr hd1) (by omega))
      · refine Or.inr (fun d hd1 hlt => ?_)
        rw [q2]
        obtain ⟨w1, w2⟩ := rg1 d' q1
        have hd0 := (rg3 d).mpr hd1
        refine Cd_up (day := day + 1) days hd (fun j a b => ?_) ?_ (fun j hj => ?_)
        · show d j = d' j
          rw [hd0.1 j a b, w1.1 j a b]
        · show d (day + 1) < d' (day + 1)
          omega
        · have := Ds_ge (d := d) (day + 1 + 1) 0 j (Nat.zero_le _) (by omega)
          have := hd0.2
          omega
    obtain ⟨g1, g2, g3, g4, g5⟩ := ih st1 (by omega) s1 hH1
    refine ⟨g1, fun j hj => (g2 j hj).trans (e1 j hj), fun d hd1 hlt => ?_, Int.le_trans s4' g4, ?_⟩
    · by_cases e : d (day + 1) = m
      · exact Int.le_trans (s3 d (rg2 d hd1 e)) g4
      · exact g3 d ((rg3 d).mp hd1) (by omega)
    · rcases g5 with g5 | ⟨d, q1, q2⟩
      · rw [g5]
        rcases s5 with s5 | ⟨d, q1, q2⟩
        · exact Or.inl s5
        · exact Or.inr ⟨d, (rg1 d q1).1, q2⟩
      · exact Or.inr ⟨d, (rg3 d).mpr q1, q2⟩
theorem rspr_ok {hb : Nat → Nat} {L : Law} {days k : Nat} {r : Row} (h1 : 1 ≤ days) (h5 : days ≤ 5) (hr : RV k r) : ∀ day, day < days → SubR hb L days day r (R_spr hb L days r day)
  | 0, _ => leaf_ok h1 h5 hr
  | day + 1, hd => by
    have ih := rspr_ok (hb := hb) (L := L) (r := r) h1 h5 hr day (by omega)
    intro left st hl hg hH
    obtain ⟨g1, g2, g3, g4, g5⟩ := rlp_ok (r := r) hd hl hr ih (left + 1) st (Nat.le_refl _) hg (hH.imp id (fun h d a _ => h d a))
    refine ⟨g1, g2, fun d hd1 => g3 d hd1 ?_, g4, g5⟩
    have := Ds_ge (d := d) (day + 1 + 1) 0 (day + 1) (Nat.zero_le _) (by omega)
    have := hd1.2
    omega
theorem spread_M {hb : Nat → Nat} {L : Law} {days n k : Nat} {r : Row} {D B : Nat → Nat} (h1 : 1 ≤ days) (h5 : days ≤ 5) (hn : n ≤ 12) (hr : RV k r) (hD : ∀ j, j < 5 → D j ≤ 12) (hB : ∀ j, j < 5 → B j ≤ 12) : Best hb L days n r (R_spr hb L days r (days - 1) n (D, -2000000000, B)).2.1 (R_spr hb L days r (days - 1) n (D, -2000000000, B)).2.2 := by
  obtain ⟨g1, g2, g3, g4, g5⟩ := rspr_ok (hb := hb) (L := L) (r := r) h1 h5 hr (days - 1) (by omega) n (D, -2000000000, B) hn ⟨hD, hB⟩ (Or.inl rfl)
  have e : days - 1 + 1 = days := by omega
  have rgA : ∀ d, Ds d days 0 = n → Rg days (days - 1) n D d := fun d h => ⟨fun j a b => by omega, by rw [e]; exact h⟩
  have d0 : Ds (fun j => if j = 0 then n else 0) days 0 = n := by
    obtain ⟨q, rfl⟩ : ∃ q, days = q + 1 := ⟨days - 1, by omega⟩
    show (if 0 = 0 then n else 0) + Ds (fun j => if j = 0 then n else 0) q 1 = n
    have : ∀ q j, 1 ≤ j → Ds (fun j => if j = 0 then n else 0) q j = 0 := by
      intro q
      induction q with
      | zero => intro j _; rfl
      | succ q ih =>
        intro j hj
        show (if j = 0 then n else 0) + Ds _ q (j + 1) = 0
        rw [if_neg (by omega), ih (j + 1) (by omega)]
    rw [this q 1 (Nat.le_refl _), if_pos rfl]
    rfl
  rcases g5 with g5 | ⟨d, q1, q2⟩
  · exfalso
    have := g3 _ (rgA _ d0)
    obtain ⟨k', hk'⟩ := RV_ev (hb := hb) (L := L) (d := fun j => if j = 0 then n else 0) days 0 k r hr
    have hb2 := lead_bd hk'
    unfold kst at this
    rw [g5] at this
    have lB := Cd_lt (d := B) days (fun j hj => hB j (by omega))
    have l5 := p13 h5
    have : Kd hb L days days 0 r (fun j => if j = 0 then n else 0) ≤ KV (-2000000000) (Cd B days) := this
    unfold Kd KV at this
    omega
  · have q1' : Ds d days 0 = n := by have := q1.2; rw [e] at this; exact this
    refine ⟨d, q1', by rw [q2], fun j _ => by rw [q2], fun j hj => ?_, fun e' he => ?_⟩
    · have := g1.2 j (by omega)
      rw [q2] at this
      exact this
    · have := g3 e' (rgA e' he)
      unfold kst at this
      rw [q2] at this
      exact this
/-! the reference in the heap -/
def MSp (day days : Nat) (st : Spr) (H : pmT) : Prop := (∀ j, day < j → j < days → H.1 70 j = nI (st.1 j)) ∧ (∀ j, st.1 j ≤ 12) ∧ (H.1 55 27).toInt = st.2.1 ∧ (st.2.1 = -2000000000 ∨ ∀ j, j < days → H.1 71 j = nI (st.2.2 j))
theorem lp_cpM {D days : Nat} {K : pmT → Prop} {st : Spr} {X : Nat → Nat} (h5 : days ≤ 5) : ∀ (m j : Nat) (H : pmT), j + m = days → (∀ i, i < days → H.1 70 i = nI (X i)) → (∀ i, i < j → H.1 71 i = nI (X i)) → (∀ H', fr [7100] H H' → (∀ i, i < days → H'.1 71 i = nI (X i)) → K H') → pm_RW none (D + 1) M_Mo_spreads (pm_v K) 114 [(0, .ref 55), (4, .int (nI days)), (5, .int (nI j))] [] H
  | 0, j, H, hj, h1, h2, kk => by
    refine b_Mo_spreads_114 _ _ ?_
    first | refine bt (nI_le (show days ≤ j by omega) (show j < 2 ^ 31 by omega)) ?_ | refine bf (nI_le (show days ≤ j by omega) (show j < 2 ^ 31 by omega)) ?_ | refine nt (nI_le (show days ≤ j by omega) (show j < 2 ^ 31 by omega)) ?_ | refine nf (nI_le (show days ≤ j by omega) (show j < 2 ^ 31 by omega)) ?_
    exact kk H fr.rf (fun i hi => h2 i (by omega))
  | m + 1, j, H, hj, h1, h2, kk => by
    have ih := lp_cpM (D := D) (K := K) (st := st) (X := X) h5 m (j + 1)
    refine b_Mo_spreads_114 _ _ ?_
    first | refine bt (nI_ge (show j < days by omega) (by omega)) ?_ | refine bf (nI_ge (show j < days by omega) (by omega)) ?_ | refine nt (nI_ge (show j < days by omega) (by omega)) ?_ | refine nf (nI_ge (show j < days by omega) (by omega)) ?_
    rw [nIc (show j < 2 ^ 31 by omega), h1 j (by omega), show nI j + (1 : Int32) = nI (j + 1) from nI_1 j]
    have f1 : fr [7100] H (pm_up H.1 71 j (nI (X j)), H.2) := fr.rf.up rfl
    refine ⟨vp_in_nI (by omega) (by decide), ih _ (by omega) (fun i hi => (f1.1 70 i rfl).trans (h1 i hi)) (fun i hi => ?_) (fun H' f h => kk H' (f1.tr f) h)⟩
    show pm_up H.1 71 j (nI (X j)) 71 i = _
    rw [pm_up_self]
    by_cases e : i = j
    · rw [e, pk_us]
    · rw [pk_un e]; exact h2 i (by omega)
theorem lp_plM {D days b n j N : Nat} {hb : Nat → Nat} {L : Law} {now : Nat → Row} {K : pmT → Prop} {r : Row} {k0 : Nat} (hj5 : j < 5) (hN : N ≤ 12) (hb12 : b < 12) (hr : RV k0 r) (hk0 : k0 < 2 ^ 18) (kk : ∀ H', MX hb L H' → True) : ∀ (m i : Nat) (H : pmT), i + m = N → MX hb L H → H.1 70 j = nI N → MR H b (Wp hb L i r) → (∀ H', fb JA R4 b H H' → MR H' b (Wp hb L N r) → pm_R (D + 80) M_Mo_nightOf [.ref 55, .int (nI b)] H' (pm_v (fun H1 => pm_RW none (D + 81) M_Mo_spreads (pm_v K) 18 [(0, .ref 55), (1, .int (nI b)), (4, .int (nI days)), (5, .int (nI (j + 1)))] [] H1))) → pm_RW none (D + 81) M_Mo_spreads (pm_v K) 28 [(0, .ref 55), (1, .int (nI b)), (4, .int (nI days)), (5, .int (nI j)), (6, .int (nI i))] [] H
  | 0, i, H, hi, hX, e70, hR, k1 => by
    refine b_Mo_spreads_28 _ _ _ _ ?_
    rw [nIc (show j < 2 ^ 31 by omega), e70, show nI j + (1 : Int32) = nI (j + 1) from nI_1 j]
    refine ⟨vp_in_nI hj5 (by decide), ?_⟩
    first | refine bt (nI_le (show N ≤ i by omega) (show i < 2 ^ 31 by omega)) ?_ | refine bf (nI_le (show N ≤ i by omega) (show i < 2 ^ 31 by omega)) ?_ | refine nt (nI_le (show N ≤ i by omega) (show i < 2 ^ 31 by omega)) ?_ | refine nf (nI_le (show N ≤ i by omega) (show i < 2 ^ 31 by omega)) ?_
    refine k1 H fb.rf ?_
    rw [show N = i by omega]
    exact hR
  | m + 1, i, H, hi, hX, e70, hR, k1 => by
    have ih := lp_plM (D := D) (days := days) (n := n) (now := now) (K := K) hj5 hN hb12 hr hk0 kk m (i + 1)
    refine b_Mo_spreads_28 _ _ _ _ ?_
    rw [nIc (show j < 2 ^ 31 by omega), e70, show nI i + (1 : Int32) = nI (i + 1) from nI_1 i]
    refine ⟨vp_in_nI hj5 (by decide), ?_⟩
    first | refine bt (nI_ge (show i < N by omega) (by omega)) ?_ | refine bf (nI_ge (show i < N by omega) (by omega)) ?_ | refine nt (nI_ge (show i < N by omega) (by omega)) ?_ | refine nf (nI_ge (show i < N by omega) (by omega)) ?_
    refine c_playsM (s := 1) (d := D + 8) hX hR (RV_Wp hr i) (by omega) hb12 (by decide) (fun H1 f1 hR1 => ?_)
    exact ih H1 (by omega) (hX.fb f1) ((f1.1 70 j rfl (Or.inl rfl)).trans e70) hR1 (fun H' f h => k1 H' (f1.tr f) h)
theorem lp_evM {D days b : Nat} {hb : Nat → Nat} {L : Law} {K : pmT → Prop} {d : Nat → Nat} {H0 : pmT} (h5 : days ≤ 5) (hb12 : b < 12) (hX : MX hb L H0) (ef : H0.1 55 23 = nI (hb 2)) (hd : ∀ j, j < days → H0.1 70 j = nI (d j) ∧ d j ≤ 12) (R : Row) (kk : ∀ H', fr JP H0 H' → MR H' b R → pm_RW none (D + 81) M_Mo_spreads (pm_v K) 18 [(0, .ref 55), (1, .int (nI b)), (4, .int (nI days)), (5, .int (nI days))] [] H') : ∀ (m j k0 : Nat) (r : Row) (H : pmT), j + m = days → k0 < 2 ^ 18 → fr JP H0 H → MR H b r → RV k0 r → W_ev hb L d m j r = R → pm_RW none (D + 81) M_Mo_spreads (pm_v K) 18 [(0, .ref 55), (1, .int (nI b)), (4, .int (nI days)), (5, .int (nI j))] [] H
  | 0, j, k0, r, H, hj, hk0, hf, hR, hr, e => by
    rw [show j = days by omega]
    refine kk H hf ?_
    rw [← e]
    exact hR
  | m + 1, j, k0, r, H, hj, hk0, hf, hR, hr, e => by
    have ih := lp_evM (D := D) (K := K) h5 hb12 hX ef hd R kk m (j + 1)
    refine b_Mo_spreads_18 _ _ _ ?_
    first | refine bt (nI_ge (show j < days by omega) (by omega)) ?_ | refine bf (nI_ge (show j < days by omega) (by omega)) ?_ | refine nt (nI_ge (show j < days by omega) (by omega)) ?_ | refine nf (nI_ge (show j < days by omega) (by omega)) ?_
    obtain ⟨q1, q2⟩ := hd j (by omega)
    have hX1 := hX.fr hf rfl rfl
    refine lp_plM (D := D) (days := days) (n := 0) (now := fun _ => r) (N := d j) (hb := hb) (L := L) (show j < 5 by omega) q2 hb12 hr hk0 (fun _ _ => trivial) (d j) 0 H (by omega) hX1 ((hf.1 70 j rfl).trans q1) hR (fun H1 f1 hR1 => ?_)
    have f1' : fr JP H H1 := f1.fr rfl rfl
    have hX2 := hX1.fr f1' rfl rfl
    refine c_nightM hX2.1 hX2.2.1 (((hf.tr f1').1 55 23 rfl).trans ef) hR1 (RV_Wp hr (d j)) (by omega) hb12 hX2.2.1.2.2.1 (fun H2 f2 hR2 => ?_)
    exact ih 0 _ H2 (by omega) (by decide) (hf.tr (f1'.tr (f2.fr rfl rfl))) hR2 (RV_sleep hb (RV_Wp hr (d j)) (hb 2)) e
theorem c_sprM {D days b n : Nat} {hb : Nat → Nat} {L : Law} {now : Nat → Row} (h5 : days ≤ 5) (hbn : b < n) : ∀ (day left : Nat) (st : Spr) (H : pmT) {K : pmT → Prop}, day < days → left ≤ 12 → MS hb L n now H → MSp day days st H → (∀ H', fr JQ H H' → MSp day days (R_spr hb L days (now b) day left st) H' → K H') → pm_R (day + (D + 81)) M_Mo_spreads [.ref 55, .int (nI b), .int (nI day), .int (nI left), .int (nI days)] H (pm_v K)
  | 0, left, st, H, K, hd, hl, hM, hS, kk => by
    have hn12 := hM.2.2.1
    rw [show 0 + (D + 81) = D + 80 + 1 by omega]
    refine m_Mo_spreads _ _ _ _ ?_
    first | refine bt (show nI 0 = 0 from rfl) ?_ | refine bf (show nI 0 = 0 from rfl) ?_ | refine nt (show nI 0 = 0 from rfl) ?_ | refine nf (show nI 0 = 0 from rfl) ?_
    have f0 : fr JQ H (pm_up H.1 70 0 (nI left), H.2) := fr.rf.up rfl
    have hM0 := hM.fr f0
    refine c_begins (d := D + 79) hM0 (fun H1 f1 hT1 ef => ?_)
    have f1' : fr JQ (pm_up H.1 70 0 (nI left), H.2) H1 := f1.mono rfl
    have hM1 := hM0.fr f1'
    obtain ⟨s1, s2, s3, s4⟩ := hS
    have hd1 : ∀ j, j < days → H1.1 70 j = nI (va_up st.1 0 left j) ∧ va_up st.1 0 left j ≤ 12 := fun j hj => by
      rw [f1.1 70 j rfl, up_at]
      show pm_up H.1 70 0 (nI left) 70 j = _ ∧ _
      rw [pm_up_self]
      by_cases z : j = 0
      · rw [if_pos z, z, pk_us]; exact ⟨rfl, hl⟩
      · rw [if_neg z, pk_un z]; exact ⟨s1 j (by omega) hj, s2 j⟩
    have hV := hM.2.2.2.2 b hbn
    refine lp_evM (D := D) h5 (by omega) hM1.1 ef hd1 (W_ev hb L (va_up st.1 0 left) days 0 (now b)) (fun H2 f2 hR2 => ?_) days 0 1000 (now b) H1 (by omega) (by decide) fr.rf (hT1 b hbn) hV rfl
    have f2' : fr JQ H1 H2 := f2.mono rfl
    have f02 := f0.tr (f1'.tr f2')
    obtain ⟨k', hk'⟩ := RV_ev (hb := hb) (L := L) (d := va_up st.1 0 left) days 0 1000 (now b) hV
    have hbd := lead_bd hk'
    have hk1 := hk'.1
    have hk2 := hk'.2.1
    have e27 : H2.1 55 27 = H.1 55 27 := by 
      rw [f2.1 55 27 rfl, f1.1 55 27 rfl]
      show pm_up H.1 70 0 (nI left) 55 27 = _
      rw [pm_up_ne _ _ _ (by decide)]
    have e70 : ∀ j, j < days → H2.1 70 j = nI (va_up st.1 0 left j) := fun j hj => (f2.1 70 j rfl).trans (hd1 j hj).1
    have e71 : ∀ j, H2.1 71 j = H.1 71 j := fun j => by
      rw [f2.1 71 j rfl, f1.1 71 j rfl]
      show pm_up H.1 70 0 (nI left) 71 j = _
      rw [pm_up_ne _ _ _ (by decide)]
    refine b_Mo_spreads_18 _ _ _ ?_
    first | refine bt (nI_le (Nat.le_refl days) (show days < 2 ^ 31 by omega)) ?_ | refine bf (nI_le (Nat.le_refl days) (show days < 2 ^ 31 by omega)) ?_ | refine nt (nI_le (Nat.le_refl days) (show days < 2 ^ 31 by omega)) ?_ | refine nf (nI_le (Nat.le_refl days) (show days < 2 ^ 31 by omega)) ?_
    rw [nIc (show b < 2 ^ 31 by omega), hR2.1, hR2.2.1, e27]
    have hD12 : ∀ j, va_up st.1 0 left j ≤ 12 := fun j => by
      rw [up_at]
      split
      · exact hl
      · exact s2 j
    generalize hE : W_ev hb L (va_up st.1 0 left) days 0 (now b) = E at hbd hk1 hk2
    have el : (nI E.1 - nI E.2.1).toInt = W_lead E := pk_sub_toInt (by omega) (by omega)
    have ib : vp_in (nI b) 12 := vp_in_nI (by omega) (by decide)
    have take : st.2.1 = -2000000000 ∨ st.2.1 < W_lead E → pm_RW none (D + 81) M_Mo_spreads (pm_v K) 114 [(0, .ref 55), (4, .int (nI days)), (5, .int (0 : Int32))] [] (pm_up H2.1 55 27 (nI E.1 - nI E.2.1), H2.2) := by
      intro hc
      refine lp_cpM (D := D + 80) (st := st) (X := va_up st.1 0 left) h5 days 0 _ (by omega) (fun i hi => ?_) (fun i hi => by omega) (fun H3 f3 h71 => ?_)
      · show pm_up H2.1 55 27 (nI E.1 - nI E.2.1) 70 i = _
        rw [pm_up_ne _ _ _ (by decide)]
        exact e70 i hi
      · have f23 : fr JQ H2 (pm_up H2.1 55 27 (nI E.1 - nI E.2.1), H2.2) := fr.rf.up rfl
        refine kk H3 (f02.tr (f23.tr (f3.mono rfl))) ?_
        show MSp 0 days (R_leaf hb L days (now b) left st) H3
        unfold R_leaf
        rw [hE, if_pos hc]
        refine ⟨fun j _ hj => ?_, hD12, ?_, Or.inr h71⟩
        · rw [f3.1 70 j rfl]
          show pm_up H2.1 55 27 (nI E.1 - nI E.2.1) 70 j = _
          rw [pm_up_ne _ _ _ (by decide)]
          exact e70 j hj
        · rw [f3.1 55 27 rfl]
          show (pm_up H2.1 55 27 (nI E.1 - nI E.2.1) 55 27).toInt = _
          rw [pm_up_self, pk_us]
          exact el
    have eV : (H.1 55 27 = (-2000000000 : Int32)) = (st.2.1 = -2000000000) := by
      rw [t_eq, s3]; rfl
    have eLe : (nI E.1 - nI E.2.1 ≤ H.1 55 27) = (W_lead E ≤ st.2.1) := by rw [t_le, el, s3]
    rw [eV, eLe]
    refine ⟨fun c => ⟨ib, take (Or.inl c)⟩, fun c => ⟨ib, fun c2 => ?_, fun c2 => take (Or.inr (by omega))⟩⟩
    refine kk H2 f02 ?_
    show MSp 0 days (R_leaf hb L days (now b) left st) H2
    unfold R_leaf
    rw [hE, if_neg (by omega)]
    exact ⟨fun j _ hj => e70 j hj, hD12, by rw [e27]; exact s3, s4.imp id (fun h j hj => (e71 j).trans (h j hj))⟩
  | day + 1, left, st, H, K, hd, hl, hM, hS, kk => by
    have ihd := c_sprM (D := D) (hb := hb) (L := L) (now := now) h5 hbn day
    have hn12 := hM.2.2.1
    rw [show day + 1 + (D + 81) = day + (D + 81) + 1 by omega]
    refine m_Mo_spreads _ _ _ _ ?_
    first | refine bt (nI_ne0 (show 0 < day + 1 by omega) (by omega)) ?_ | refine bf (nI_ne0 (show 0 < day + 1 by omega) (by omega)) ?_ | refine nt (nI_ne0 (show 0 < day + 1 by omega) (by omega)) ?_ | refine nf (nI_ne0 (show 0 < day + 1 by omega) (by omega)) ?_
    have lp : ∀ (m : Nat) (st1 : Spr) (H1 : pmT), m ≤ left + 1 → fr JQ H H1 → MSp (day + 1) days st1 H1 → (∀ H', fr JQ H H' → MSp (day + 1) days (R_lp (R_spr hb L days (now b) day) (day + 1) left m st1) H' → K H') → pm_RW none (day + (D + 81) + 1) M_Mo_spreads (pm_v K) 145 [(0, .ref 55), (1, .int (nI b)), (2, .int (nI (day + 1))), (3, .int (nI left)), (4, .int (nI days)), (5, .int (nI m + (-1 : Int32)))] [] H1 := by
      intro m
      induction m with
      | zero =>
        intro st1 H1 hm hf hS1 k1
        refine b_Mo_spreads_145 _ _ _ _ _ ?_
        first | refine bt (show nI 0 + (-1 : Int32) < 0 by decide) ?_ | refine bf (show nI 0 + (-1 : Int32) < 0 by decide) ?_ | refine nt (show nI 0 + (-1 : Int32) < 0 by decide) ?_ | refine nf (show nI 0 + (-1 : Int32) < 0 by decide) ?_
        exact k1 H1 hf hS1
      | succ m ih =>
        intro st1 H1 hm hf hS1 k1
        refine b_Mo_spreads_145 _ _ _ _ _ ?_
        rw [show nI (m + 1) + (-1 : Int32) = nI m from pk_m1 m]
        first | refine bt (nI_pos (show m < 2 ^ 31 by omega)) ?_ | refine bf (nI_pos (show m < 2 ^ 31 by omega)) ?_ | refine nt (nI_pos (show m < 2 ^ 31 by omega)) ?_ | refine nf (nI_pos (show m < 2 ^ 31 by omega)) ?_
        rw [nIc (show day + 1 < 2 ^ 31 by omega), show nI (day + 1) - (1 : Int32) = nI day from nI_pred day, pk_sub (show m ≤ left by omega)]
        refine ⟨vp_in_nI (by omega) (by decide), ?_⟩
        have f1 : fr JQ H1 (pm_up H1.1 70 (day + 1) (nI m), H1.2) := fr.rf.up rfl
        obtain ⟨s1, s2, s3, s4⟩ := hS1
        have hS2 : MSp day days (va_up st1.1 (day + 1) m, st1.2) (pm_up H1.1 70 (day + 1) (nI m), H1.2) := by
          refine ⟨fun j a c => ?_, fun j => ?_, ?_, ?_⟩
          · show pm_up H1.1 70 (day + 1) (nI m) 70 j = nI (va_up st1.1 (day + 1) m j)
            rw [pm_up_self, up_at]
            by_cases z : j = day + 1
            · rw [if_pos z, z, pk_us]
            · rw [if_neg z, pk_un z]; exact s1 j (by omega) c
          · show va_up st1.1 (day + 1) m j ≤ 12
            rw [up_at]
            split
            · omega
            · exact s2 j
          · show (pm_up H1.1 70 (day + 1) (nI m) 55 27).toInt = _
            rw [pm_up_ne _ _ _ (by decide)]; exact s3
          · refine s4.imp id (fun h j hj => ?_)
            show pm_up H1.1 70 (day + 1) (nI m) 71 j = _
            rw [pm_up_ne _ _ _ (by decide)]; exact h j hj
        refine ihd (left - m) _ _ (by omega) (by omega) ((hM.fr hf).fr f1) hS2 (fun H2 f2 hS3 => ?_)
        refine ih _ H2 (by omega) (hf.tr (f1.tr f2)) ⟨fun j a c => hS3.1 j (by omega) c, hS3.2⟩ k1
    have i1 := lp (left + 1) st H (Nat.le_refl _) fr.rf hS kk
    rw [show nI (left + 1) + (-1 : Int32) = nI left from pk_m1 left] at i1
    exact i1
theorem p_spread {D t : Nat} {H : pmT} {K : Int32 → Int32 → pmT → Prop} (a1 a2 a3 : Int32) (hR : Rel t H) (ht : t ≤ 1000) (kk : ∀ x H', Rel (t + 1) H' → K x x H') : pm_R (D + 200) M_PW_spread [.ref 0, .int a1, .int a2, .int a3] H (pm_i fun x H1 => pm_R (D + 200) M_Mo_spread [.ref 55, .int a1, .int a2, .int a3] H1 (pm_i fun y H2 => K x y H2)) := by
  obtain ⟨hb, L, n, now, m, hN, hT, hD⟩ := id hR
  have hC := hN.cs ht
  have hM := hN.ms ht
  have hn12 := hC.2.2.1
  have hB := hT.2.2.2.1
  have hSh := hT.2.2.2.2.2.1
  have en : (nI n - (1 : Int32)).toInt = (n : Int) - 1 := nm1_t (by omega)
  have hR1 : Rel (t + 1) H := hR.mono (Nat.le_succ _)
  have hN0 := hN
  have um1 : (-1 : Int32).toInt = -1 := rfl
  have um1l : (-1 : Int64).toInt = -1 := rfl
  by_cases h0 : 0 ≤ a2.toInt
  · obtain ⟨x, hx31, rfl, ex⟩ := nI_tI a2 h0
    have eq : nI x / (10 : Int32) = nI (x / 10) := pk_div (d := 10) hx31 (by decide) (by decide)
    have er : nI x - nI x / (10 : Int32) * (10 : Int32) = nI (x % 10) := pk_rem (d := 10) hx31 (by decide) (by decide)
    have etq : (nI (x / 10)).toInt = (x / 10 : Nat) := nI_toInt (by omega)
    have etr : (nI (x % 10)).toInt = (x % 10 : Nat) := nI_toInt (by omega)
    have etp : (nI (x % 10) - (1 : Int32)).toInt = (x % 10 : Nat) - 1 := nm1_t (by omega)
    have x0 : ¬ nI x < 0 := nI_pos hx31
    have x0' : 0 ≤ nI x := nI_pos' hx31
    by_cases hok : (0 ≤ a1.toInt ∧ a1.toInt < n) ∧ x / 10 ≤ 12 ∧ (1 ≤ x % 10 ∧ x % 10 ≤ 5) ∧ (-1 ≤ a3.toInt ∧ a3.toInt < (x % 10 : Nat))
    · obtain ⟨⟨p1, p2⟩, hN, ⟨hd1, hd5⟩, p5, p6⟩ := hok
      obtain ⟨b, _, rfl, eb⟩ := nI_tI a1 p1
      have hbb : b < n := by omega
      have b0 : ¬ nI b < (0 : Int32) := nI_pos (by omega)
      have b1 : nI b ≤ nI n - (1 : Int32) := le_pred hbb (by omega)
      have b2 : ¬ lg_cmp (nI b).toInt64 (0 : Int64) < 0 := l_0 (by omega)
      have b3 : ¬ 0 < lg_cmp (nI b).toInt64 ((nI n - (1 : Int32)).toInt64) := l_n hbb (by omega)
      have b4 : (nI b).toNatClampNeg = b := nIc (by omega)
      have b5 : vp_in (nI b) 12 := vp_in_nI (by omega) (by decide)
      generalize hqN : x / 10 = N at eq etq hN
      generalize hqd : x % 10 = days at er etr etp hd1 hd5 p6
      rw [eq] at er
      have c1 : ¬ (12 : Int32) < nI N := nI_nlt (a := 12) (b := N) hN (by decide)
      have c2 : ¬ nI days < (1 : Int32) := nI_nlt (a := days) (b := 1) hd1 (by omega)
      have c3 : nI days ≤ (5 : Int32) := nI_le hd5 (by decide)
      have c4 : ¬ a3 < (-1 : Int32) := by rw [t_lt, um1]; omega
      have c5 : a3 ≤ nI days - (1 : Int32) := by rw [t_le, etp]; omega
      have c6 : ¬ lg_cmp (nI days).toInt64 (1 : Int64) < 0 := by rw [lgl, i2l_t, etr]; show ¬ (days : Int) < 1; omega
      have c7 : ¬ 0 < lg_cmp (nI days).toInt64 (5 : Int64) := l_c (by omega) (by show (days : Int) ≤ 5; omega)
      have c8 : ¬ lg_cmp a3.toInt64 (-1 : Int64) < 0 := by rw [lgl, i2l_t, um1l]; omega
      have c9 : ¬ 0 < lg_cmp a3.toInt64 ((nI days - (1 : Int32)).toInt64) := by rw [lgg, i2l_t, i2l_t, etp]; omega
      have hV := hC.2.2.2.2 b hbb
      refine m_PW_spread _ _ _ ?_
      rw [eq, er, hC.2.1]
      repeat (first | with_reducible refine bt b0 ?_ | with_reducible refine bf b0 ?_ | with_reducible refine nt b0 ?_ | with_reducible refine nf b0 ?_ | with_reducible refine And.intro b0 ?_ | with_reducible refine bt b1 ?_ | with_reducible refine bf b1 ?_ | with_reducible refine nt b1 ?_ | with_reducible refine nf b1 ?_ | with_reducible refine And.intro b1 ?_ | with_reducible refine bt x0' ?_ | with_reducible refine bf x0' ?_ | with_reducible refine nt x0' ?_ | with_reducible refine nf x0' ?_ | with_reducible refine And.intro x0' ?_ | with_reducible refine bt c1 ?_ | with_reducible refine bf c1 ?_ | with_reducible refine nt c1 ?_ | with_reducible refine nf c1 ?_ | with_reducible refine And.intro c1 ?_ | with_reducible refine bt c2 ?_ | with_reducible refine bf c2 ?_ | with_reducible refine nt c2 ?_ | with_reducible refine nf c2 ?_ | with_reducible refine And.intro c2 ?_ | with_reducible refine bt c3 ?_ | with_reducible refine bf c3 ?_ | with_reducible refine nt c3 ?_ | with_reducible refine nf c3 ?_ | with_reducible refine And.intro c3 ?_ | with_reducible refine bt c4 ?_ | with_reducible refine bf c4 ?_ | with_reducible refine nt c4 ?_ | with_reducible refine nf c4 ?_ | with_reducible refine And.intro c4 ?_ | with_reducible refine bt c5 ?_ | with_reducible refine bf c5 ?_ | with_reducible refine nt c5 ?_ | with_reducible refine nf c5 ?_ | with_reducible refine And.intro c5 ?_)
      refine c_spread (d := D + 189) hC hbb hN hd1 hd5 hD (fun DD H1 hDD f1 hS => ?_)
      have hbC := spread_C (hb := hb) (L := L) (days := days) (n := N) (r := now b) (D := DD) hd1 hd5 hN hV hDD
      have hbM := spread_M (hb := hb) (L := L) (days := days) (n := N) (r := now b) (D := fun _ => 0) (B := fun _ => 0) hd1 hd5 hN hV (fun _ _ => Nat.zero_le _) (fun _ _ => Nat.zero_le _)
      obtain ⟨eqv, eqB⟩ := Best_eq hd5 hbC hbM
      have hne : ¬ (W_spread hb L days N (now b) DD).2.1 = -2000000000 := by
        obtain ⟨d, _, ev, _⟩ := hbC
        obtain ⟨k', hk'⟩ := RV_ev (hb := hb) (L := L) (d := d) days 0 1000 (now b) hV
        have hbd := lead_bd hk'
        rw [ev]
        omega
      obtain ⟨hS1, hS2, hS3⟩ := hS
      have hS3 := hS3.resolve_left hne
      have hDay : RDay H1 := fun j hj => ⟨_, (hS1 j hj).2, (hS1 j hj).1⟩
      have hM1 := (hN0.s f1).ms ht
      have f2 : fr JQ H1 (pm_up H1.1 55 27 (-2000000000 : Int32), H1.2) := fr.rf.up rfl
      have ref : ∀ x1 : Int32, (∀ H2, fr JQ H1 H2 → MSp (days - 1) days (R_spr hb L days (now b) (days - 1) N (fun _ => 0, -2000000000, fun _ => 0)) H2 → (0 ≤ a3 → x1 = H2.1 71 a3.toNatClampNeg) ∧ (¬ 0 ≤ a3 → x1 = H2.1 55 27)) → pm_R (D + 200) M_Mo_spread [.ref 55, .int (nI b), .int (nI x), .int a3] H1 (pm_i fun y H2 => K x1 y H2) := by
        intro x1 hx1
        refine m_Mo_spread _ _ _ ?_
        rw [eq, er, hM1.2.1]
        repeat (first | with_reducible refine bt b2 ?_ | with_reducible refine bf b2 ?_ | with_reducible refine nt b2 ?_ | with_reducible refine nf b2 ?_ | with_reducible refine And.intro b2 ?_ | with_reducible refine bt b3 ?_ | with_reducible refine bf b3 ?_ | with_reducible refine nt b3 ?_ | with_reducible refine nf b3 ?_ | with_reducible refine And.intro b3 ?_ | with_reducible refine bt x0 ?_ | with_reducible refine bf x0 ?_ | with_reducible refine nt x0 ?_ | with_reducible refine nf x0 ?_ | with_reducible refine And.intro x0 ?_ | with_reducible refine bt c1 ?_ | with_reducible refine bf c1 ?_ | with_reducible refine nt c1 ?_ | with_reducible refine nf c1 ?_ | with_reducible refine And.intro c1 ?_ | with_reducible refine bt c6 ?_ | with_reducible refine bf c6 ?_ | with_reducible refine nt c6 ?_ | with_reducible refine nf c6 ?_ | with_reducible refine And.intro c6 ?_ | with_reducible refine bt c7 ?_ | with_reducible refine bf c7 ?_ | with_reducible refine nt c7 ?_ | with_reducible refine nf c7 ?_ | with_reducible refine And.intro c7 ?_ | with_reducible refine bt c8 ?_ | with_reducible refine bf c8 ?_ | with_reducible refine nt c8 ?_ | with_reducible refine nf c8 ?_ | with_reducible refine And.intro c8 ?_ | with_reducible refine bt c9 ?_ | with_reducible refine bf c9 ?_ | with_reducible refine nt c9 ?_ | with_reducible refine nf c9 ?_ | with_reducible refine And.intro c9 ?_)
        rw [show nI days - (1 : Int32) = nI (days - 1) from i_s1 hd1]
        refine pm_Rc (show days - 1 + (D + 118 - (days - 1) + 81) = D + 198 + 1 by omega) (c_sprM (D := D + 118 - (days - 1)) (hb := hb) (L := L) hd5 hbb (days - 1) N (fun _ => 0, -2000000000, fun _ => 0) _ (by omega) hN (hM1.fr f2) ⟨fun j a c => by omega, fun _ => Nat.zero_le _, ?_, Or.inl rfl⟩ (fun H2 f3 hS4 => ?_))
        · show (pm_up H1.1 55 27 (-2000000000 : Int32) 55 27).toInt = _
          rw [pm_up_self, pk_us]; rfl
        · obtain ⟨h1, h2⟩ := hx1 H2 (f2.tr f3) hS4
          have hz := hR.zs f1 (f2.tr f3) hDay
          have k1 := kk x1 H2 hz
          refine ⟨fun c => ⟨vp_in_iff.mpr (by rw [t_le, u32_0] at c; omega), ?_⟩, fun c => ?_⟩
          · rw [← h1 c]; exact k1
          · rw [← h2 c]; exact k1
      refine ⟨fun c => ⟨vp_in_iff.mpr (by rw [t_le, u32_0] at c; omega), ref _ (fun H2 f3 hS4 => ⟨fun _ => ?_, fun z => absurd c z⟩)⟩, fun c => ref _ (fun H2 f3 hS4 => ⟨fun z => absurd z c, fun _ => ?_⟩)⟩
      · rw [t_le, u32_0] at c
        obtain ⟨j, hj31, rfl, ej⟩ := nI_tI a3 c
        have hjd : j < days := by omega
        rw [nIc hj31, (hS3 j (by omega)).1]
        have hv := hS4.2.2.2.resolve_left (by rw [← eqv]; exact hne)
        rw [hv j hjd, eqB j hjd]
      · apply Int32.toInt_inj.mp
        rw [hS2, hS4.2.2.1]
        exact eqv
    · have hm : pm_R (D + 200) M_Mo_spread [.ref 55, .int a1, .int (nI x), .int a3] H (pm_i fun y H2 => K (-2000000000) y H2) := by
        refine m_Mo_spread _ _ _ ?_
        rw [er, eq, hM.2.1]
        ((try (simp only [lgl, lgg, i2l_t, u32_0, u64_0, u32_1, u64_1, u32_2, u64_2, u32_3, u64_3, u32_4, u64_4, u32_5, u64_5, u32_7, u64_7, u32_12, u64_12, u32_24, u64_24, u32_30, u64_30, u32_49, u64_49, u32_60, u64_60, u32_99, u64_99, u32_255, u64_255, u32_999, u64_999, en, etq, etr, etp, um1, um1l])); (try (simp only [t_lt, t_le, u32_0, u64_0, u32_1, u64_1, u32_2, u64_2, u32_3, u64_3, u32_4, u64_4, u32_5, u64_5, u32_7, u64_7, u32_12, u64_12, u32_24, u64_24, u32_30, u64_30, u32_49, u64_49, u32_60, u64_60, u32_99, u64_99, u32_255, u64_255, u32_999, u64_999, en, etq, etr, etp, um1, um1l])); repeat' (first | with_reducible intro hh | with_reducible apply And.intro | exact vp_in_iff.mpr (by omega) | (exfalso; omega) | exact kk _ _ hR1))
      refine m_PW_spread _ _ _ ?_
      rw [er, eq, hC.2.1]
      ((try (simp only [lgl, lgg, i2l_t, u32_0, u64_0, u32_1, u64_1, u32_2, u64_2, u32_3, u64_3, u32_4, u64_4, u32_5, u64_5, u32_7, u64_7, u32_12, u64_12, u32_24, u64_24, u32_30, u64_30, u32_49, u64_49, u32_60, u64_60, u32_99, u64_99, u32_255, u64_255, u32_999, u64_999, en, etq, etr, etp, um1, um1l])); (try (simp only [t_lt, t_le, u32_0, u64_0, u32_1, u64_1, u32_2, u64_2, u32_3, u64_3, u32_4, u64_4, u32_5, u64_5, u32_7, u64_7, u32_12, u64_12, u32_24, u64_24, u32_30, u64_30, u32_49, u64_49, u32_60, u64_60, u32_99, u64_99, u32_255, u64_255, u32_999, u64_999, en, etq, etr, etp, um1, um1l])); repeat' (first | with_reducible intro hh | with_reducible apply And.intro | exact vp_in_iff.mpr (by omega) | (exfalso; omega) | exact hm))
  · have c0 : a2 < 0 := by rw [t_lt, u32_0]; omega
    have c0' : ¬ 0 ≤ a2 := by rw [t_le, u32_0]; omega
    have hm : pm_R (D + 200) M_Mo_spread [.ref 55, .int a1, .int a2, .int a3] H (pm_i fun y H2 => K (-2000000000) y H2) := by
      refine m_Mo_spread _ _ _ ?_
      rw [hM.2.1]
      have kb : K (-2000000000) (-2000000000) H := kk _ _ hR1
      exact ⟨fun _ => kb, fun _ => ⟨fun _ => kb, fun _ => ⟨fun _ => kb, fun z => absurd c0 z⟩⟩⟩
    refine m_PW_spread _ _ _ ?_
    exact ⟨fun _ => hm, fun _ => ⟨fun _ => ⟨fun z => absurd z c0', fun _ => hm⟩, fun _ => hm⟩⟩
