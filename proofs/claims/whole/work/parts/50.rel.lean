/-! class and reference side by side -/
def f1 (S : List Nat) (H H' : pmT) : Prop := ∀ o k, pm_has S (pm_cd o k) = false → H'.1 o k = H.1 o k
theorem fr.f1 {S : List Nat} {H H' : pmT} (a : fr S H H') : f1 S H H' := a.1
def nin (S l : List Nat) : Bool := l.all (fun c => !pm_has S c)
theorem nin_of {S l : List Nat} (h : nin S l = true) {c : Nat} (hc : c ∈ l) : pm_has S c = false := by
  have := List.all_eq_true.mp h c hc
  simpa using this
theorem f1.at {S l : List Nat} {H H' : pmT} (a : f1 S H H') (h : nin S l = true) {o k : Nat} (hc : pm_cd o k ∈ l) : H'.1 o k = H.1 o k := a o k (nin_of h hc)
def RTap (H : pmT) : Prop := ∃ n t, TapC t n H ∧ TapM t n H
def W_at (nb w : Nat) : Nat := if w ≤ 2 then 12 * w + nb else 36 + (w - 3)
def W_grt (w : Nat) : Nat := if w ≤ 1 then 999 else if w = 2 then 1 else if w = 5 then 12 else if w = 6 then 9 else 99
def RCh (n : Nat) (H : pmT) (j : Nat) : Prop := ∃ nb w x y : Nat, w ≤ 7 ∧ (w ≤ 2 → nb < n) ∧ (¬ w ≤ 2 → nb = 0) ∧ x ≤ W_grt w ∧ y ≤ W_grt w ∧ H.1 27 j = nI nb ∧ H.1 28 j = nI w ∧ H.1 29 j = nI x ∧ H.1 30 j = nI y ∧ H.1 57 j = nI (W_at nb w) ∧ H.1 58 j = nI x ∧ H.1 59 j = nI y
def RChg (n : Nat) (H : pmT) : Prop := ∃ dn td : Nat, dn ≤ td ∧ td ≤ 40 ∧ H.1 26 4 = nI dn ∧ H.1 26 5 = nI td ∧ H.1 55 5 = nI dn ∧ H.1 55 4 = nI td ∧ ∀ j, j < td → RCh n H j
def RBod (m : Nat) (H : pmT) : Prop := m ≤ 50 ∧ H.1 31 1 = nI m ∧ H.1 55 42 = nI m ∧ (∀ j, j < m → ∃ kd, kd ≤ 7 ∧ H.1 32 j = nI kd ∧ H.1 79 j = nI kd)
def RTrc (H : pmT) : Prop := ∃ r, r < 1000 ∧ H.1 31 3 = nI r ∧ H.1 55 45 = nI r ∧ ∀ j, j < 24 → j < r → H.1 33 j = H.1 80 j
def RSh (m d : Nat) (H : pmT) : Prop :=
  (H.1 (43 + 2 * d) 0 = -1 ∧ H.1 (43 + 2 * d) 1 = -1 ∧ H.1 81 d = -1) ∨
  (∃ w, w < m ∧ H.1 (43 + 2 * d) 0 = nI w ∧ H.1 (43 + 2 * d) 1 = -1 ∧ H.1 81 d = nI w) ∨
  (∃ so len, so ≤ 4 ∧ len ≤ 60 ∧ H.1 (43 + 2 * d) 0 = -1 ∧ H.1 (43 + 2 * d) 1 = nI so ∧ H.1 81 d = nI (50 + so) ∧ H.1 (43 + 2 * d) 2 = nI len ∧ H.1 82 d = nI len ∧ (∀ j, j < len → H.2.1 (43 + 2 * d + 1) j = H.2.1 83 (60 * d + j)) ∧ (¬ so = 3 → ∀ j, j < len → (H.2.1 83 (60 * d + j)).toInt = (H.2.1 83 (60 * d + j)).toInt32.toInt))
def RLed (H : pmT) : Prop := ∀ k, k < 5 → H.1 35 k = H.1 55 (34 + k)
def RIm (H : pmT) (b : Nat) (r : Row) : Prop := IR H b r ∧ H.1 78 (4 * b) = nI r.1 ∧ H.1 78 (4 * b + 1) = nI r.2.1 ∧ H.1 78 (4 * b + 2) = nI r.2.2.2.1 ∧ H.1 78 (4 * b + 3) = nI r.2.2.2.2
def RImg (n t : Nat) (H : pmT) : Prop := (H.1 0 10 = 0 ∧ H.1 55 39 = 0) ∨ (H.1 0 10 = 1 ∧ H.1 55 39 = 1 ∧ ∃ ni, ni ≤ n ∧ H.1 36 0 = nI ni ∧ H.1 55 40 = nI ni ∧ (∀ b, b < ni → ∃ r, RV t r ∧ RIm H b r) ∧ ∀ k, k < 5 → H.1 42 k = H.1 78 (48 + k))
def RFre (n : Nat) (H : pmT) : Prop := ∀ b, n ≤ b → b < 12 → H.1 5 b = 0 ∧ H.1 6 b = 0 ∧ H.1 7 b = 0
def RDay (H : pmT) : Prop := ∀ j, j < 5 → ∃ q, q ≤ 12 ∧ H.1 23 j = nI q
def RNow (hb : Nat → Nat) (L : Law) (n t : Nat) (now : Nat → Row) (H : pmT) : Prop := CX hb L H ∧ MX hb L H ∧ H.1 2 0 = nI n ∧ H.1 55 6 = nI n ∧ n ≤ 12 ∧ ∀ b, b < n → NR H b (now b) ∧ PR H b (now b) ∧ RV t (now b)
/-- the rest -/
def RRest (n t m : Nat) (H : pmT) : Prop := RFre n H ∧ RTap H ∧ RChg n H ∧ RBod m H ∧ RTrc H ∧ (∀ d, d < 6 → RSh m d H) ∧ RLed H ∧ RImg n t H
def Rel (t : Nat) (H : pmT) : Prop := ∃ hb L n now m, RNow hb L n t now H ∧ RRest n t m H ∧ RDay H
theorem RNow.cs {hb : Nat → Nat} {L : Law} {n t : Nat} {now : Nat → Row} {H : pmT} (h : RNow hb L n t now H) (ht : t ≤ 1000) : CS hb L n now H := ⟨h.1, h.2.2.1, h.2.2.2.2.1, fun b hb0 => (h.2.2.2.2.2 b hb0).1, fun b hb0 => (h.2.2.2.2.2 b hb0).2.2.mono ht⟩
theorem RNow.ms {hb : Nat → Nat} {L : Law} {n t : Nat} {now : Nat → Row} {H : pmT} (h : RNow hb L n t now H) (ht : t ≤ 1000) : MS hb L n now H := ⟨h.2.1, h.2.2.2.1, h.2.2.2.2.1, fun b hb0 => (h.2.2.2.2.2 b hb0).2.1, fun b hb0 => (h.2.2.2.2.2 b hb0).2.2.mono ht⟩
/-! frames of the parts -/
theorem LawC.f1 {L : Law} {S : List Nat} {H H' : pmT} (h : LawC L H) (a : f1 S H H') (e : H'.2.2 = H.2.2) (g : nin S [1407, 1600, 1700] = true) : LawC L H' := by
  obtain ⟨h1, h2⟩ := h
  have e0 : H'.2.2.2 = H.2.2.2 := by rw [e]
  have e6 : H'.1 14 6 = H.1 14 6 := a.at g (by decide)
  have ec : H'.1 H'.2.2.2 = H.1 H.2.2.2 := by
    rw [e0]
    funext j
    rcases h1 with e | e <;> rw [e]
    · exact a 16 j (nin_of g (c := 1600) (by decide))
    · exact a 17 j (nin_of g (c := 1700) (by decide))
  refine ⟨by rw [e0]; exact h1, ?_⟩
  cases L with
  | none => exact e6.trans h2
  | some f =>
    obtain ⟨len, q1, q2, q3, q4, q5⟩ := h2
    exact ⟨len, q1, q2, e6.trans q3, by rw [ec]; exact q4, by rw [ec]; exact q5⟩
theorem LawM.f1 {L : Law} {S : List Nat} {H H' : pmT} (h : LawM L H) (a : f1 S H H') (g : nin S [5513, 6300] = true) : LawM L H' := by
  have e := a.at (o := 55) (k := 12) g (by decide)
  cases L with
  | none => exact (show H'.1 55 12 < 0 by rw [e]; exact h)
  | some f =>
    obtain ⟨n, t, r, h1, h2, h3, h4, h5⟩ := h
    exact ⟨n, t, r, h1, e.trans h2, fun j hj => (a 63 j (nin_of g (c := 6300) (by decide))).trans (h3 j hj), h4, h5⟩
theorem CHb.f1 {hb : Nat → Nat} {S : List Nat} {H H' : pmT} (h : CHb hb H) (a : f1 S H H') (g : nin S [2000] = true) : CHb hb H' := by
  have z : pm_has S 2000 = false := nin_of g (by decide)
  exact ⟨(a 20 0 z).trans h.1, (a 20 1 z).trans h.2.1, (a 20 2 z).trans h.2.2.1, (a 20 3 z).trans h.2.2.2.1, (a 20 4 z).trans h.2.2.2.2⟩
theorem MHb.f1 {hb : Nat → Nat} {S : List Nat} {H H' : pmT} (h : MHb hb H) (a : f1 S H H') (g : nin S [5600] = true) : MHb hb H' := by
  have z : pm_has S 5600 = false := nin_of g (by decide)
  exact ⟨(a 56 36 z).trans h.1, (a 56 37 z).trans h.2.1, (a 56 38 z).trans h.2.2.1, (a 56 39 z).trans h.2.2.2.1, (a 56 40 z).trans h.2.2.2.2⟩
theorem NR.f1 {S : List Nat} {b : Nat} {r : Row} {H H' : pmT} (h : NR H b r) (a : f1 S H H') (g : nin S [300, 400, 500, 600, 700] = true) : NR H' b r :=
  ⟨(a.at g (show 300 ∈ _ by decide)).trans h.1, (a.at g (show 400 ∈ _ by decide)).trans h.2.1, (a.at g (show 500 ∈ _ by decide)).trans h.2.2.1, (a.at g (show 600 ∈ _ by decide)).trans h.2.2.2.1, (a.at g (show 700 ∈ _ by decide)).trans h.2.2.2.2⟩
theorem PR.f1 {S : List Nat} {b : Nat} {r : Row} {H H' : pmT} (h : PR H b r) (a : f1 S H H') (g : nin S [5600, 6000, 6100] = true) : PR H' b r :=
  ⟨(a.at g (show 5600 ∈ _ by decide)).trans h.1, (a.at g (show 5600 ∈ _ by decide)).trans h.2.1, (a.at g (show 5600 ∈ _ by decide)).trans h.2.2.1, (a.at g (show 6000 ∈ _ by decide)).trans h.2.2.2.1, (a.at g (show 6100 ∈ _ by decide)).trans h.2.2.2.2⟩
abbrev NowL : List Nat := [1407, 1600, 1700, 5513, 6300, 2000, 5600, 201, 5507, 300, 400, 500, 600, 700, 6000, 6100]
theorem nin_sub {S l l' : List Nat} (h : nin S l = true) (g : l'.all (fun c => l.any (Nat.beq c)) = true) : nin S l' = true := by
  refine List.all_eq_true.mpr (fun c hc => ?_)
  have := List.all_eq_true.mp g c hc
  obtain ⟨c', h1, h2⟩ := List.any_eq_true.mp this
  rw [Nat.eq_of_beq_eq_true h2]
  exact List.all_eq_true.mp h c' h1
theorem RNow.f1 {hb : Nat → Nat} {L : Law} {n t : Nat} {now : Nat → Row} {S : List Nat} {H H' : pmT} (h : RNow hb L n t now H) (a : f1 S H H') (e : H'.2.2 = H.2.2) (g : nin S NowL = true) : RNow hb L n t now H' :=
  ⟨⟨h.1.1.f1 a (nin_sub g rfl), h.1.2.1, h.1.2.2.f1 a e (nin_sub g rfl)⟩, ⟨h.2.1.1.f1 a (nin_sub g rfl), h.2.1.2.1, h.2.1.2.2.f1 a (nin_sub g rfl)⟩, (a.at g (show 201 ∈ _ by decide)).trans h.2.2.1, (a.at g (show 5507 ∈ _ by decide)).trans h.2.2.2.1, h.2.2.2.2.1, fun b hb0 => ⟨(h.2.2.2.2.2 b hb0).1.f1 a (nin_sub g rfl), (h.2.2.2.2.2 b hb0).2.1.f1 a (nin_sub g rfl), (h.2.2.2.2.2 b hb0).2.2⟩⟩
theorem RFre.f1 {n : Nat} {S : List Nat} {H H' : pmT} (h : RFre n H) (a : f1 S H H') (g : nin S [500, 600, 700] = true) : RFre n H' := fun b h1 h2 =>
  ⟨(a.at g (show 500 ∈ _ by decide)).trans (h b h1 h2).1, (a.at g (show 600 ∈ _ by decide)).trans (h b h1 h2).2.1, (a.at g (show 700 ∈ _ by decide)).trans (h b h1 h2).2.2⟩
theorem RTap.f1 {S : List Nat} {H H' : pmT} (h : RTap H) (a : f1 S H H') (e : H'.2.2 = H.2.2) (g : nin S [1402, 1500, 5511, 6200] = true) : RTap H' := by
  obtain ⟨n, t, ⟨c1, c2, c3, c4⟩, m1, m2, m3⟩ := h
  exact ⟨n, t, ⟨(a.at g (show 1402 ∈ _ by decide)).trans c1, c2, fun j hj => (a.at g (show 1500 ∈ _ by decide)).trans (c3 j hj), by rw [e]; exact c4⟩, (a.at g (show 5511 ∈ _ by decide)).trans m1, m2, fun j hj => (a.at g (show 6200 ∈ _ by decide)).trans (m3 j hj)⟩
theorem RCh.f1 {n j : Nat} {S : List Nat} {H H' : pmT} (h : RCh n H j) (a : f1 S H H') (g : nin S [2700, 2800, 2900, 3000, 5700, 5800, 5900] = true) : RCh n H' j := by
  obtain ⟨nb, w, x, y, h1, h2, h3, h4, h5, h6, h7, h8, h9, h10, h11, h12⟩ := h
  exact ⟨nb, w, x, y, h1, h2, h3, h4, h5, (a.at g (show 2700 ∈ _ by decide)).trans h6, (a.at g (show 2800 ∈ _ by decide)).trans h7, (a.at g (show 2900 ∈ _ by decide)).trans h8, (a.at g (show 3000 ∈ _ by decide)).trans h9, (a.at g (show 5700 ∈ _ by decide)).trans h10, (a.at g (show 5800 ∈ _ by decide)).trans h11, (a.at g (show 5900 ∈ _ by decide)).trans h12⟩
abbrev ChgL : List Nat := [2605, 2606, 5505, 5506, 2700, 2800, 2900, 3000, 5700, 5800, 5900]
theorem RChg.f1 {n : Nat} {S : List Nat} {H H' : pmT} (h : RChg n H) (a : f1 S H H') (g : nin S ChgL = true) : RChg n H' := by
  obtain ⟨dn, td, h1, h2, h3, h4, h5, h6, h7⟩ := h
  exact ⟨dn, td, h1, h2, (a.at g (show 2605 ∈ _ by decide)).trans h3, (a.at g (show 2606 ∈ _ by decide)).trans h4, (a.at g (show 5506 ∈ _ by decide)).trans h5, (a.at g (show 5505 ∈ _ by decide)).trans h6, fun j hj => (h7 j hj).f1 a (nin_sub g rfl)⟩
theorem RBod.f1 {m : Nat} {S : List Nat} {H H' : pmT} (h : RBod m H) (a : f1 S H H') (g : nin S [3102, 5543, 3200, 7900] = true) : RBod m H' := by
  obtain ⟨h1, h2, h3, h4⟩ := h
  refine ⟨h1, (a.at g (show 3102 ∈ _ by decide)).trans h2, (a.at g (show 5543 ∈ _ by decide)).trans h3, fun j hj => ?_⟩
  obtain ⟨kd, q1, q2, q3⟩ := h4 j hj
  exact ⟨kd, q1, (a.at g (show 3200 ∈ _ by decide)).trans q2, (a.at g (show 7900 ∈ _ by decide)).trans q3⟩
theorem RTrc.f1 {S : List Nat} {H H' : pmT} (h : RTrc H) (a : f1 S H H') (g : nin S [3104, 5546, 3300, 8000] = true) : RTrc H' := by
  obtain ⟨r, h0, h1, h2, h3⟩ := h
  exact ⟨r, h0, (a.at g (show 3104 ∈ _ by decide)).trans h1, (a.at g (show 5546 ∈ _ by decide)).trans h2, fun j q1 q2 => (a.at g (show 3300 ∈ _ by decide)).trans ((h3 j q1 q2).trans (a.at g (show 8000 ∈ _ by decide)).symm)⟩
abbrev ShL : List Nat := [4301, 4302, 4303, 4501, 4502, 4503, 4701, 4702, 4703, 4901, 4902, 4903, 5101, 5102, 5103, 5301, 5302, 5303, 8100, 8200]
theorem RSh.f1 {m d : Nat} {S : List Nat} {H H' : pmT} (h : RSh m d H) (hd : d < 6) (a : f1 S H H') (e : H'.2.1 = H.2.1) (g : nin S ShL = true) : RSh m d H' := by
  have e3 : ∀ k, k < 3 → H'.1 (43 + 2 * d) k = H.1 (43 + 2 * d) k := fun k hk => a _ _ (by
    rcases (show d = 0 ∨ d = 1 ∨ d = 2 ∨ d = 3 ∨ d = 4 ∨ d = 5 by omega) with e | e | e | e | e | e <;> subst e <;> rcases (show k = 0 ∨ k = 1 ∨ k = 2 by omega) with e | e | e <;> subst e <;> exact nin_of g (by decide))
  have e81 : H'.1 81 d = H.1 81 d := a.at g (show 8100 ∈ _ by decide)
  have e82 : H'.1 82 d = H.1 82 d := a.at g (show 8200 ∈ _ by decide)
  unfold RSh
  rw [e3 0 (by decide), e3 1 (by decide), e3 2 (by decide), e81, e82, e]
  exact h
theorem RLed.f1 {S : List Nat} {H H' : pmT} (h : RLed H) (a : f1 S H H') (g : nin S [3500, 5535, 5536, 5537, 5538, 5539] = true) : RLed H' := fun k hk =>
  (a.at g (show 3500 ∈ _ by decide)).trans ((h k hk).trans (a 55 (34 + k) (by
    rcases (show k = 0 ∨ k = 1 ∨ k = 2 ∨ k = 3 ∨ k = 4 by omega) with e | e | e | e | e <;> subst e <;> exact nin_of g (by decide))).symm)
theorem RIm.f1 {b : Nat} {r : Row} {S : List Nat} {H H' : pmT} (h : RIm H b r) (a : f1 S H H') (g : nin S [3700, 3800, 3900, 4000, 4100, 7800] = true) : RIm H' b r := by
  have z : pm_has S 7800 = false := nin_of g (by decide)
  exact ⟨⟨(a.at g (show 3700 ∈ _ by decide)).trans h.1.1, (a.at g (show 3800 ∈ _ by decide)).trans h.1.2.1, (a.at g (show 3900 ∈ _ by decide)).trans h.1.2.2.1, (a.at g (show 4000 ∈ _ by decide)).trans h.1.2.2.2.1, (a.at g (show 4100 ∈ _ by decide)).trans h.1.2.2.2.2⟩, (a 78 _ z).trans h.2.1, (a 78 _ z).trans h.2.2.1, (a 78 _ z).trans h.2.2.2.1, (a 78 _ z).trans h.2.2.2.2⟩
abbrev ImL : List Nat := [11, 5540, 3601, 5541, 4200, 3700, 3800, 3900, 4000, 4100, 7800]
theorem RImg.f1 {n t : Nat} {S : List Nat} {H H' : pmT} (h : RImg n t H) (a : f1 S H H') (g : nin S ImL = true) : RImg n t H' := by
  have e1 : H'.1 0 10 = H.1 0 10 := a.at g (show 11 ∈ _ by decide)
  have e2 : H'.1 55 39 = H.1 55 39 := a.at g (show 5540 ∈ _ by decide)
  rcases h with ⟨h1, h2⟩ | ⟨h1, h2, ni, h3, h4, h5, h6, h7⟩
  · exact Or.inl ⟨e1.trans h1, e2.trans h2⟩
  · refine Or.inr ⟨e1.trans h1, e2.trans h2, ni, h3, (a.at g (show 3601 ∈ _ by decide)).trans h4, (a.at g (show 5541 ∈ _ by decide)).trans h5, fun b hb => ?_, fun k hk => (a.at g (show 4200 ∈ _ by decide)).trans ((h7 k hk).trans (a.at g (show 7800 ∈ _ by decide)).symm)⟩
    obtain ⟨r, q1, q2⟩ := h6 b hb
    exact ⟨r, q1, q2.f1 a (nin_sub g rfl)⟩
theorem RDay.f1 {S : List Nat} {H H' : pmT} (h : RDay H) (a : f1 S H H') (g : nin S [2300] = true) : RDay H' := fun j hj => by
  obtain ⟨q, h1, h2⟩ := h j hj
  exact ⟨q, h1, (a.at g (show 2300 ∈ _ by decide)).trans h2⟩
abbrev RestL : List Nat := [500, 600, 700, 1402, 1500, 5511, 6200, 2605, 2606, 5505, 5506, 2700, 2800, 2900, 3000, 5700, 5800, 5900, 3102, 5543, 3200, 7900, 3104, 5546, 3300, 8000, 4301, 4302, 4303, 4501, 4502, 4503, 4701, 4702, 4703, 4901, 4902, 4903, 5101, 5102, 5103, 5301, 5302, 5303, 8100, 8200, 3500, 5535, 5536, 5537, 5538, 5539, 11, 5540, 3601, 5541, 4200, 3700, 3800, 3900, 4000, 4100, 7800]
theorem RRest.f1 {n t m : Nat} {S : List Nat} {H H' : pmT} (h : RRest n t m H) (a : f1 S H H') (e : H'.2 = H.2) (g : nin S RestL = true) : RRest n t m H' := by
  obtain ⟨h1, h2, h3, h4, h5, h6, h7, h8⟩ := h
  exact ⟨h1.f1 a (nin_sub g rfl), h2.f1 a (by rw [e]) (nin_sub g rfl), h3.f1 a (nin_sub g rfl), h4.f1 a (nin_sub g rfl), h5.f1 a (nin_sub g rfl), fun d hd => (h6 d hd).f1 hd a (by rw [e]) (nin_sub g rfl), h7.f1 a (nin_sub g rfl), h8.f1 a (nin_sub g rfl)⟩
theorem RImg.mono {n t t' : Nat} {H : pmT} (h : RImg n t H) (ht : t ≤ t') : RImg n t' H := by
  rcases h with h | ⟨h1, h2, ni, h3, h4, h5, h6, h7⟩
  · exact Or.inl h
  · exact Or.inr ⟨h1, h2, ni, h3, h4, h5, fun b hb => by obtain ⟨r, q1, q2⟩ := h6 b hb; exact ⟨r, q1.mono ht, q2⟩, h7⟩
theorem RRest.mono {n t t' m : Nat} {H : pmT} (h : RRest n t m H) (ht : t ≤ t') : RRest n t' m H := ⟨h.1, h.2.1, h.2.2.1, h.2.2.2.1, h.2.2.2.2.1, h.2.2.2.2.2.1, h.2.2.2.2.2.2.1, h.2.2.2.2.2.2.2.mono ht⟩
theorem RNow.mono {hb : Nat → Nat} {L : Law} {n t t' : Nat} {now : Nat → Row} {H : pmT} (h : RNow hb L n t now H) (ht : t ≤ t') : RNow hb L n t' now H := ⟨h.1, h.2.1, h.2.2.1, h.2.2.2.1, h.2.2.2.2.1, fun b hb0 => ⟨(h.2.2.2.2.2 b hb0).1, (h.2.2.2.2.2 b hb0).2.1, (h.2.2.2.2.2 b hb0).2.2.mono ht⟩⟩
theorem Rel.mono {t t' : Nat} {H : pmT} (h : Rel t H) (ht : t ≤ t') : Rel t' H := by
  obtain ⟨hb, L, n, now, m, h1, h2, h3⟩ := h
  exact ⟨hb, L, n, now, m, h1.mono ht, h2.mono ht, h3⟩
/-- what is thought changes nothing -/
abbrev JZ : List Nat := JC ++ JQ
abbrev JZS : List Nat := JS ++ JQ
theorem Rel.z {t : Nat} {H H1 H2 : pmT} (h : Rel t H) (a : fr JC H H1) (b : fr JQ H1 H2) : Rel (t + 1) H2 := by
  obtain ⟨hb, L, n, now, m, h1, h2, h3⟩ := h
  have f : fr JZ H H2 := (a.mono rfl).tr (b.mono rfl)
  exact ⟨hb, L, n, now, m, (h1.f1 f.f1 (by rw [f.2]) rfl).mono (Nat.le_succ _), (h2.f1 f.f1 f.2 rfl).mono (Nat.le_succ _), h3.f1 f.f1 rfl⟩
theorem Rel.zs {t : Nat} {H H1 H2 : pmT} (h : Rel t H) (a : fr JS H H1) (b : fr JQ H1 H2) (g : RDay H1) : Rel (t + 1) H2 := by
  obtain ⟨hb, L, n, now, m, h1, h2, h3⟩ := h
  have f : fr JZS H H2 := (a.mono rfl).tr (b.mono rfl)
  exact ⟨hb, L, n, now, m, (h1.f1 f.f1 (by rw [f.2]) rfl).mono (Nat.le_succ _), (h2.f1 f.f1 f.2 rfl).mono (Nat.le_succ _), g.f1 b.f1 rfl⟩
/-! arguments -/
theorem arg_in (a : Int32) (n : Nat) (hn : n < 2 ^ 31) : (∃ j, j < n ∧ a = nI j) ∨ (a.toInt < 0 ∨ (n : Int) ≤ a.toInt) := by
  by_cases h : 0 ≤ a.toInt ∧ a.toInt < n
  · obtain ⟨j, h1, h2, h3⟩ := nI_tI a h.1
    exact Or.inl ⟨j, by omega, h2⟩
  · exact Or.inr (by omega)
theorem le_pred {j n : Nat} (h : j < n) (hn : n < 2 ^ 30) : nI j ≤ nI n - (1 : Int32) := by
  rw [i_s1 (by omega)]
  exact nI_le (by omega) (by omega)
theorem l_0 {j : Nat} (hj : j < 2 ^ 31) : ¬ lg_cmp (nI j).toInt64 (0 : Int64) < 0 := by
  rw [lgl, i2l_t, nI_toInt hj]
  show ¬ (j : Int) < 0
  omega
theorem nm1_t {n : Nat} (hn : n < 2 ^ 30) : (nI n - (1 : Int32)).toInt = (n : Int) - 1 := pk_sub_toInt (a := n) (b := 1) (by omega) (by decide)
theorem l_n {j n : Nat} (h : j < n) (hn : n < 2 ^ 30) : ¬ 0 < lg_cmp (nI j).toInt64 ((nI n - (1 : Int32)).toInt64) := by
  rw [lgg, i2l_t, i2l_t, nI_toInt (by omega), nm1_t hn]
  omega
theorem l_c {j : Nat} {c : Int64} (hj : j < 2 ^ 31) (h : (j : Int) ≤ c.toInt) : ¬ 0 < lg_cmp (nI j).toInt64 c := by
  rw [lgg, i2l_t, nI_toInt hj]
  omega
theorem t_lt (a b : Int32) : (a < b) = (a.toInt < b.toInt) := propext Int32.lt_iff_toInt_lt
theorem t_le (a b : Int32) : (a ≤ b) = (a.toInt ≤ b.toInt) := propext Int32.le_iff_toInt_le
theorem t_eq (a b : Int32) : (a = b) = (a.toInt = b.toInt) := propext Int32.toInt_inj.symm
