/-! the first heap -/
def H00 (o : Nat) : Nat → Int32 :=
  if o = 20 then upd (upd (upd (upd (upd (fun _ => 0) (0 : Int32).toNatClampNeg (20 : Int32)) (1 : Int32).toNatClampNeg (10 : Int32)) (2 : Int32).toNatClampNeg (2 : Int32)) (3 : Int32).toNatClampNeg (1 : Int32)) (4 : Int32).toNatClampNeg (12 : Int32)
  else if o = 56 then upd (upd (upd (upd (upd (fun _ => 0) (36 : Int32).toNatClampNeg (20 : Int32)) (37 : Int32).toNatClampNeg (10 : Int32)) (38 : Int32).toNatClampNeg (2 : Int32)) (39 : Int32).toNatClampNeg (1 : Int32)) (40 : Int32).toNatClampNeg (12 : Int32)
  else if o = 81 then upd (upd (upd (upd (upd (upd (fun _ => 0) (0 : Int32).toNatClampNeg (-1 : Int32)) (1 : Int32).toNatClampNeg (-1 : Int32)) (2 : Int32).toNatClampNeg (-1 : Int32)) (3 : Int32).toNatClampNeg (-1 : Int32)) (4 : Int32).toNatClampNeg (-1 : Int32)) (5 : Int32).toNatClampNeg (-1 : Int32)
  else if o = 21 then fun k => if k = 2 then -2 else if k = 9 then -2000000000 else 0
  else if o = 25 then fun k => if k = 0 then -2 else 0
  else if o = 55 then fun k => if k = 12 then -1 else 0
  else if o = 43 ∨ o = 45 ∨ o = 47 ∨ o = 49 ∨ o = 51 ∨ o = 53 then fun k => if k = 0 then -1 else if k = 1 then -1 else 0
  else fun _ => 0
def H0 : pmT := (H00, fun _ _ => 0, 16, 17)
def hb0 (j : Nat) : Nat := ([20, 10, 2, 1, 12] : List Nat).getD j 0
theorem rel0 : Rel 0 H0 := by
  have hv : HV hb0 := ⟨by decide, by decide, by decide, by decide, by decide⟩
  refine ⟨hb0, none, 0, fun _ => (0, 0, 0, 0, 0), 0, ⟨⟨⟨by decide, by decide, by decide, by decide, by decide⟩, hv, Or.inr rfl, by decide⟩, ⟨⟨by decide, by decide, by decide, by decide, by decide⟩, hv, show H00 55 12 < 0 by decide⟩, by decide, by decide, by decide, fun b h => absurd h (Nat.not_lt_zero _)⟩, ⟨fun b _ _ => ⟨rfl, rfl, rfl⟩, ⟨0, fun _ => 0, ⟨by decide, by decide, fun j h => absurd h (Nat.not_lt_zero _), by decide⟩, by decide, by decide, fun j h => absurd h (Nat.not_lt_zero _)⟩, ⟨0, 0, Nat.le_refl _, by decide, by decide, by decide, by decide, by decide, fun j h => absurd h (Nat.not_lt_zero _)⟩, ⟨by decide, by decide, by decide, fun j h => absurd h (Nat.not_lt_zero _)⟩, ⟨0, by decide, by decide, by decide, fun j _ h => absurd h (Nat.not_lt_zero _)⟩, fun d hd => Or.inl ?_, fun k hk => ?_, Or.inl ⟨by decide, by decide⟩⟩, fun j hj => ⟨0, by decide, ?_⟩⟩
  · rcases (show d = 0 ∨ d = 1 ∨ d = 2 ∨ d = 3 ∨ d = 4 ∨ d = 5 by omega) with e | e | e | e | e | e <;> subst e <;> exact ⟨by decide, by decide, by decide⟩
  · rcases (show k = 0 ∨ k = 1 ∨ k = 2 ∨ k = 3 ∨ k = 4 by omega) with e | e | e | e | e <;> subst e <;> decide
  · rcases (show j = 0 ∨ j = 1 ∨ j = 2 ∨ j = 3 ∨ j = 4 by omega) with e | e | e | e | e <;> subst e <;> decide
