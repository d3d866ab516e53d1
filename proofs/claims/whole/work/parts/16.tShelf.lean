/-! tables and walks, by program: 16.tShelf -/
def T_Ch_add : List pmE := [
  (0, [], .aload 0, 0, 0, 0),
  (1, [], .getfield 68, 0, 22, 277),
  (4, [], .iconst 40, 1, 0, 0),
  (6, [], .if_icmp .lt 13, 0, 0, 0),
  (9, [], .aload 0, 0, 0, 0),
  (10, [], .invokeinterface 11 132, 0, 29, 443),
  (13, [], .aload 0, 0, 0, 0),
  (14, [], .getfield 64, 0, 9, 269),
  (17, [], .aload 0, 0, 0, 0),
  (18, [], .getfield 68, 0, 22, 277),
  (21, [], .iload 1, 0, 0, 0),
  (22, [], .iastore, 0, 0, 0),
  (23, [], .aload 0, 0, 0, 0),
  (24, [], .getfield 65, 0, 13, 271),
  (27, [], .aload 0, 0, 0, 0),
  (28, [], .getfield 68, 0, 22, 277),
  (31, [], .iload 2, 0, 0, 0),
  (32, [], .iastore, 0, 0, 0),
  (33, [], .aload 0, 0, 0, 0),
  (34, [], .getfield 66, 0, 16, 273),
  (37, [], .aload 0, 0, 0, 0),
  (38, [], .getfield 68, 0, 22, 277),
  (41, [], .iload 3, 0, 0, 0),
  (42, [], .iastore, 0, 0, 0),
  (43, [], .aload 0, 0, 0, 0),
  (44, [], .getfield 67, 0, 19, 275),
  (47, [], .aload 0, 0, 0, 0),
  (48, [], .getfield 68, 0, 22, 277),
  (51, [], .iload 4, 1, 0, 0),
  (53, [], .iastore, 0, 0, 0),
  (54, [], .aload 0, 0, 0, 0),
  (55, [], .dup, 0, 0, 0),
  (56, [], .getfield 68, 0, 22, 277),
  (59, [], .iconst 1, 0, 0, 0),
  (60, [], .iadd, 0, 0, 0),
  (61, [], .putfield 68, 0, 22, 277),
  (64, [], .aload 0, 0, 0, 0),
  (65, [], .aload 0, 0, 0, 0),
  (66, [], .getfield 68, 0, 22, 277),
  (69, [], .putfield 69, 0, 26, 279),
  (72, [], .return_, 0, 0, 0)]
theorem tk_Ch_add : pm_okT M_Ch_add T_Ch_add = true := by decide +kernel
theorem ok_Ch_add : pm_okm M_Ch_add := pm_okm_of _ 442 82 440 441 (by decide +kernel)
set_option maxRecDepth 100000 in
set_option maxHeartbeats 4000000 in
theorem m_Ch_add {d : Nat} {H : pmT} {Q : pmQ} (a1 : Int32) (a2 : Int32) (a3 : Int32) (a4 : Int32)
    (h : ((H.1 26 4) < (40 : Int32) → vp_in (H.1 26 4) 40 ∧ (Q none ((pm_up (pm_up (pm_up (pm_up (pm_up (pm_up H.1 27 ((H.1 26 4).toNatClampNeg) a1) 28 ((H.1 26 4).toNatClampNeg) a2) 29 ((H.1 26 4).toNatClampNeg) a3) 30 ((H.1 26 4).toNatClampNeg) a4) 26 4 ((H.1 26 4) + (1 : Int32))) 26 5 ((H.1 26 4) + (1 : Int32))), H.2))) ∧ (¬ (H.1 26 4) < (40 : Int32) → pm_R d M_Ch_forgetOldest [.ref 26] H (pm_v (fun H1 => vp_in (H1.1 26 4) 40 ∧ (Q none ((pm_up (pm_up (pm_up (pm_up (pm_up (pm_up H1.1 27 ((H1.1 26 4).toNatClampNeg) a1) 28 ((H1.1 26 4).toNatClampNeg) a2) 29 ((H1.1 26 4).toNatClampNeg) a3) 30 ((H1.1 26 4).toNatClampNeg) a4) 26 4 ((H1.1 26 4) + (1 : Int32))) 26 5 ((H1.1 26 4) + (1 : Int32))), H1.2)))))) : pm_R (d + 1) M_Ch_add [.ref 26, .int a1, .int a2, .int a3, .int a4] H Q :=
  pm_walk (n := 41) ok_Ch_add tk_Ch_add rfl (Nat.le_of_ble_eq_true rfl) (show ((H.1 26 4) < (40 : Int32) → vp_in (H.1 26 4) 40 ∧ (vp_in (H.1 26 4) 40 ∧ (vp_in (H.1 26 4) 40 ∧ (vp_in (H.1 26 4) 40 ∧ (Q none ((pm_up (pm_up (pm_up (pm_up (pm_up (pm_up H.1 27 ((H.1 26 4).toNatClampNeg) a1) 28 ((H.1 26 4).toNatClampNeg) a2) 29 ((H.1 26 4).toNatClampNeg) a3) 30 ((H.1 26 4).toNatClampNeg) a4) 26 4 ((H.1 26 4) + (1 : Int32))) 26 5 ((H.1 26 4) + (1 : Int32))), H.2)))))) ∧ (¬ (H.1 26 4) < (40 : Int32) → pm_R d M_Ch_forgetOldest [.ref 26] H (pm_v (fun H1 => vp_in (H1.1 26 4) 40 ∧ (vp_in (H1.1 26 4) 40 ∧ (vp_in (H1.1 26 4) 40 ∧ (vp_in (H1.1 26 4) 40 ∧ (Q none ((pm_up (pm_up (pm_up (pm_up (pm_up (pm_up H1.1 27 ((H1.1 26 4).toNatClampNeg) a1) 28 ((H1.1 26 4).toNatClampNeg) a2) 29 ((H1.1 26 4).toNatClampNeg) a3) 30 ((H1.1 26 4).toNatClampNeg) a4) 26 4 ((H1.1 26 4) + (1 : Int32))) 26 5 ((H1.1 26 4) + (1 : Int32))), H1.2)))))))) from ⟨fun q1 => ⟨(h.1 q1).1, ⟨(h.1 q1).1, ⟨(h.1 q1).1, ⟨(h.1 q1).1, (h.1 q1).2⟩⟩⟩⟩, fun q1 => pm_mv' (h.2 q1) (fun H1 z2 => ⟨z2.1, ⟨z2.1, ⟨z2.1, ⟨z2.1, z2.2⟩⟩⟩⟩)⟩)
def T_Ch_forgetOldest : List pmE := [
  (0, [], .aload 0, 0, 0, 0),
  (1, [], .iconst 39, 1, 0, 0),
  (3, [], .putfield 68, 0, 22, 277),
  (6, [], .aload 0, 0, 0, 0),
  (7, [], .getfield 64, 0, 9, 269),
  (10, [], .iconst 1, 0, 0, 0),
  (11, [], .aload 0, 0, 0, 0),
  (12, [], .getfield 64, 0, 9, 269),
  (15, [], .iconst 0, 0, 0, 0),
  (16, [], .aload 0, 0, 0, 0),
  (17, [], .getfield 68, 0, 22, 277),
  (20, [], .invokedynamic 0, 0, 32, 447),
  (23, [], .aload 0, 0, 0, 0),
  (24, [], .getfield 65, 0, 13, 271),
  (27, [], .iconst 1, 0, 0, 0),
  (28, [], .aload 0, 0, 0, 0),
  (29, [], .getfield 65, 0, 13, 271),
  (32, [], .iconst 0, 0, 0, 0),
  (33, [], .aload 0, 0, 0, 0),
  (34, [], .getfield 68, 0, 22, 277),
  (37, [], .invokedynamic 0, 0, 32, 447),
  (40, [], .aload 0, 0, 0, 0),
  (41, [], .getfield 66, 0, 16, 273),
  (44, [], .iconst 1, 0, 0, 0),
  (45, [], .aload 0, 0, 0, 0),
  (46, [], .getfield 66, 0, 16, 273),
  (49, [], .iconst 0, 0, 0, 0),
  (50, [], .aload 0, 0, 0, 0),
  (51, [], .getfield 68, 0, 22, 277),
  (54, [], .invokedynamic 0, 0, 32, 447),
  (57, [], .aload 0, 0, 0, 0),
  (58, [], .getfield 67, 0, 19, 275),
  (61, [], .iconst 1, 0, 0, 0),
  (62, [], .aload 0, 0, 0, 0),
  (63, [], .getfield 67, 0, 19, 275),
  (66, [], .iconst 0, 0, 0, 0),
  (67, [], .aload 0, 0, 0, 0),
  (68, [], .getfield 68, 0, 22, 277),
  (71, [], .invokedynamic 0, 0, 32, 447),
  (74, [], .return_, 0, 0, 0)]
theorem tk_Ch_forgetOldest : pm_okT M_Ch_forgetOldest T_Ch_forgetOldest = true := by decide +kernel
theorem ok_Ch_forgetOldest : pm_okm M_Ch_forgetOldest := pm_okm_of _ 446 82 445 4 (by decide +kernel)
set_option maxRecDepth 100000 in
set_option maxHeartbeats 4000000 in
theorem m_Ch_forgetOldest {d : Nat} {H : pmT} {Q : pmQ} 
    (h : Q none ((va_up (va_up (va_up (va_up (pm_up H.1 26 4 (39 : Int32)) 27 (va_cpy (H.1 27) (H.1 27) 1 0 39)) 28 (va_cpy (H.1 28) (H.1 28) 1 0 39)) 29 (va_cpy (H.1 29) (H.1 29) 1 0 39)) 30 (va_cpy (H.1 30) (H.1 30) 1 0 39)), H.2)) : pm_R (d + 1) M_Ch_forgetOldest [.ref 26] H Q :=
  pm_walk (n := 40) ok_Ch_forgetOldest tk_Ch_forgetOldest rfl (Nat.le_of_ble_eq_true rfl) (show pm_cpin (1 : Int32) (0 : Int32) (39 : Int32) 40 40 ∧ (pm_cpin (1 : Int32) (0 : Int32) (39 : Int32) 40 40 ∧ (pm_cpin (1 : Int32) (0 : Int32) (39 : Int32) 40 40 ∧ (pm_cpin (1 : Int32) (0 : Int32) (39 : Int32) 40 40 ∧ (Q none ((va_up (va_up (va_up (va_up (pm_up H.1 26 4 (39 : Int32)) 27 (va_cpy (H.1 27) (H.1 27) 1 0 39)) 28 (va_cpy (H.1 28) (H.1 28) 1 0 39)) 29 (va_cpy (H.1 29) (H.1 29) 1 0 39)) 30 (va_cpy (H.1 30) (H.1 30) 1 0 39)), H.2))))) from ⟨(pm_ck rfl), ⟨(pm_ck rfl), ⟨(pm_ck rfl), ⟨(pm_ck rfl), h⟩⟩⟩⟩)
def T_Ch_takeBack : List pmE := [
  (0, [], .aload 0, 0, 0, 0),
  (1, [], .getfield 68, 0, 22, 277),
  (4, [], .ifCond .gt 9, 0, 0, 0),
  (7, [], .iconst (-1), 0, 0, 0),
  (8, [], .ireturn, 0, 0, 0),
  (9, [], .aload 0, 0, 0, 0),
  (10, [], .dup, 0, 0, 0),
  (11, [], .getfield 68, 0, 22, 277),
  (14, [], .iconst 1, 0, 0, 0),
  (15, [], .isub, 0, 0, 0),
  (16, [], .putfield 68, 0, 22, 277),
  (19, [], .aload 0, 0, 0, 0),
  (20, [], .getfield 68, 0, 22, 277),
  (23, [], .ireturn, 0, 0, 0)]
theorem tk_Ch_takeBack : pm_okT M_Ch_takeBack T_Ch_takeBack = true := by decide +kernel
theorem ok_Ch_takeBack : pm_okm M_Ch_takeBack := pm_okm_of _ 864 82 862 863 (by decide +kernel)
set_option maxRecDepth 100000 in
set_option maxHeartbeats 4000000 in
theorem m_Ch_takeBack {d : Nat} {H : pmT} {Q : pmQ} 
    (h : (0 < (H.1 26 4) → Q (some (.int ((H.1 26 4) - (1 : Int32)))) ((pm_up H.1 26 4 ((H.1 26 4) - (1 : Int32))), H.2)) ∧ (¬ 0 < (H.1 26 4) → Q (some (.int (-1 : Int32))) H)) : pm_R d M_Ch_takeBack [.ref 26] H Q :=
  pm_walk (n := 12) ok_Ch_takeBack tk_Ch_takeBack rfl (Nat.le_of_ble_eq_true rfl) (show (0 < (H.1 26 4) → Q (some (.int ((H.1 26 4) - (1 : Int32)))) ((pm_up H.1 26 4 ((H.1 26 4) - (1 : Int32))), H.2)) ∧ (¬ 0 < (H.1 26 4) → Q (some (.int (-1 : Int32))) H) from ⟨fun q1 => (h.1 q1), fun q1 => (h.2 q1)⟩)
def T_Ch_takeAgain : List pmE := [
  (0, [], .aload 0, 0, 0, 0),
  (1, [], .getfield 68, 0, 22, 277),
  (4, [], .aload 0, 0, 0, 0),
  (5, [], .getfield 69, 0, 26, 279),
  (8, [], .if_icmp .lt 13, 0, 0, 0),
  (11, [], .iconst (-1), 0, 0, 0),
  (12, [], .ireturn, 0, 0, 0),
  (13, [], .aload 0, 0, 0, 0),
  (14, [], .dup, 0, 0, 0),
  (15, [], .getfield 68, 0, 22, 277),
  (18, [], .iconst 1, 0, 0, 0),
  (19, [], .iadd, 0, 0, 0),
  (20, [], .putfield 68, 0, 22, 277),
  (23, [], .aload 0, 0, 0, 0),
  (24, [], .getfield 68, 0, 22, 277),
  (27, [], .iconst 1, 0, 0, 0),
  (28, [], .isub, 0, 0, 0),
  (29, [], .ireturn, 0, 0, 0)]
theorem tk_Ch_takeAgain : pm_okT M_Ch_takeAgain T_Ch_takeAgain = true := by decide +kernel
theorem ok_Ch_takeAgain : pm_okm M_Ch_takeAgain := pm_okm_of _ 872 82 870 871 (by decide +kernel)
set_option maxRecDepth 100000 in
set_option maxHeartbeats 4000000 in
theorem m_Ch_takeAgain {d : Nat} {H : pmT} {Q : pmQ} 
    (h : ((H.1 26 4) < (H.1 26 5) → Q (some (.int (((H.1 26 4) + (1 : Int32)) - (1 : Int32)))) ((pm_up H.1 26 4 ((H.1 26 4) + (1 : Int32))), H.2)) ∧ (¬ (H.1 26 4) < (H.1 26 5) → Q (some (.int (-1 : Int32))) H)) : pm_R d M_Ch_takeAgain [.ref 26] H Q :=
  pm_walk (n := 16) ok_Ch_takeAgain tk_Ch_takeAgain rfl (Nat.le_of_ble_eq_true rfl) (show ((H.1 26 4) < (H.1 26 5) → Q (some (.int (((H.1 26 4) + (1 : Int32)) - (1 : Int32)))) ((pm_up H.1 26 4 ((H.1 26 4) + (1 : Int32))), H.2)) ∧ (¬ (H.1 26 4) < (H.1 26 5) → Q (some (.int (-1 : Int32))) H) from ⟨fun q1 => (h.1 q1), fun q1 => (h.2 q1)⟩)
def T_Sh_isEmpty : List pmE := [
  (0, [], .aload 0, 0, 0, 0),
  (1, [], .getfield 448, 0, 9, 327),
  (4, [], .ifCond .ge 19, 0, 0, 0),
  (7, [], .aload 0, 0, 0, 0),
  (8, [], .getfield 449, 0, 15, 329),
  (11, [], .iconst (-1), 0, 0, 0),
  (12, [], .if_icmp .ne 19, 0, 0, 0),
  (15, [], .iconst 1, 0, 0, 0),
  (16, [], .goto 20, 0, 0, 0),
  (19, [], .iconst 0, 0, 0, 0),
  (20, [], .areturn, 0, 0, 0)]
theorem tk_Sh_isEmpty : pm_okT M_Sh_isEmpty T_Sh_isEmpty = true := by decide +kernel
theorem ok_Sh_isEmpty : pm_okm M_Sh_isEmpty := pm_okm_of _ 402 84 400 401 (by decide +kernel)
set_option maxRecDepth 100000 in
set_option maxHeartbeats 4000000 in
theorem m_Sh_isEmpty_43 {d : Nat} {H : pmT} {Q : pmQ} 
    (h : (0 ≤ (H.1 43 0) → Q (some (.int (0 : Int32))) H) ∧ (¬ 0 ≤ (H.1 43 0) → (¬ (H.1 43 1) = (-1 : Int32) → Q (some (.int (0 : Int32))) H) ∧ ((H.1 43 1) = (-1 : Int32) → Q (some (.int (1 : Int32))) H))) : pm_R d M_Sh_isEmpty [.ref 43] H Q :=
  pm_walk (n := 10) ok_Sh_isEmpty tk_Sh_isEmpty rfl (Nat.le_of_ble_eq_true rfl) (show (0 ≤ (H.1 43 0) → ((0 : Int32) = 0 ∨ (0 : Int32) = 1) ∧ (Q (some (.int (0 : Int32))) H)) ∧ (¬ 0 ≤ (H.1 43 0) → (¬ (H.1 43 1) = (-1 : Int32) → ((0 : Int32) = 0 ∨ (0 : Int32) = 1) ∧ (Q (some (.int (0 : Int32))) H)) ∧ ((H.1 43 1) = (-1 : Int32) → ((1 : Int32) = 0 ∨ (1 : Int32) = 1) ∧ (Q (some (.int (1 : Int32))) H))) from ⟨fun q1 => ⟨Or.inl rfl, (h.1 q1)⟩, fun q1 => ⟨fun q2 => ⟨Or.inl rfl, ((h.2 q1).1 q2)⟩, fun q2 => ⟨Or.inr rfl, ((h.2 q1).2 q2)⟩⟩⟩)
set_option maxRecDepth 100000 in
set_option maxHeartbeats 4000000 in
theorem m_Sh_isEmpty_45 {d : Nat} {H : pmT} {Q : pmQ} 
    (h : (0 ≤ (H.1 45 0) → Q (some (.int (0 : Int32))) H) ∧ (¬ 0 ≤ (H.1 45 0) → (¬ (H.1 45 1) = (-1 : Int32) → Q (some (.int (0 : Int32))) H) ∧ ((H.1 45 1) = (-1 : Int32) → Q (some (.int (1 : Int32))) H))) : pm_R d M_Sh_isEmpty [.ref 45] H Q :=
  pm_walk (n := 10) ok_Sh_isEmpty tk_Sh_isEmpty rfl (Nat.le_of_ble_eq_true rfl) (show (0 ≤ (H.1 45 0) → ((0 : Int32) = 0 ∨ (0 : Int32) = 1) ∧ (Q (some (.int (0 : Int32))) H)) ∧ (¬ 0 ≤ (H.1 45 0) → (¬ (H.1 45 1) = (-1 : Int32) → ((0 : Int32) = 0 ∨ (0 : Int32) = 1) ∧ (Q (some (.int (0 : Int32))) H)) ∧ ((H.1 45 1) = (-1 : Int32) → ((1 : Int32) = 0 ∨ (1 : Int32) = 1) ∧ (Q (some (.int (1 : Int32))) H))) from ⟨fun q1 => ⟨Or.inl rfl, (h.1 q1)⟩, fun q1 => ⟨fun q2 => ⟨Or.inl rfl, ((h.2 q1).1 q2)⟩, fun q2 => ⟨Or.inr rfl, ((h.2 q1).2 q2)⟩⟩⟩)
set_option maxRecDepth 100000 in
set_option maxHeartbeats 4000000 in
theorem m_Sh_isEmpty_47 {d : Nat} {H : pmT} {Q : pmQ} 
    (h : (0 ≤ (H.1 47 0) → Q (some (.int (0 : Int32))) H) ∧ (¬ 0 ≤ (H.1 47 0) → (¬ (H.1 47 1) = (-1 : Int32) → Q (some (.int (0 : Int32))) H) ∧ ((H.1 47 1) = (-1 : Int32) → Q (some (.int (1 : Int32))) H))) : pm_R d M_Sh_isEmpty [.ref 47] H Q :=
  pm_walk (n := 10) ok_Sh_isEmpty tk_Sh_isEmpty rfl (Nat.le_of_ble_eq_true rfl) (show (0 ≤ (H.1 47 0) → ((0 : Int32) = 0 ∨ (0 : Int32) = 1) ∧ (Q (some (.int (0 : Int32))) H)) ∧ (¬ 0 ≤ (H.1 47 0) → (¬ (H.1 47 1) = (-1 : Int32) → ((0 : Int32) = 0 ∨ (0 : Int32) = 1) ∧ (Q (some (.int (0 : Int32))) H)) ∧ ((H.1 47 1) = (-1 : Int32) → ((1 : Int32) = 0 ∨ (1 : Int32) = 1) ∧ (Q (some (.int (1 : Int32))) H))) from ⟨fun q1 => ⟨Or.inl rfl, (h.1 q1)⟩, fun q1 => ⟨fun q2 => ⟨Or.inl rfl, ((h.2 q1).1 q2)⟩, fun q2 => ⟨Or.inr rfl, ((h.2 q1).2 q2)⟩⟩⟩)
set_option maxRecDepth 100000 in
set_option maxHeartbeats 4000000 in
theorem m_Sh_isEmpty_49 {d : Nat} {H : pmT} {Q : pmQ} 
    (h : (0 ≤ (H.1 49 0) → Q (some (.int (0 : Int32))) H) ∧ (¬ 0 ≤ (H.1 49 0) → (¬ (H.1 49 1) = (-1 : Int32) → Q (some (.int (0 : Int32))) H) ∧ ((H.1 49 1) = (-1 : Int32) → Q (some (.int (1 : Int32))) H))) : pm_R d M_Sh_isEmpty [.ref 49] H Q :=
  pm_walk (n := 10) ok_Sh_isEmpty tk_Sh_isEmpty rfl (Nat.le_of_ble_eq_true rfl) (show (0 ≤ (H.1 49 0) → ((0 : Int32) = 0 ∨ (0 : Int32) = 1) ∧ (Q (some (.int (0 : Int32))) H)) ∧ (¬ 0 ≤ (H.1 49 0) → (¬ (H.1 49 1) = (-1 : Int32) → ((0 : Int32) = 0 ∨ (0 : Int32) = 1) ∧ (Q (some (.int (0 : Int32))) H)) ∧ ((H.1 49 1) = (-1 : Int32) → ((1 : Int32) = 0 ∨ (1 : Int32) = 1) ∧ (Q (some (.int (1 : Int32))) H))) from ⟨fun q1 => ⟨Or.inl rfl, (h.1 q1)⟩, fun q1 => ⟨fun q2 => ⟨Or.inl rfl, ((h.2 q1).1 q2)⟩, fun q2 => ⟨Or.inr rfl, ((h.2 q1).2 q2)⟩⟩⟩)
set_option maxRecDepth 100000 in
set_option maxHeartbeats 4000000 in
theorem m_Sh_isEmpty_51 {d : Nat} {H : pmT} {Q : pmQ} 
    (h : (0 ≤ (H.1 51 0) → Q (some (.int (0 : Int32))) H) ∧ (¬ 0 ≤ (H.1 51 0) → (¬ (H.1 51 1) = (-1 : Int32) → Q (some (.int (0 : Int32))) H) ∧ ((H.1 51 1) = (-1 : Int32) → Q (some (.int (1 : Int32))) H))) : pm_R d M_Sh_isEmpty [.ref 51] H Q :=
  pm_walk (n := 10) ok_Sh_isEmpty tk_Sh_isEmpty rfl (Nat.le_of_ble_eq_true rfl) (show (0 ≤ (H.1 51 0) → ((0 : Int32) = 0 ∨ (0 : Int32) = 1) ∧ (Q (some (.int (0 : Int32))) H)) ∧ (¬ 0 ≤ (H.1 51 0) → (¬ (H.1 51 1) = (-1 : Int32) → ((0 : Int32) = 0 ∨ (0 : Int32) = 1) ∧ (Q (some (.int (0 : Int32))) H)) ∧ ((H.1 51 1) = (-1 : Int32) → ((1 : Int32) = 0 ∨ (1 : Int32) = 1) ∧ (Q (some (.int (1 : Int32))) H))) from ⟨fun q1 => ⟨Or.inl rfl, (h.1 q1)⟩, fun q1 => ⟨fun q2 => ⟨Or.inl rfl, ((h.2 q1).1 q2)⟩, fun q2 => ⟨Or.inr rfl, ((h.2 q1).2 q2)⟩⟩⟩)
set_option maxRecDepth 100000 in
set_option maxHeartbeats 4000000 in
theorem m_Sh_isEmpty_53 {d : Nat} {H : pmT} {Q : pmQ} 
    (h : (0 ≤ (H.1 53 0) → Q (some (.int (0 : Int32))) H) ∧ (¬ 0 ≤ (H.1 53 0) → (¬ (H.1 53 1) = (-1 : Int32) → Q (some (.int (0 : Int32))) H) ∧ ((H.1 53 1) = (-1 : Int32) → Q (some (.int (1 : Int32))) H))) : pm_R d M_Sh_isEmpty [.ref 53] H Q :=
  pm_walk (n := 10) ok_Sh_isEmpty tk_Sh_isEmpty rfl (Nat.le_of_ble_eq_true rfl) (show (0 ≤ (H.1 53 0) → ((0 : Int32) = 0 ∨ (0 : Int32) = 1) ∧ (Q (some (.int (0 : Int32))) H)) ∧ (¬ 0 ≤ (H.1 53 0) → (¬ (H.1 53 1) = (-1 : Int32) → ((0 : Int32) = 0 ∨ (0 : Int32) = 1) ∧ (Q (some (.int (0 : Int32))) H)) ∧ ((H.1 53 1) = (-1 : Int32) → ((1 : Int32) = 0 ∨ (1 : Int32) = 1) ∧ (Q (some (.int (1 : Int32))) H))) from ⟨fun q1 => ⟨Or.inl rfl, (h.1 q1)⟩, fun q1 => ⟨fun q2 => ⟨Or.inl rfl, ((h.2 q1).1 q2)⟩, fun q2 => ⟨Or.inr rfl, ((h.2 q1).2 q2)⟩⟩⟩)
def T_Sh_isRow : List pmE := [
  (0, [], .aload 0, 0, 0, 0),
  (1, [], .getfield 449, 0, 15, 329),
  (4, [], .iconst (-1), 0, 0, 0),
  (5, [], .if_icmp .eq 12, 0, 0, 0),
  (8, [], .iconst 1, 0, 0, 0),
  (9, [], .goto 13, 0, 0, 0),
  (12, [], .iconst 0, 0, 0, 0),
  (13, [], .areturn, 0, 0, 0)]
theorem tk_Sh_isRow : pm_okT M_Sh_isRow T_Sh_isRow = true := by decide +kernel
theorem ok_Sh_isRow : pm_okm M_Sh_isRow := pm_okm_of _ 410 84 408 409 (by decide +kernel)
set_option maxRecDepth 100000 in
set_option maxHeartbeats 4000000 in
theorem m_Sh_isRow_43 {d : Nat} {H : pmT} {Q : pmQ} 
    (h : ((H.1 43 1) = (-1 : Int32) → Q (some (.int (0 : Int32))) H) ∧ (¬ (H.1 43 1) = (-1 : Int32) → Q (some (.int (1 : Int32))) H)) : pm_R d M_Sh_isRow [.ref 43] H Q :=
  pm_walk (n := 7) ok_Sh_isRow tk_Sh_isRow rfl (Nat.le_of_ble_eq_true rfl) (show ((H.1 43 1) = (-1 : Int32) → ((0 : Int32) = 0 ∨ (0 : Int32) = 1) ∧ (Q (some (.int (0 : Int32))) H)) ∧ (¬ (H.1 43 1) = (-1 : Int32) → ((1 : Int32) = 0 ∨ (1 : Int32) = 1) ∧ (Q (some (.int (1 : Int32))) H)) from ⟨fun q1 => ⟨Or.inl rfl, (h.1 q1)⟩, fun q1 => ⟨Or.inr rfl, (h.2 q1)⟩⟩)
set_option maxRecDepth 100000 in
set_option maxHeartbeats 4000000 in
theorem m_Sh_isRow_45 {d : Nat} {H : pmT} {Q : pmQ} 
    (h : ((H.1 45 1) = (-1 : Int32) → Q (some (.int (0 : Int32))) H) ∧ (¬ (H.1 45 1) = (-1 : Int32) → Q (some (.int (1 : Int32))) H)) : pm_R d M_Sh_isRow [.ref 45] H Q :=
  pm_walk (n := 7) ok_Sh_isRow tk_Sh_isRow rfl (Nat.le_of_ble_eq_true rfl) (show ((H.1 45 1) = (-1 : Int32) → ((0 : Int32) = 0 ∨ (0 : Int32) = 1) ∧ (Q (some (.int (0 : Int32))) H)) ∧ (¬ (H.1 45 1) = (-1 : Int32) → ((1 : Int32) = 0 ∨ (1 : Int32) = 1) ∧ (Q (some (.int (1 : Int32))) H)) from ⟨fun q1 => ⟨Or.inl rfl, (h.1 q1)⟩, fun q1 => ⟨Or.inr rfl, (h.2 q1)⟩⟩)
set_option maxRecDepth 100000 in
set_option maxHeartbeats 4000000 in
theorem m_Sh_isRow_47 {d : Nat} {H : pmT} {Q : pmQ} 
    (h : ((H.1 47 1) = (-1 : Int32) → Q (some (.int (0 : Int32))) H) ∧ (¬ (H.1 47 1) = (-1 : Int32) → Q (some (.int (1 : Int32))) H)) : pm_R d M_Sh_isRow [.ref 47] H Q :=
  pm_walk (n := 7) ok_Sh_isRow tk_Sh_isRow rfl (Nat.le_of_ble_eq_true rfl) (show ((H.1 47 1) = (-1 : Int32) → ((0 : Int32) = 0 ∨ (0 : Int32) = 1) ∧ (Q (some (.int (0 : Int32))) H)) ∧ (¬ (H.1 47 1) = (-1 : Int32) → ((1 : Int32) = 0 ∨ (1 : Int32) = 1) ∧ (Q (some (.int (1 : Int32))) H)) from ⟨fun q1 => ⟨Or.inl rfl, (h.1 q1)⟩, fun q1 => ⟨Or.inr rfl, (h.2 q1)⟩⟩)
set_option maxRecDepth 100000 in
set_option maxHeartbeats 4000000 in
theorem m_Sh_isRow_49 {d : Nat} {H : pmT} {Q : pmQ} 
    (h : ((H.1 49 1) = (-1 : Int32) → Q (some (.int (0 : Int32))) H) ∧ (¬ (H.1 49 1) = (-1 : Int32) → Q (some (.int (1 : Int32))) H)) : pm_R d M_Sh_isRow [.ref 49] H Q :=
  pm_walk (n := 7) ok_Sh_isRow tk_Sh_isRow rfl (Nat.le_of_ble_eq_true rfl) (show ((H.1 49 1) = (-1 : Int32) → ((0 : Int32) = 0 ∨ (0 : Int32) = 1) ∧ (Q (some (.int (0 : Int32))) H)) ∧ (¬ (H.1 49 1) = (-1 : Int32) → ((1 : Int32) = 0 ∨ (1 : Int32) = 1) ∧ (Q (some (.int (1 : Int32))) H)) from ⟨fun q1 => ⟨Or.inl rfl, (h.1 q1)⟩, fun q1 => ⟨Or.inr rfl, (h.2 q1)⟩⟩)
set_option maxRecDepth 100000 in
set_option maxHeartbeats 4000000 in
theorem m_Sh_isRow_51 {d : Nat} {H : pmT} {Q : pmQ} 
    (h : ((H.1 51 1) = (-1 : Int32) → Q (some (.int (0 : Int32))) H) ∧ (¬ (H.1 51 1) = (-1 : Int32) → Q (some (.int (1 : Int32))) H)) : pm_R d M_Sh_isRow [.ref 51] H Q :=
  pm_walk (n := 7) ok_Sh_isRow tk_Sh_isRow rfl (Nat.le_of_ble_eq_true rfl) (show ((H.1 51 1) = (-1 : Int32) → ((0 : Int32) = 0 ∨ (0 : Int32) = 1) ∧ (Q (some (.int (0 : Int32))) H)) ∧ (¬ (H.1 51 1) = (-1 : Int32) → ((1 : Int32) = 0 ∨ (1 : Int32) = 1) ∧ (Q (some (.int (1 : Int32))) H)) from ⟨fun q1 => ⟨Or.inl rfl, (h.1 q1)⟩, fun q1 => ⟨Or.inr rfl, (h.2 q1)⟩⟩)
set_option maxRecDepth 100000 in
set_option maxHeartbeats 4000000 in
theorem m_Sh_isRow_53 {d : Nat} {H : pmT} {Q : pmQ} 
    (h : ((H.1 53 1) = (-1 : Int32) → Q (some (.int (0 : Int32))) H) ∧ (¬ (H.1 53 1) = (-1 : Int32) → Q (some (.int (1 : Int32))) H)) : pm_R d M_Sh_isRow [.ref 53] H Q :=
  pm_walk (n := 7) ok_Sh_isRow tk_Sh_isRow rfl (Nat.le_of_ble_eq_true rfl) (show ((H.1 53 1) = (-1 : Int32) → ((0 : Int32) = 0 ∨ (0 : Int32) = 1) ∧ (Q (some (.int (0 : Int32))) H)) ∧ (¬ (H.1 53 1) = (-1 : Int32) → ((1 : Int32) = 0 ∨ (1 : Int32) = 1) ∧ (Q (some (.int (1 : Int32))) H)) from ⟨fun q1 => ⟨Or.inl rfl, (h.1 q1)⟩, fun q1 => ⟨Or.inr rfl, (h.2 q1)⟩⟩)
def T_Sh_isRowOf : List pmE := [
  (0, [], .aload 0, 0, 0, 0),
  (1, [], .invokeinterface 83 517, 0, 25, 407),
  (4, [], .ifCond .eq 19, 0, 0, 0),
  (7, [], .aload 0, 0, 0, 0),
  (8, [], .getfield 449, 0, 15, 329),
  (11, [], .iload 1, 0, 0, 0),
  (12, [], .if_icmp .ne 19, 0, 0, 0),
  (15, [], .iconst 1, 0, 0, 0),
  (16, [], .goto 20, 0, 0, 0),
  (19, [], .iconst 0, 0, 0, 0),
  (20, [], .areturn, 0, 0, 0)]
theorem tk_Sh_isRowOf : pm_okT M_Sh_isRowOf T_Sh_isRowOf = true := by decide +kernel
theorem ok_Sh_isRowOf : pm_okm M_Sh_isRowOf := pm_okm_of _ 406 84 404 405 (by decide +kernel)
set_option maxRecDepth 100000 in
set_option maxHeartbeats 4000000 in
theorem m_Sh_isRowOf_43 {d : Nat} {H : pmT} {Q : pmQ} (a1 : Int32)
    (h : pm_R d M_Sh_isRow [.ref 43] H (pm_i (fun x2 H1 => (x2 = 0 → Q (some (.int (0 : Int32))) H1) ∧ (¬ x2 = 0 → (¬ (H1.1 43 1) = a1 → Q (some (.int (0 : Int32))) H1) ∧ ((H1.1 43 1) = a1 → Q (some (.int (1 : Int32))) H1))))) : pm_R (d + 1) M_Sh_isRowOf [.ref 43, .int a1] H Q :=
  pm_walk (n := 10) ok_Sh_isRowOf tk_Sh_isRowOf rfl (Nat.le_of_ble_eq_true rfl) (show pm_R d M_Sh_isRow [.ref 43] H (pm_i (fun x2 H1 => (x2 = 0 → ((0 : Int32) = 0 ∨ (0 : Int32) = 1) ∧ (Q (some (.int (0 : Int32))) H1)) ∧ (¬ x2 = 0 → (¬ (H1.1 43 1) = a1 → ((0 : Int32) = 0 ∨ (0 : Int32) = 1) ∧ (Q (some (.int (0 : Int32))) H1)) ∧ ((H1.1 43 1) = a1 → ((1 : Int32) = 0 ∨ (1 : Int32) = 1) ∧ (Q (some (.int (1 : Int32))) H1))))) from pm_mi h (fun x2 H1 z1 => ⟨fun q2 => ⟨Or.inl rfl, (z1.1 q2)⟩, fun q2 => ⟨fun q3 => ⟨Or.inl rfl, ((z1.2 q2).1 q3)⟩, fun q3 => ⟨Or.inr rfl, ((z1.2 q2).2 q3)⟩⟩⟩))
set_option maxRecDepth 100000 in
set_option maxHeartbeats 4000000 in
theorem m_Sh_isRowOf_45 {d : Nat} {H : pmT} {Q : pmQ} (a1 : Int32)
    (h : pm_R d M_Sh_isRow [.ref 45] H (pm_i (fun x2 H1 => (x2 = 0 → Q (some (.int (0 : Int32))) H1) ∧ (¬ x2 = 0 → (¬ (H1.1 45 1) = a1 → Q (some (.int (0 : Int32))) H1) ∧ ((H1.1 45 1) = a1 → Q (some (.int (1 : Int32))) H1))))) : pm_R (d + 1) M_Sh_isRowOf [.ref 45, .int a1] H Q :=
  pm_walk (n := 10) ok_Sh_isRowOf tk_Sh_isRowOf rfl (Nat.le_of_ble_eq_true rfl) (show pm_R d M_Sh_isRow [.ref 45] H (pm_i (fun x2 H1 => (x2 = 0 → ((0 : Int32) = 0 ∨ (0 : Int32) = 1) ∧ (Q (some (.int (0 : Int32))) H1)) ∧ (¬ x2 = 0 → (¬ (H1.1 45 1) = a1 → ((0 : Int32) = 0 ∨ (0 : Int32) = 1) ∧ (Q (some (.int (0 : Int32))) H1)) ∧ ((H1.1 45 1) = a1 → ((1 : Int32) = 0 ∨ (1 : Int32) = 1) ∧ (Q (some (.int (1 : Int32))) H1))))) from pm_mi h (fun x2 H1 z1 => ⟨fun q2 => ⟨Or.inl rfl, (z1.1 q2)⟩, fun q2 => ⟨fun q3 => ⟨Or.inl rfl, ((z1.2 q2).1 q3)⟩, fun q3 => ⟨Or.inr rfl, ((z1.2 q2).2 q3)⟩⟩⟩))
set_option maxRecDepth 100000 in
set_option maxHeartbeats 4000000 in
theorem m_Sh_isRowOf_47 {d : Nat} {H : pmT} {Q : pmQ} (a1 : Int32)
    (h : pm_R d M_Sh_isRow [.ref 47] H (pm_i (fun x2 H1 => (x2 = 0 → Q (some (.int (0 : Int32))) H1) ∧ (¬ x2 = 0 → (¬ (H1.1 47 1) = a1 → Q (some (.int (0 : Int32))) H1) ∧ ((H1.1 47 1) = a1 → Q (some (.int (1 : Int32))) H1))))) : pm_R (d + 1) M_Sh_isRowOf [.ref 47, .int a1] H Q :=
  pm_walk (n := 10) ok_Sh_isRowOf tk_Sh_isRowOf rfl (Nat.le_of_ble_eq_true rfl) (show pm_R d M_Sh_isRow [.ref 47] H (pm_i (fun x2 H1 => (x2 = 0 → ((0 : Int32) = 0 ∨ (0 : Int32) = 1) ∧ (Q (some (.int (0 : Int32))) H1)) ∧ (¬ x2 = 0 → (¬ (H1.1 47 1) = a1 → ((0 : Int32) = 0 ∨ (0 : Int32) = 1) ∧ (Q (some (.int (0 : Int32))) H1)) ∧ ((H1.1 47 1) = a1 → ((1 : Int32) = 0 ∨ (1 : Int32) = 1) ∧ (Q (some (.int (1 : Int32))) H1))))) from pm_mi h (fun x2 H1 z1 => ⟨fun q2 => ⟨Or.inl rfl, (z1.1 q2)⟩, fun q2 => ⟨fun q3 => ⟨Or.inl rfl, ((z1.2 q2).1 q3)⟩, fun q3 => ⟨Or.inr rfl, ((z1.2 q2).2 q3)⟩⟩⟩))
set_option maxRecDepth 100000 in
set_option maxHeartbeats 4000000 in
theorem m_Sh_isRowOf_49 {d : Nat} {H : pmT} {Q : pmQ} (a1 : Int32)
    (h : pm_R d M_Sh_isRow [.ref 49] H (pm_i (fun x2 H1 => (x2 = 0 → Q (some (.int (0 : Int32))) H1) ∧ (¬ x2 = 0 → (¬ (H1.1 49 1) = a1 → Q (some (.int (0 : Int32))) H1) ∧ ((H1.1 49 1) = a1 → Q (some (.int (1 : Int32))) H1))))) : pm_R (d + 1) M_Sh_isRowOf [.ref 49, .int a1] H Q :=
  pm_walk (n := 10) ok_Sh_isRowOf tk_Sh_isRowOf rfl (Nat.le_of_ble_eq_true rfl) (show pm_R d M_Sh_isRow [.ref 49] H (pm_i (fun x2 H1 => (x2 = 0 → ((0 : Int32) = 0 ∨ (0 : Int32) = 1) ∧ (Q (some (.int (0 : Int32))) H1)) ∧ (¬ x2 = 0 → (¬ (H1.1 49 1) = a1 → ((0 : Int32) = 0 ∨ (0 : Int32) = 1) ∧ (Q (some (.int (0 : Int32))) H1)) ∧ ((H1.1 49 1) = a1 → ((1 : Int32) = 0 ∨ (1 : Int32) = 1) ∧ (Q (some (.int (1 : Int32))) H1))))) from pm_mi h (fun x2 H1 z1 => ⟨fun q2 => ⟨Or.inl rfl, (z1.1 q2)⟩, fun q2 => ⟨fun q3 => ⟨Or.inl rfl, ((z1.2 q2).1 q3)⟩, fun q3 => ⟨Or.inr rfl, ((z1.2 q2).2 q3)⟩⟩⟩))
set_option maxRecDepth 100000 in
set_option maxHeartbeats 4000000 in
theorem m_Sh_isRowOf_51 {d : Nat} {H : pmT} {Q : pmQ} (a1 : Int32)
    (h : pm_R d M_Sh_isRow [.ref 51] H (pm_i (fun x2 H1 => (x2 = 0 → Q (some (.int (0 : Int32))) H1) ∧ (¬ x2 = 0 → (¬ (H1.1 51 1) = a1 → Q (some (.int (0 : Int32))) H1) ∧ ((H1.1 51 1) = a1 → Q (some (.int (1 : Int32))) H1))))) : pm_R (d + 1) M_Sh_isRowOf [.ref 51, .int a1] H Q :=
  pm_walk (n := 10) ok_Sh_isRowOf tk_Sh_isRowOf rfl (Nat.le_of_ble_eq_true rfl) (show pm_R d M_Sh_isRow [.ref 51] H (pm_i (fun x2 H1 => (x2 = 0 → ((0 : Int32) = 0 ∨ (0 : Int32) = 1) ∧ (Q (some (.int (0 : Int32))) H1)) ∧ (¬ x2 = 0 → (¬ (H1.1 51 1) = a1 → ((0 : Int32) = 0 ∨ (0 : Int32) = 1) ∧ (Q (some (.int (0 : Int32))) H1)) ∧ ((H1.1 51 1) = a1 → ((1 : Int32) = 0 ∨ (1 : Int32) = 1) ∧ (Q (some (.int (1 : Int32))) H1))))) from pm_mi h (fun x2 H1 z1 => ⟨fun q2 => ⟨Or.inl rfl, (z1.1 q2)⟩, fun q2 => ⟨fun q3 => ⟨Or.inl rfl, ((z1.2 q2).1 q3)⟩, fun q3 => ⟨Or.inr rfl, ((z1.2 q2).2 q3)⟩⟩⟩))
set_option maxRecDepth 100000 in
set_option maxHeartbeats 4000000 in
theorem m_Sh_isRowOf_53 {d : Nat} {H : pmT} {Q : pmQ} (a1 : Int32)
    (h : pm_R d M_Sh_isRow [.ref 53] H (pm_i (fun x2 H1 => (x2 = 0 → Q (some (.int (0 : Int32))) H1) ∧ (¬ x2 = 0 → (¬ (H1.1 53 1) = a1 → Q (some (.int (0 : Int32))) H1) ∧ ((H1.1 53 1) = a1 → Q (some (.int (1 : Int32))) H1))))) : pm_R (d + 1) M_Sh_isRowOf [.ref 53, .int a1] H Q :=
  pm_walk (n := 10) ok_Sh_isRowOf tk_Sh_isRowOf rfl (Nat.le_of_ble_eq_true rfl) (show pm_R d M_Sh_isRow [.ref 53] H (pm_i (fun x2 H1 => (x2 = 0 → ((0 : Int32) = 0 ∨ (0 : Int32) = 1) ∧ (Q (some (.int (0 : Int32))) H1)) ∧ (¬ x2 = 0 → (¬ (H1.1 53 1) = a1 → ((0 : Int32) = 0 ∨ (0 : Int32) = 1) ∧ (Q (some (.int (0 : Int32))) H1)) ∧ ((H1.1 53 1) = a1 → ((1 : Int32) = 0 ∨ (1 : Int32) = 1) ∧ (Q (some (.int (1 : Int32))) H1))))) from pm_mi h (fun x2 H1 z1 => ⟨fun q2 => ⟨Or.inl rfl, (z1.1 q2)⟩, fun q2 => ⟨fun q3 => ⟨Or.inl rfl, ((z1.2 q2).1 q3)⟩, fun q3 => ⟨Or.inr rfl, ((z1.2 q2).2 q3)⟩⟩⟩))
def T_Sh_holdBody : List pmE := [
  (0, [], .aload 0, 0, 0, 0),
  (1, [], .iload 1, 0, 0, 0),
  (2, [], .putfield 448, 0, 9, 327),
  (5, [], .aload 0, 0, 0, 0),
  (6, [], .iconst (-1), 0, 0, 0),
  (7, [], .putfield 449, 0, 15, 329),
  (10, [], .aload 0, 0, 0, 0),
  (11, [], .iconst 0, 0, 0, 0),
  (12, [], .putfield 450, 0, 18, 331),
  (15, [], .return_, 0, 0, 0)]
theorem tk_Sh_holdBody : pm_okT M_Sh_holdBody T_Sh_holdBody = true := by decide +kernel
theorem ok_Sh_holdBody : pm_okm M_Sh_holdBody := pm_okm_of _ 925 84 923 924 (by decide +kernel)
set_option maxRecDepth 100000 in
set_option maxHeartbeats 4000000 in
theorem m_Sh_holdBody_43 {d : Nat} {H : pmT} {Q : pmQ} (a1 : Int32)
    (h : Q none ((pm_up (pm_up (pm_up H.1 43 0 a1) 43 1 (-1 : Int32)) 43 2 (0 : Int32)), H.2)) : pm_R d M_Sh_holdBody [.ref 43, .int a1] H Q :=
  pm_walk (n := 10) ok_Sh_holdBody tk_Sh_holdBody rfl (Nat.le_of_ble_eq_true rfl) (show Q none ((pm_up (pm_up (pm_up H.1 43 0 a1) 43 1 (-1 : Int32)) 43 2 (0 : Int32)), H.2) from h)
set_option maxRecDepth 100000 in
set_option maxHeartbeats 4000000 in
theorem m_Sh_holdBody_45 {d : Nat} {H : pmT} {Q : pmQ} (a1 : Int32)
    (h : Q none ((pm_up (pm_up (pm_up H.1 45 0 a1) 45 1 (-1 : Int32)) 45 2 (0 : Int32)), H.2)) : pm_R d M_Sh_holdBody [.ref 45, .int a1] H Q :=
  pm_walk (n := 10) ok_Sh_holdBody tk_Sh_holdBody rfl (Nat.le_of_ble_eq_true rfl) (show Q none ((pm_up (pm_up (pm_up H.1 45 0 a1) 45 1 (-1 : Int32)) 45 2 (0 : Int32)), H.2) from h)
set_option maxRecDepth 100000 in
set_option maxHeartbeats 4000000 in
theorem m_Sh_holdBody_47 {d : Nat} {H : pmT} {Q : pmQ} (a1 : Int32)
    (h : Q none ((pm_up (pm_up (pm_up H.1 47 0 a1) 47 1 (-1 : Int32)) 47 2 (0 : Int32)), H.2)) : pm_R d M_Sh_holdBody [.ref 47, .int a1] H Q :=
  pm_walk (n := 10) ok_Sh_holdBody tk_Sh_holdBody rfl (Nat.le_of_ble_eq_true rfl) (show Q none ((pm_up (pm_up (pm_up H.1 47 0 a1) 47 1 (-1 : Int32)) 47 2 (0 : Int32)), H.2) from h)
set_option maxRecDepth 100000 in
set_option maxHeartbeats 4000000 in
theorem m_Sh_holdBody_49 {d : Nat} {H : pmT} {Q : pmQ} (a1 : Int32)
    (h : Q none ((pm_up (pm_up (pm_up H.1 49 0 a1) 49 1 (-1 : Int32)) 49 2 (0 : Int32)), H.2)) : pm_R d M_Sh_holdBody [.ref 49, .int a1] H Q :=
  pm_walk (n := 10) ok_Sh_holdBody tk_Sh_holdBody rfl (Nat.le_of_ble_eq_true rfl) (show Q none ((pm_up (pm_up (pm_up H.1 49 0 a1) 49 1 (-1 : Int32)) 49 2 (0 : Int32)), H.2) from h)
set_option maxRecDepth 100000 in
set_option maxHeartbeats 4000000 in
theorem m_Sh_holdBody_51 {d : Nat} {H : pmT} {Q : pmQ} (a1 : Int32)
    (h : Q none ((pm_up (pm_up (pm_up H.1 51 0 a1) 51 1 (-1 : Int32)) 51 2 (0 : Int32)), H.2)) : pm_R d M_Sh_holdBody [.ref 51, .int a1] H Q :=
  pm_walk (n := 10) ok_Sh_holdBody tk_Sh_holdBody rfl (Nat.le_of_ble_eq_true rfl) (show Q none ((pm_up (pm_up (pm_up H.1 51 0 a1) 51 1 (-1 : Int32)) 51 2 (0 : Int32)), H.2) from h)
set_option maxRecDepth 100000 in
set_option maxHeartbeats 4000000 in
theorem m_Sh_holdBody_53 {d : Nat} {H : pmT} {Q : pmQ} (a1 : Int32)
    (h : Q none ((pm_up (pm_up (pm_up H.1 53 0 a1) 53 1 (-1 : Int32)) 53 2 (0 : Int32)), H.2)) : pm_R d M_Sh_holdBody [.ref 53, .int a1] H Q :=
  pm_walk (n := 10) ok_Sh_holdBody tk_Sh_holdBody rfl (Nat.le_of_ble_eq_true rfl) (show Q none ((pm_up (pm_up (pm_up H.1 53 0 a1) 53 1 (-1 : Int32)) 53 2 (0 : Int32)), H.2) from h)
def T_Sh_holdRow : List pmE := [
  (0, [], .aload 0, 0, 0, 0),
  (1, [], .iconst (-1), 0, 0, 0),
  (2, [], .putfield 448, 0, 9, 327),
  (5, [], .aload 0, 0, 0, 0),
  (6, [], .iload 1, 0, 0, 0),
  (7, [], .putfield 449, 0, 15, 329),
  (10, [], .aload 0, 0, 0, 0),
  (11, [], .iload 2, 0, 0, 0),
  (12, [], .putfield 450, 0, 18, 331),
  (15, [], .iconst 0, 0, 0, 0),
  (16, [], .istore 3, 0, 0, 0),
  (17, [0, 2, 3], .iload 3, 0, 0, 0),
  (18, [], .iload 2, 0, 0, 0),
  (19, [], .if_icmp .ge 41, 0, 0, 0),
  (22, [], .iload 3, 0, 0, 0),
  (23, [], .iconst 60, 1, 0, 0),
  (25, [], .if_icmp .ge 41, 0, 0, 0),
  (28, [], .aload 0, 0, 0, 0),
  (29, [], .getfield 451, 0, 21, 335),
  (32, [], .iload 3, 0, 0, 0),
  (33, [], .jsr 0, 0, 0, 0),
  (34, [], .lastore, 0, 0, 0),
  (35, [], .iinc 3 1, 0, 0, 0),
  (38, [], .goto 17, 0, 0, 0),
  (41, [], .return_, 0, 0, 0)]
theorem tk_Sh_holdRow : pm_okT M_Sh_holdRow T_Sh_holdRow = true := by decide +kernel
theorem ok_Sh_holdRow : pm_okm M_Sh_holdRow := pm_okm_of _ 933 84 931 932 (by decide +kernel)
set_option maxRecDepth 100000 in
set_option maxHeartbeats 4000000 in
theorem m_Sh_holdRow_43 {d : Nat} {H : pmT} {Q : pmQ} (a1 : Int32) (a2 : Int32)
    (h : pm_RW none d M_Sh_holdRow Q 17 [(0, .ref 43), (2, .int a2), (3, .int (0 : Int32))] [] ((pm_up (pm_up (pm_up H.1 43 0 (-1 : Int32)) 43 1 a1) 43 2 a2), H.2)) : pm_R d M_Sh_holdRow [.ref 43, .int a1, .int a2] H Q :=
  pm_walk (n := 12) ok_Sh_holdRow tk_Sh_holdRow rfl (Nat.le_of_ble_eq_true rfl) (show pm_RW none d M_Sh_holdRow Q 17 [(0, .ref 43), (2, .int a2), (3, .int (0 : Int32))] [] ((pm_up (pm_up (pm_up H.1 43 0 (-1 : Int32)) 43 1 a1) 43 2 a2), H.2) from h)
set_option maxRecDepth 100000 in
set_option maxHeartbeats 4000000 in
theorem b_Sh_holdRow_43_17 {d : Nat} {H : pmT} {Q : pmQ} (v2 : Int32) (v3 : Int32)
    (h : (v2 ≤ v3 → Q none H) ∧ (¬ v2 ≤ v3 → ((60 : Int32) ≤ v3 → Q none H) ∧ (¬ (60 : Int32) ≤ v3 → vp_in v3 60 ∧ (pm_RW none d M_Sh_holdRow Q 17 [(0, .ref 43), (2, .int v2), (3, .int (v3 + (1 : Int32)))] [] (H.1, (pm_upL H.2.1 44 v3.toNatClampNeg (0 : Int64)), H.2.2))))) : pm_RW none d M_Sh_holdRow Q 17 [(0, .ref 43), (2, .int v2), (3, .int v3)] [] H :=
  pm_body tk_Sh_holdRow 13 17 (show (v2 ≤ v3 → Q none H) ∧ (¬ v2 ≤ v3 → ((60 : Int32) ≤ v3 → Q none H) ∧ (¬ (60 : Int32) ≤ v3 → vp_in v3 60 ∧ (pm_RW none d M_Sh_holdRow Q 17 [(0, .ref 43), (2, .int v2), (3, .int (v3 + (1 : Int32)))] [] (H.1, (pm_upL H.2.1 44 v3.toNatClampNeg (0 : Int64)), H.2.2)))) from ⟨fun q1 => (h.1 q1), fun q1 => ⟨fun q2 => ((h.2 q1).1 q2), fun q2 => ⟨((h.2 q1).2 q2).1, ((h.2 q1).2 q2).2⟩⟩⟩)
set_option maxRecDepth 100000 in
set_option maxHeartbeats 4000000 in
theorem m_Sh_holdRow_45 {d : Nat} {H : pmT} {Q : pmQ} (a1 : Int32) (a2 : Int32)
    (h : pm_RW none d M_Sh_holdRow Q 17 [(0, .ref 45), (2, .int a2), (3, .int (0 : Int32))] [] ((pm_up (pm_up (pm_up H.1 45 0 (-1 : Int32)) 45 1 a1) 45 2 a2), H.2)) : pm_R d M_Sh_holdRow [.ref 45, .int a1, .int a2] H Q :=
  pm_walk (n := 12) ok_Sh_holdRow tk_Sh_holdRow rfl (Nat.le_of_ble_eq_true rfl) (show pm_RW none d M_Sh_holdRow Q 17 [(0, .ref 45), (2, .int a2), (3, .int (0 : Int32))] [] ((pm_up (pm_up (pm_up H.1 45 0 (-1 : Int32)) 45 1 a1) 45 2 a2), H.2) from h)
set_option maxRecDepth 100000 in
set_option maxHeartbeats 4000000 in
theorem b_Sh_holdRow_45_17 {d : Nat} {H : pmT} {Q : pmQ} (v2 : Int32) (v3 : Int32)
    (h : (v2 ≤ v3 → Q none H) ∧ (¬ v2 ≤ v3 → ((60 : Int32) ≤ v3 → Q none H) ∧ (¬ (60 : Int32) ≤ v3 → vp_in v3 60 ∧ (pm_RW none d M_Sh_holdRow Q 17 [(0, .ref 45), (2, .int v2), (3, .int (v3 + (1 : Int32)))] [] (H.1, (pm_upL H.2.1 46 v3.toNatClampNeg (0 : Int64)), H.2.2))))) : pm_RW none d M_Sh_holdRow Q 17 [(0, .ref 45), (2, .int v2), (3, .int v3)] [] H :=
  pm_body tk_Sh_holdRow 13 17 (show (v2 ≤ v3 → Q none H) ∧ (¬ v2 ≤ v3 → ((60 : Int32) ≤ v3 → Q none H) ∧ (¬ (60 : Int32) ≤ v3 → vp_in v3 60 ∧ (pm_RW none d M_Sh_holdRow Q 17 [(0, .ref 45), (2, .int v2), (3, .int (v3 + (1 : Int32)))] [] (H.1, (pm_upL H.2.1 46 v3.toNatClampNeg (0 : Int64)), H.2.2)))) from ⟨fun q1 => (h.1 q1), fun q1 => ⟨fun q2 => ((h.2 q1).1 q2), fun q2 => ⟨((h.2 q1).2 q2).1, ((h.2 q1).2 q2).2⟩⟩⟩)
set_option maxRecDepth 100000 in
set_option maxHeartbeats 4000000 in
theorem m_Sh_holdRow_47 {d : Nat} {H : pmT} {Q : pmQ} (a1 : Int32) (a2 : Int32)
    (h : pm_RW none d M_Sh_holdRow Q 17 [(0, .ref 47), (2, .int a2), (3, .int (0 : Int32))] [] ((pm_up (pm_up (pm_up H.1 47 0 (-1 : Int32)) 47 1 a1) 47 2 a2), H.2)) : pm_R d M_Sh_holdRow [.ref 47, .int a1, .int a2] H Q :=
  pm_walk (n := 12) ok_Sh_holdRow tk_Sh_holdRow rfl (Nat.le_of_ble_eq_true rfl) (show pm_RW none d M_Sh_holdRow Q 17 [(0, .ref 47), (2, .int a2), (3, .int (0 : Int32))] [] ((pm_up (pm_up (pm_up H.1 47 0 (-1 : Int32)) 47 1 a1) 47 2 a2), H.2) from h)
set_option maxRecDepth 100000 in
set_option maxHeartbeats 4000000 in
theorem b_Sh_holdRow_47_17 {d : Nat} {H : pmT} {Q : pmQ} (v2 : Int32) (v3 : Int32)
    (h : (v2 ≤ v3 → Q none H) ∧ (¬ v2 ≤ v3 → ((60 : Int32) ≤ v3 → Q none H) ∧ (¬ (60 : Int32) ≤ v3 → vp_in v3 60 ∧ (pm_RW none d M_Sh_holdRow Q 17 [(0, .ref 47), (2, .int v2), (3, .int (v3 + (1 : Int32)))] [] (H.1, (pm_upL H.2.1 48 v3.toNatClampNeg (0 : Int64)), H.2.2))))) : pm_RW none d M_Sh_holdRow Q 17 [(0, .ref 47), (2, .int v2), (3, .int v3)] [] H :=
  pm_body tk_Sh_holdRow 13 17 (show (v2 ≤ v3 → Q none H) ∧ (¬ v2 ≤ v3 → ((60 : Int32) ≤ v3 → Q none H) ∧ (¬ (60 : Int32) ≤ v3 → vp_in v3 60 ∧ (pm_RW none d M_Sh_holdRow Q 17 [(0, .ref 47), (2, .int v2), (3, .int (v3 + (1 : Int32)))] [] (H.1, (pm_upL H.2.1 48 v3.toNatClampNeg (0 : Int64)), H.2.2)))) from ⟨fun q1 => (h.1 q1), fun q1 => ⟨fun q2 => ((h.2 q1).1 q2), fun q2 => ⟨((h.2 q1).2 q2).1, ((h.2 q1).2 q2).2⟩⟩⟩)
set_option maxRecDepth 100000 in
set_option maxHeartbeats 4000000 in
theorem m_Sh_holdRow_49 {d : Nat} {H : pmT} {Q : pmQ} (a1 : Int32) (a2 : Int32)
    (h : pm_RW none d M_Sh_holdRow Q 17 [(0, .ref 49), (2, .int a2), (3, .int (0 : Int32))] [] ((pm_up (pm_up (pm_up H.1 49 0 (-1 : Int32)) 49 1 a1) 49 2 a2), H.2)) : pm_R d M_Sh_holdRow [.ref 49, .int a1, .int a2] H Q :=
  pm_walk (n := 12) ok_Sh_holdRow tk_Sh_holdRow rfl (Nat.le_of_ble_eq_true rfl) (show pm_RW none d M_Sh_holdRow Q 17 [(0, .ref 49), (2, .int a2), (3, .int (0 : Int32))] [] ((pm_up (pm_up (pm_up H.1 49 0 (-1 : Int32)) 49 1 a1) 49 2 a2), H.2) from h)
set_option maxRecDepth 100000 in
set_option maxHeartbeats 4000000 in
theorem b_Sh_holdRow_49_17 {d : Nat} {H : pmT} {Q : pmQ} (v2 : Int32) (v3 : Int32)
    (h : (v2 ≤ v3 → Q none H) ∧ (¬ v2 ≤ v3 → ((60 : Int32) ≤ v3 → Q none H) ∧ (¬ (60 : Int32) ≤ v3 → vp_in v3 60 ∧ (pm_RW none d M_Sh_holdRow Q 17 [(0, .ref 49), (2, .int v2), (3, .int (v3 + (1 : Int32)))] [] (H.1, (pm_upL H.2.1 50 v3.toNatClampNeg (0 : Int64)), H.2.2))))) : pm_RW none d M_Sh_holdRow Q 17 [(0, .ref 49), (2, .int v2), (3, .int v3)] [] H :=
  pm_body tk_Sh_holdRow 13 17 (show (v2 ≤ v3 → Q none H) ∧ (¬ v2 ≤ v3 → ((60 : Int32) ≤ v3 → Q none H) ∧ (¬ (60 : Int32) ≤ v3 → vp_in v3 60 ∧ (pm_RW none d M_Sh_holdRow Q 17 [(0, .ref 49), (2, .int v2), (3, .int (v3 + (1 : Int32)))] [] (H.1, (pm_upL H.2.1 50 v3.toNatClampNeg (0 : Int64)), H.2.2)))) from ⟨fun q1 => (h.1 q1), fun q1 => ⟨fun q2 => ((h.2 q1).1 q2), fun q2 => ⟨((h.2 q1).2 q2).1, ((h.2 q1).2 q2).2⟩⟩⟩)
set_option maxRecDepth 100000 in
set_option maxHeartbeats 4000000 in
theorem m_Sh_holdRow_51 {d : Nat} {H : pmT} {Q : pmQ} (a1 : Int32) (a2 : Int32)
    (h : pm_RW none d M_Sh_holdRow Q 17 [(0, .ref 51), (2, .int a2), (3, .int (0 : Int32))] [] ((pm_up (pm_up (pm_up H.1 51 0 (-1 : Int32)) 51 1 a1) 51 2 a2), H.2)) : pm_R d M_Sh_holdRow [.ref 51, .int a1, .int a2] H Q :=
  pm_walk (n := 12) ok_Sh_holdRow tk_Sh_holdRow rfl (Nat.le_of_ble_eq_true rfl) (show pm_RW none d M_Sh_holdRow Q 17 [(0, .ref 51), (2, .int a2), (3, .int (0 : Int32))] [] ((pm_up (pm_up (pm_up H.1 51 0 (-1 : Int32)) 51 1 a1) 51 2 a2), H.2) from h)
set_option maxRecDepth 100000 in
set_option maxHeartbeats 4000000 in
theorem b_Sh_holdRow_51_17 {d : Nat} {H : pmT} {Q : pmQ} (v2 : Int32) (v3 : Int32)
    (h : (v2 ≤ v3 → Q none H) ∧ (¬ v2 ≤ v3 → ((60 : Int32) ≤ v3 → Q none H) ∧ (¬ (60 : Int32) ≤ v3 → vp_in v3 60 ∧ (pm_RW none d M_Sh_holdRow Q 17 [(0, .ref 51), (2, .int v2), (3, .int (v3 + (1 : Int32)))] [] (H.1, (pm_upL H.2.1 52 v3.toNatClampNeg (0 : Int64)), H.2.2))))) : pm_RW none d M_Sh_holdRow Q 17 [(0, .ref 51), (2, .int v2), (3, .int v3)] [] H :=
  pm_body tk_Sh_holdRow 13 17 (show (v2 ≤ v3 → Q none H) ∧ (¬ v2 ≤ v3 → ((60 : Int32) ≤ v3 → Q none H) ∧ (¬ (60 : Int32) ≤ v3 → vp_in v3 60 ∧ (pm_RW none d M_Sh_holdRow Q 17 [(0, .ref 51), (2, .int v2), (3, .int (v3 + (1 : Int32)))] [] (H.1, (pm_upL H.2.1 52 v3.toNatClampNeg (0 : Int64)), H.2.2)))) from ⟨fun q1 => (h.1 q1), fun q1 => ⟨fun q2 => ((h.2 q1).1 q2), fun q2 => ⟨((h.2 q1).2 q2).1, ((h.2 q1).2 q2).2⟩⟩⟩)
set_option maxRecDepth 100000 in
set_option maxHeartbeats 4000000 in
theorem m_Sh_holdRow_53 {d : Nat} {H : pmT} {Q : pmQ} (a1 : Int32) (a2 : Int32)
    (h : pm_RW none d M_Sh_holdRow Q 17 [(0, .ref 53), (2, .int a2), (3, .int (0 : Int32))] [] ((pm_up (pm_up (pm_up H.1 53 0 (-1 : Int32)) 53 1 a1) 53 2 a2), H.2)) : pm_R d M_Sh_holdRow [.ref 53, .int a1, .int a2] H Q :=
  pm_walk (n := 12) ok_Sh_holdRow tk_Sh_holdRow rfl (Nat.le_of_ble_eq_true rfl) (show pm_RW none d M_Sh_holdRow Q 17 [(0, .ref 53), (2, .int a2), (3, .int (0 : Int32))] [] ((pm_up (pm_up (pm_up H.1 53 0 (-1 : Int32)) 53 1 a1) 53 2 a2), H.2) from h)
set_option maxRecDepth 100000 in
set_option maxHeartbeats 4000000 in
theorem b_Sh_holdRow_53_17 {d : Nat} {H : pmT} {Q : pmQ} (v2 : Int32) (v3 : Int32)
    (h : (v2 ≤ v3 → Q none H) ∧ (¬ v2 ≤ v3 → ((60 : Int32) ≤ v3 → Q none H) ∧ (¬ (60 : Int32) ≤ v3 → vp_in v3 60 ∧ (pm_RW none d M_Sh_holdRow Q 17 [(0, .ref 53), (2, .int v2), (3, .int (v3 + (1 : Int32)))] [] (H.1, (pm_upL H.2.1 54 v3.toNatClampNeg (0 : Int64)), H.2.2))))) : pm_RW none d M_Sh_holdRow Q 17 [(0, .ref 53), (2, .int v2), (3, .int v3)] [] H :=
  pm_body tk_Sh_holdRow 13 17 (show (v2 ≤ v3 → Q none H) ∧ (¬ v2 ≤ v3 → ((60 : Int32) ≤ v3 → Q none H) ∧ (¬ (60 : Int32) ≤ v3 → vp_in v3 60 ∧ (pm_RW none d M_Sh_holdRow Q 17 [(0, .ref 53), (2, .int v2), (3, .int (v3 + (1 : Int32)))] [] (H.1, (pm_upL H.2.1 54 v3.toNatClampNeg (0 : Int64)), H.2.2)))) from ⟨fun q1 => (h.1 q1), fun q1 => ⟨fun q2 => ((h.2 q1).1 q2), fun q2 => ⟨((h.2 q1).2 q2).1, ((h.2 q1).2 q2).2⟩⟩⟩)
def T_Sh_refusalOfPlaces : List pmE := [
  (0, [], .aload 0, 0, 0, 0),
  (1, [], .invokeinterface 82 517, 0, 29, 942),
  (4, [], .ifCond .eq 10, 0, 0, 0),
  (7, [], .iconst (-11), 1, 0, 0),
  (9, [], .ireturn, 0, 0, 0),
  (10, [], .aload 0, 0, 0, 0),
  (11, [], .invokeinterface 83 517, 0, 25, 407),
  (14, [], .ifCond .ne 20, 0, 0, 0),
  (17, [], .iconst (-12), 1, 0, 0),
  (19, [], .ireturn, 0, 0, 0),
  (20, [], .iload 1, 0, 0, 0),
  (21, [], .ifCond .lt 46, 0, 0, 0),
  (24, [], .iload 1, 0, 0, 0),
  (25, [], .aload 0, 0, 0, 0),
  (26, [], .getfield 450, 0, 18, 331),
  (29, [], .if_icmp .gt 46, 0, 0, 0),
  (32, [], .iload 2, 0, 0, 0),
  (33, [], .ifCond .lt 46, 0, 0, 0),
  (36, [], .iload 2, 0, 0, 0),
  (37, [], .aload 0, 0, 0, 0),
  (38, [], .getfield 450, 0, 18, 331),
  (41, [], .iload 1, 0, 0, 0),
  (42, [], .isub, 0, 0, 0),
  (43, [], .if_icmp .le 51, 0, 0, 0),
  (46, [], .iconst (-13), 1, 0, 0),
  (48, [], .goto 52, 0, 0, 0),
  (51, [], .iconst 0, 0, 0, 0),
  (52, [], .ireturn, 0, 0, 0)]
theorem tk_Sh_refusalOfPlaces : pm_okT M_Sh_refusalOfPlaces T_Sh_refusalOfPlaces = true := by decide +kernel
theorem ok_Sh_refusalOfPlaces : pm_okm M_Sh_refusalOfPlaces := pm_okm_of _ 941 84 939 940 (by decide +kernel)
set_option maxRecDepth 100000 in
set_option maxHeartbeats 4000000 in
theorem m_Sh_refusalOfPlaces_43 {d : Nat} {H : pmT} {Q : pmQ} (a1 : Int32) (a2 : Int32)
    (h : pm_R d M_Sh_isEmpty [.ref 43] H (pm_i (fun x2 H1 => (x2 = 0 → pm_R d M_Sh_isRow [.ref 43] H1 (pm_i (fun x4 H3 => (¬ x4 = 0 → (a1 < 0 → Q (some (.int (-13 : Int32))) H3) ∧ (¬ a1 < 0 → ((H3.1 43 2) < a1 → Q (some (.int (-13 : Int32))) H3) ∧ (¬ (H3.1 43 2) < a1 → (a2 < 0 → Q (some (.int (-13 : Int32))) H3) ∧ (¬ a2 < 0 → (a2 ≤ ((H3.1 43 2) - a1) → Q (some (.int (0 : Int32))) H3) ∧ (¬ a2 ≤ ((H3.1 43 2) - a1) → Q (some (.int (-13 : Int32))) H3))))) ∧ (x4 = 0 → Q (some (.int (-12 : Int32))) H3)))) ∧ (¬ x2 = 0 → Q (some (.int (-11 : Int32))) H1)))) : pm_R (d + 1) M_Sh_refusalOfPlaces [.ref 43, .int a1, .int a2] H Q :=
  pm_walk (n := 23) ok_Sh_refusalOfPlaces tk_Sh_refusalOfPlaces rfl (Nat.le_of_ble_eq_true rfl) (show pm_R d M_Sh_isEmpty [.ref 43] H (pm_i (fun x2 H1 => (x2 = 0 → pm_R d M_Sh_isRow [.ref 43] H1 (pm_i (fun x4 H3 => (¬ x4 = 0 → (a1 < 0 → Q (some (.int (-13 : Int32))) H3) ∧ (¬ a1 < 0 → ((H3.1 43 2) < a1 → Q (some (.int (-13 : Int32))) H3) ∧ (¬ (H3.1 43 2) < a1 → (a2 < 0 → Q (some (.int (-13 : Int32))) H3) ∧ (¬ a2 < 0 → (a2 ≤ ((H3.1 43 2) - a1) → Q (some (.int (0 : Int32))) H3) ∧ (¬ a2 ≤ ((H3.1 43 2) - a1) → Q (some (.int (-13 : Int32))) H3))))) ∧ (x4 = 0 → Q (some (.int (-12 : Int32))) H3)))) ∧ (¬ x2 = 0 → Q (some (.int (-11 : Int32))) H1))) from pm_mi h (fun x2 H1 z1 => ⟨fun q2 => pm_mi (z1.1 q2) (fun x4 H3 z3 => ⟨fun q4 => ⟨fun q5 => ((z3.1 q4).1 q5), fun q5 => ⟨fun q6 => (((z3.1 q4).2 q5).1 q6), fun q6 => ⟨fun q7 => ((((z3.1 q4).2 q5).2 q6).1 q7), fun q7 => ⟨fun q8 => (((((z3.1 q4).2 q5).2 q6).2 q7).1 q8), fun q8 => (((((z3.1 q4).2 q5).2 q6).2 q7).2 q8)⟩⟩⟩⟩, fun q4 => (z3.2 q4)⟩), fun q2 => (z1.2 q2)⟩))
set_option maxRecDepth 100000 in
set_option maxHeartbeats 4000000 in
theorem m_Sh_refusalOfPlaces_45 {d : Nat} {H : pmT} {Q : pmQ} (a1 : Int32) (a2 : Int32)
    (h : pm_R d M_Sh_isEmpty [.ref 45] H (pm_i (fun x2 H1 => (x2 = 0 → pm_R d M_Sh_isRow [.ref 45] H1 (pm_i (fun x4 H3 => (¬ x4 = 0 → (a1 < 0 → Q (some (.int (-13 : Int32))) H3) ∧ (¬ a1 < 0 → ((H3.1 45 2) < a1 → Q (some (.int (-13 : Int32))) H3) ∧ (¬ (H3.1 45 2) < a1 → (a2 < 0 → Q (some (.int (-13 : Int32))) H3) ∧ (¬ a2 < 0 → (a2 ≤ ((H3.1 45 2) - a1) → Q (some (.int (0 : Int32))) H3) ∧ (¬ a2 ≤ ((H3.1 45 2) - a1) → Q (some (.int (-13 : Int32))) H3))))) ∧ (x4 = 0 → Q (some (.int (-12 : Int32))) H3)))) ∧ (¬ x2 = 0 → Q (some (.int (-11 : Int32))) H1)))) : pm_R (d + 1) M_Sh_refusalOfPlaces [.ref 45, .int a1, .int a2] H Q :=
  pm_walk (n := 23) ok_Sh_refusalOfPlaces tk_Sh_refusalOfPlaces rfl (Nat.le_of_ble_eq_true rfl) (show pm_R d M_Sh_isEmpty [.ref 45] H (pm_i (fun x2 H1 => (x2 = 0 → pm_R d M_Sh_isRow [.ref 45] H1 (pm_i (fun x4 H3 => (¬ x4 = 0 → (a1 < 0 → Q (some (.int (-13 : Int32))) H3) ∧ (¬ a1 < 0 → ((H3.1 45 2) < a1 → Q (some (.int (-13 : Int32))) H3) ∧ (¬ (H3.1 45 2) < a1 → (a2 < 0 → Q (some (.int (-13 : Int32))) H3) ∧ (¬ a2 < 0 → (a2 ≤ ((H3.1 45 2) - a1) → Q (some (.int (0 : Int32))) H3) ∧ (¬ a2 ≤ ((H3.1 45 2) - a1) → Q (some (.int (-13 : Int32))) H3))))) ∧ (x4 = 0 → Q (some (.int (-12 : Int32))) H3)))) ∧ (¬ x2 = 0 → Q (some (.int (-11 : Int32))) H1))) from pm_mi h (fun x2 H1 z1 => ⟨fun q2 => pm_mi (z1.1 q2) (fun x4 H3 z3 => ⟨fun q4 => ⟨fun q5 => ((z3.1 q4).1 q5), fun q5 => ⟨fun q6 => (((z3.1 q4).2 q5).1 q6), fun q6 => ⟨fun q7 => ((((z3.1 q4).2 q5).2 q6).1 q7), fun q7 => ⟨fun q8 => (((((z3.1 q4).2 q5).2 q6).2 q7).1 q8), fun q8 => (((((z3.1 q4).2 q5).2 q6).2 q7).2 q8)⟩⟩⟩⟩, fun q4 => (z3.2 q4)⟩), fun q2 => (z1.2 q2)⟩))
set_option maxRecDepth 100000 in
set_option maxHeartbeats 4000000 in
theorem m_Sh_refusalOfPlaces_47 {d : Nat} {H : pmT} {Q : pmQ} (a1 : Int32) (a2 : Int32)
    (h : pm_R d M_Sh_isEmpty [.ref 47] H (pm_i (fun x2 H1 => (x2 = 0 → pm_R d M_Sh_isRow [.ref 47] H1 (pm_i (fun x4 H3 => (¬ x4 = 0 → (a1 < 0 → Q (some (.int (-13 : Int32))) H3) ∧ (¬ a1 < 0 → ((H3.1 47 2) < a1 → Q (some (.int (-13 : Int32))) H3) ∧ (¬ (H3.1 47 2) < a1 → (a2 < 0 → Q (some (.int (-13 : Int32))) H3) ∧ (¬ a2 < 0 → (a2 ≤ ((H3.1 47 2) - a1) → Q (some (.int (0 : Int32))) H3) ∧ (¬ a2 ≤ ((H3.1 47 2) - a1) → Q (some (.int (-13 : Int32))) H3))))) ∧ (x4 = 0 → Q (some (.int (-12 : Int32))) H3)))) ∧ (¬ x2 = 0 → Q (some (.int (-11 : Int32))) H1)))) : pm_R (d + 1) M_Sh_refusalOfPlaces [.ref 47, .int a1, .int a2] H Q :=
  pm_walk (n := 23) ok_Sh_refusalOfPlaces tk_Sh_refusalOfPlaces rfl (Nat.le_of_ble_eq_true rfl) (show pm_R d M_Sh_isEmpty [.ref 47] H (pm_i (fun x2 H1 => (x2 = 0 → pm_R d M_Sh_isRow [.ref 47] H1 (pm_i (fun x4 H3 => (¬ x4 = 0 → (a1 < 0 → Q (some (.int (-13 : Int32))) H3) ∧ (¬ a1 < 0 → ((H3.1 47 2) < a1 → Q (some (.int (-13 : Int32))) H3) ∧ (¬ (H3.1 47 2) < a1 → (a2 < 0 → Q (some (.int (-13 : Int32))) H3) ∧ (¬ a2 < 0 → (a2 ≤ ((H3.1 47 2) - a1) → Q (some (.int (0 : Int32))) H3) ∧ (¬ a2 ≤ ((H3.1 47 2) - a1) → Q (some (.int (-13 : Int32))) H3))))) ∧ (x4 = 0 → Q (some (.int (-12 : Int32))) H3)))) ∧ (¬ x2 = 0 → Q (some (.int (-11 : Int32))) H1))) from pm_mi h (fun x2 H1 z1 => ⟨fun q2 => pm_mi (z1.1 q2) (fun x4 H3 z3 => ⟨fun q4 => ⟨fun q5 => ((z3.1 q4).1 q5), fun q5 => ⟨fun q6 => (((z3.1 q4).2 q5).1 q6), fun q6 => ⟨fun q7 => ((((z3.1 q4).2 q5).2 q6).1 q7), fun q7 => ⟨fun q8 => (((((z3.1 q4).2 q5).2 q6).2 q7).1 q8), fun q8 => (((((z3.1 q4).2 q5).2 q6).2 q7).2 q8)⟩⟩⟩⟩, fun q4 => (z3.2 q4)⟩), fun q2 => (z1.2 q2)⟩))
set_option maxRecDepth 100000 in
set_option maxHeartbeats 4000000 in
theorem m_Sh_refusalOfPlaces_49 {d : Nat} {H : pmT} {Q : pmQ} (a1 : Int32) (a2 : Int32)
    (h : pm_R d M_Sh_isEmpty [.ref 49] H (pm_i (fun x2 H1 => (x2 = 0 → pm_R d M_Sh_isRow [.ref 49] H1 (pm_i (fun x4 H3 => (¬ x4 = 0 → (a1 < 0 → Q (some (.int (-13 : Int32))) H3) ∧ (¬ a1 < 0 → ((H3.1 49 2) < a1 → Q (some (.int (-13 : Int32))) H3) ∧ (¬ (H3.1 49 2) < a1 → (a2 < 0 → Q (some (.int (-13 : Int32))) H3) ∧ (¬ a2 < 0 → (a2 ≤ ((H3.1 49 2) - a1) → Q (some (.int (0 : Int32))) H3) ∧ (¬ a2 ≤ ((H3.1 49 2) - a1) → Q (some (.int (-13 : Int32))) H3))))) ∧ (x4 = 0 → Q (some (.int (-12 : Int32))) H3)))) ∧ (¬ x2 = 0 → Q (some (.int (-11 : Int32))) H1)))) : pm_R (d + 1) M_Sh_refusalOfPlaces [.ref 49, .int a1, .int a2] H Q :=
  pm_walk (n := 23) ok_Sh_refusalOfPlaces tk_Sh_refusalOfPlaces rfl (Nat.le_of_ble_eq_true rfl) (show pm_R d M_Sh_isEmpty [.ref 49] H (pm_i (fun x2 H1 => (x2 = 0 → pm_R d M_Sh_isRow [.ref 49] H1 (pm_i (fun x4 H3 => (¬ x4 = 0 → (a1 < 0 → Q (some (.int (-13 : Int32))) H3) ∧ (¬ a1 < 0 → ((H3.1 49 2) < a1 → Q (some (.int (-13 : Int32))) H3) ∧ (¬ (H3.1 49 2) < a1 → (a2 < 0 → Q (some (.int (-13 : Int32))) H3) ∧ (¬ a2 < 0 → (a2 ≤ ((H3.1 49 2) - a1) → Q (some (.int (0 : Int32))) H3) ∧ (¬ a2 ≤ ((H3.1 49 2) - a1) → Q (some (.int (-13 : Int32))) H3))))) ∧ (x4 = 0 → Q (some (.int (-12 : Int32))) H3)))) ∧ (¬ x2 = 0 → Q (some (.int (-11 : Int32))) H1))) from pm_mi h (fun x2 H1 z1 => ⟨fun q2 => pm_mi (z1.1 q2) (fun x4 H3 z3 => ⟨fun q4 => ⟨fun q5 => ((z3.1 q4).1 q5), fun q5 => ⟨fun q6 => (((z3.1 q4).2 q5).1 q6), fun q6 => ⟨fun q7 => ((((z3.1 q4).2 q5).2 q6).1 q7), fun q7 => ⟨fun q8 => (((((z3.1 q4).2 q5).2 q6).2 q7).1 q8), fun q8 => (((((z3.1 q4).2 q5).2 q6).2 q7).2 q8)⟩⟩⟩⟩, fun q4 => (z3.2 q4)⟩), fun q2 => (z1.2 q2)⟩))
set_option maxRecDepth 100000 in
set_option maxHeartbeats 4000000 in
theorem m_Sh_refusalOfPlaces_51 {d : Nat} {H : pmT} {Q : pmQ} (a1 : Int32) (a2 : Int32)
    (h : pm_R d M_Sh_isEmpty [.ref 51] H (pm_i (fun x2 H1 => (x2 = 0 → pm_R d M_Sh_isRow [.ref 51] H1 (pm_i (fun x4 H3 => (¬ x4 = 0 → (a1 < 0 → Q (some (.int (-13 : Int32))) H3) ∧ (¬ a1 < 0 → ((H3.1 51 2) < a1 → Q (some (.int (-13 : Int32))) H3) ∧ (¬ (H3.1 51 2) < a1 → (a2 < 0 → Q (some (.int (-13 : Int32))) H3) ∧ (¬ a2 < 0 → (a2 ≤ ((H3.1 51 2) - a1) → Q (some (.int (0 : Int32))) H3) ∧ (¬ a2 ≤ ((H3.1 51 2) - a1) → Q (some (.int (-13 : Int32))) H3))))) ∧ (x4 = 0 → Q (some (.int (-12 : Int32))) H3)))) ∧ (¬ x2 = 0 → Q (some (.int (-11 : Int32))) H1)))) : pm_R (d + 1) M_Sh_refusalOfPlaces [.ref 51, .int a1, .int a2] H Q :=
  pm_walk (n := 23) ok_Sh_refusalOfPlaces tk_Sh_refusalOfPlaces rfl (Nat.le_of_ble_eq_true rfl) (show pm_R d M_Sh_isEmpty [.ref 51] H (pm_i (fun x2 H1 => (x2 = 0 → pm_R d M_Sh_isRow [.ref 51] H1 (pm_i (fun x4 H3 => (¬ x4 = 0 → (a1 < 0 → Q (some (.int (-13 : Int32))) H3) ∧ (¬ a1 < 0 → ((H3.1 51 2) < a1 → Q (some (.int (-13 : Int32))) H3) ∧ (¬ (H3.1 51 2) < a1 → (a2 < 0 → Q (some (.int (-13 : Int32))) H3) ∧ (¬ a2 < 0 → (a2 ≤ ((H3.1 51 2) - a1) → Q (some (.int (0 : Int32))) H3) ∧ (¬ a2 ≤ ((H3.1 51 2) - a1) → Q (some (.int (-13 : Int32))) H3))))) ∧ (x4 = 0 → Q (some (.int (-12 : Int32))) H3)))) ∧ (¬ x2 = 0 → Q (some (.int (-11 : Int32))) H1))) from pm_mi h (fun x2 H1 z1 => ⟨fun q2 => pm_mi (z1.1 q2) (fun x4 H3 z3 => ⟨fun q4 => ⟨fun q5 => ((z3.1 q4).1 q5), fun q5 => ⟨fun q6 => (((z3.1 q4).2 q5).1 q6), fun q6 => ⟨fun q7 => ((((z3.1 q4).2 q5).2 q6).1 q7), fun q7 => ⟨fun q8 => (((((z3.1 q4).2 q5).2 q6).2 q7).1 q8), fun q8 => (((((z3.1 q4).2 q5).2 q6).2 q7).2 q8)⟩⟩⟩⟩, fun q4 => (z3.2 q4)⟩), fun q2 => (z1.2 q2)⟩))
set_option maxRecDepth 100000 in
set_option maxHeartbeats 4000000 in
theorem m_Sh_refusalOfPlaces_53 {d : Nat} {H : pmT} {Q : pmQ} (a1 : Int32) (a2 : Int32)
    (h : pm_R d M_Sh_isEmpty [.ref 53] H (pm_i (fun x2 H1 => (x2 = 0 → pm_R d M_Sh_isRow [.ref 53] H1 (pm_i (fun x4 H3 => (¬ x4 = 0 → (a1 < 0 → Q (some (.int (-13 : Int32))) H3) ∧ (¬ a1 < 0 → ((H3.1 53 2) < a1 → Q (some (.int (-13 : Int32))) H3) ∧ (¬ (H3.1 53 2) < a1 → (a2 < 0 → Q (some (.int (-13 : Int32))) H3) ∧ (¬ a2 < 0 → (a2 ≤ ((H3.1 53 2) - a1) → Q (some (.int (0 : Int32))) H3) ∧ (¬ a2 ≤ ((H3.1 53 2) - a1) → Q (some (.int (-13 : Int32))) H3))))) ∧ (x4 = 0 → Q (some (.int (-12 : Int32))) H3)))) ∧ (¬ x2 = 0 → Q (some (.int (-11 : Int32))) H1)))) : pm_R (d + 1) M_Sh_refusalOfPlaces [.ref 53, .int a1, .int a2] H Q :=
  pm_walk (n := 23) ok_Sh_refusalOfPlaces tk_Sh_refusalOfPlaces rfl (Nat.le_of_ble_eq_true rfl) (show pm_R d M_Sh_isEmpty [.ref 53] H (pm_i (fun x2 H1 => (x2 = 0 → pm_R d M_Sh_isRow [.ref 53] H1 (pm_i (fun x4 H3 => (¬ x4 = 0 → (a1 < 0 → Q (some (.int (-13 : Int32))) H3) ∧ (¬ a1 < 0 → ((H3.1 53 2) < a1 → Q (some (.int (-13 : Int32))) H3) ∧ (¬ (H3.1 53 2) < a1 → (a2 < 0 → Q (some (.int (-13 : Int32))) H3) ∧ (¬ a2 < 0 → (a2 ≤ ((H3.1 53 2) - a1) → Q (some (.int (0 : Int32))) H3) ∧ (¬ a2 ≤ ((H3.1 53 2) - a1) → Q (some (.int (-13 : Int32))) H3))))) ∧ (x4 = 0 → Q (some (.int (-12 : Int32))) H3)))) ∧ (¬ x2 = 0 → Q (some (.int (-11 : Int32))) H1))) from pm_mi h (fun x2 H1 z1 => ⟨fun q2 => pm_mi (z1.1 q2) (fun x4 H3 z3 => ⟨fun q4 => ⟨fun q5 => ((z3.1 q4).1 q5), fun q5 => ⟨fun q6 => (((z3.1 q4).2 q5).1 q6), fun q6 => ⟨fun q7 => ((((z3.1 q4).2 q5).2 q6).1 q7), fun q7 => ⟨fun q8 => (((((z3.1 q4).2 q5).2 q6).2 q7).1 q8), fun q8 => (((((z3.1 q4).2 q5).2 q6).2 q7).2 q8)⟩⟩⟩⟩, fun q4 => (z3.2 q4)⟩), fun q2 => (z1.2 q2)⟩))
def T_Sh_at : List pmE := [
  (0, [], .iload 1, 0, 0, 0),
  (1, [], .iconst 0, 0, 0, 0),
  (2, [], .aload 0, 0, 0, 0),
  (3, [], .getfield 450, 0, 18, 331),
  (6, [], .iconst 1, 0, 0, 0),
  (7, [], .isub, 0, 0, 0),
  (8, [], .invokeinterface 135 13, 3, 32, 415),
  (11, [], .ifCond .eq 18, 0, 0, 0),
  (14, [], .jsr 0, 0, 0, 0),
  (15, [], .goto 24, 0, 0, 0),
  (18, [], .aload 0, 0, 0, 0),
  (19, [], .getfield 451, 0, 21, 335),
  (22, [], .iload 1, 0, 0, 0),
  (23, [], .laload, 0, 0, 0),
  (24, [], .lreturn, 0, 0, 0)]
theorem tk_Sh_at : pm_okT M_Sh_at T_Sh_at = true := by decide +kernel
theorem ok_Sh_at : pm_okm M_Sh_at := pm_okm_of _ 414 84 412 413 (by decide +kernel)
set_option maxRecDepth 100000 in
set_option maxHeartbeats 4000000 in
theorem m_Sh_at_43 {d : Nat} {H : pmT} {Q : pmQ} (a1 : Int32)
    (h : pm_R d M_PW_outside [.int a1, .int (0 : Int32), .int ((H.1 43 2) - (1 : Int32))] H (pm_i (fun x2 H1 => (x2 = 0 → vp_in a1 60 ∧ (Q (some (.long (H1.2.1 44 a1.toNatClampNeg))) H1)) ∧ (¬ x2 = 0 → Q (some (.long (0 : Int64))) H1)))) : pm_R (d + 1) M_Sh_at [.ref 43, .int a1] H Q :=
  pm_walk (n := 13) ok_Sh_at tk_Sh_at rfl (Nat.le_of_ble_eq_true rfl) (show pm_R d M_PW_outside [.int a1, .int (0 : Int32), .int ((H.1 43 2) - (1 : Int32))] H (pm_i (fun x2 H1 => (x2 = 0 → vp_in a1 60 ∧ (Q (some (.long (H1.2.1 44 a1.toNatClampNeg))) H1)) ∧ (¬ x2 = 0 → Q (some (.long (0 : Int64))) H1))) from pm_mi h (fun x2 H1 z1 => ⟨fun q2 => ⟨(z1.1 q2).1, (z1.1 q2).2⟩, fun q2 => (z1.2 q2)⟩))
set_option maxRecDepth 100000 in
set_option maxHeartbeats 4000000 in
theorem m_Sh_at_45 {d : Nat} {H : pmT} {Q : pmQ} (a1 : Int32)
    (h : pm_R d M_PW_outside [.int a1, .int (0 : Int32), .int ((H.1 45 2) - (1 : Int32))] H (pm_i (fun x2 H1 => (x2 = 0 → vp_in a1 60 ∧ (Q (some (.long (H1.2.1 46 a1.toNatClampNeg))) H1)) ∧ (¬ x2 = 0 → Q (some (.long (0 : Int64))) H1)))) : pm_R (d + 1) M_Sh_at [.ref 45, .int a1] H Q :=
  pm_walk (n := 13) ok_Sh_at tk_Sh_at rfl (Nat.le_of_ble_eq_true rfl) (show pm_R d M_PW_outside [.int a1, .int (0 : Int32), .int ((H.1 45 2) - (1 : Int32))] H (pm_i (fun x2 H1 => (x2 = 0 → vp_in a1 60 ∧ (Q (some (.long (H1.2.1 46 a1.toNatClampNeg))) H1)) ∧ (¬ x2 = 0 → Q (some (.long (0 : Int64))) H1))) from pm_mi h (fun x2 H1 z1 => ⟨fun q2 => ⟨(z1.1 q2).1, (z1.1 q2).2⟩, fun q2 => (z1.2 q2)⟩))
set_option maxRecDepth 100000 in
set_option maxHeartbeats 4000000 in
theorem m_Sh_at_47 {d : Nat} {H : pmT} {Q : pmQ} (a1 : Int32)
    (h : pm_R d M_PW_outside [.int a1, .int (0 : Int32), .int ((H.1 47 2) - (1 : Int32))] H (pm_i (fun x2 H1 => (x2 = 0 → vp_in a1 60 ∧ (Q (some (.long (H1.2.1 48 a1.toNatClampNeg))) H1)) ∧ (¬ x2 = 0 → Q (some (.long (0 : Int64))) H1)))) : pm_R (d + 1) M_Sh_at [.ref 47, .int a1] H Q :=
  pm_walk (n := 13) ok_Sh_at tk_Sh_at rfl (Nat.le_of_ble_eq_true rfl) (show pm_R d M_PW_outside [.int a1, .int (0 : Int32), .int ((H.1 47 2) - (1 : Int32))] H (pm_i (fun x2 H1 => (x2 = 0 → vp_in a1 60 ∧ (Q (some (.long (H1.2.1 48 a1.toNatClampNeg))) H1)) ∧ (¬ x2 = 0 → Q (some (.long (0 : Int64))) H1))) from pm_mi h (fun x2 H1 z1 => ⟨fun q2 => ⟨(z1.1 q2).1, (z1.1 q2).2⟩, fun q2 => (z1.2 q2)⟩))
set_option maxRecDepth 100000 in
set_option maxHeartbeats 4000000 in
theorem m_Sh_at_49 {d : Nat} {H : pmT} {Q : pmQ} (a1 : Int32)
    (h : pm_R d M_PW_outside [.int a1, .int (0 : Int32), .int ((H.1 49 2) - (1 : Int32))] H (pm_i (fun x2 H1 => (x2 = 0 → vp_in a1 60 ∧ (Q (some (.long (H1.2.1 50 a1.toNatClampNeg))) H1)) ∧ (¬ x2 = 0 → Q (some (.long (0 : Int64))) H1)))) : pm_R (d + 1) M_Sh_at [.ref 49, .int a1] H Q :=
  pm_walk (n := 13) ok_Sh_at tk_Sh_at rfl (Nat.le_of_ble_eq_true rfl) (show pm_R d M_PW_outside [.int a1, .int (0 : Int32), .int ((H.1 49 2) - (1 : Int32))] H (pm_i (fun x2 H1 => (x2 = 0 → vp_in a1 60 ∧ (Q (some (.long (H1.2.1 50 a1.toNatClampNeg))) H1)) ∧ (¬ x2 = 0 → Q (some (.long (0 : Int64))) H1))) from pm_mi h (fun x2 H1 z1 => ⟨fun q2 => ⟨(z1.1 q2).1, (z1.1 q2).2⟩, fun q2 => (z1.2 q2)⟩))
set_option maxRecDepth 100000 in
set_option maxHeartbeats 4000000 in
theorem m_Sh_at_51 {d : Nat} {H : pmT} {Q : pmQ} (a1 : Int32)
    (h : pm_R d M_PW_outside [.int a1, .int (0 : Int32), .int ((H.1 51 2) - (1 : Int32))] H (pm_i (fun x2 H1 => (x2 = 0 → vp_in a1 60 ∧ (Q (some (.long (H1.2.1 52 a1.toNatClampNeg))) H1)) ∧ (¬ x2 = 0 → Q (some (.long (0 : Int64))) H1)))) : pm_R (d + 1) M_Sh_at [.ref 51, .int a1] H Q :=
  pm_walk (n := 13) ok_Sh_at tk_Sh_at rfl (Nat.le_of_ble_eq_true rfl) (show pm_R d M_PW_outside [.int a1, .int (0 : Int32), .int ((H.1 51 2) - (1 : Int32))] H (pm_i (fun x2 H1 => (x2 = 0 → vp_in a1 60 ∧ (Q (some (.long (H1.2.1 52 a1.toNatClampNeg))) H1)) ∧ (¬ x2 = 0 → Q (some (.long (0 : Int64))) H1))) from pm_mi h (fun x2 H1 z1 => ⟨fun q2 => ⟨(z1.1 q2).1, (z1.1 q2).2⟩, fun q2 => (z1.2 q2)⟩))
set_option maxRecDepth 100000 in
set_option maxHeartbeats 4000000 in
theorem m_Sh_at_53 {d : Nat} {H : pmT} {Q : pmQ} (a1 : Int32)
    (h : pm_R d M_PW_outside [.int a1, .int (0 : Int32), .int ((H.1 53 2) - (1 : Int32))] H (pm_i (fun x2 H1 => (x2 = 0 → vp_in a1 60 ∧ (Q (some (.long (H1.2.1 54 a1.toNatClampNeg))) H1)) ∧ (¬ x2 = 0 → Q (some (.long (0 : Int64))) H1)))) : pm_R (d + 1) M_Sh_at [.ref 53, .int a1] H Q :=
  pm_walk (n := 13) ok_Sh_at tk_Sh_at rfl (Nat.le_of_ble_eq_true rfl) (show pm_R d M_PW_outside [.int a1, .int (0 : Int32), .int ((H.1 53 2) - (1 : Int32))] H (pm_i (fun x2 H1 => (x2 = 0 → vp_in a1 60 ∧ (Q (some (.long (H1.2.1 54 a1.toNatClampNeg))) H1)) ∧ (¬ x2 = 0 → Q (some (.long (0 : Int64))) H1))) from pm_mi h (fun x2 H1 z1 => ⟨fun q2 => ⟨(z1.1 q2).1, (z1.1 q2).2⟩, fun q2 => (z1.2 q2)⟩))
def T_Sh_set : List pmE := [
  (0, [], .iload 1, 0, 0, 0),
  (1, [], .iconst 0, 0, 0, 0),
  (2, [], .aload 0, 0, 0, 0),
  (3, [], .getfield 450, 0, 18, 331),
  (6, [], .iconst 1, 0, 0, 0),
  (7, [], .isub, 0, 0, 0),
  (8, [], .invokeinterface 135 13, 3, 32, 415),
  (11, [], .ifCond .ne 25, 0, 0, 0),
  (14, [], .aload 0, 0, 0, 0),
  (15, [], .getfield 451, 0, 21, 335),
  (18, [], .iload 1, 0, 0, 0),
  (19, [], .aload 0, 0, 0, 0),
  (20, [], .lload 2, 0, 0, 0),
  (21, [], .invokeinterface 90 522, 0, 36, 947),
  (24, [], .lastore, 0, 0, 0),
  (25, [], .return_, 0, 0, 0)]
theorem tk_Sh_set : pm_okT M_Sh_set T_Sh_set = true := by decide +kernel
theorem ok_Sh_set : pm_okm M_Sh_set := pm_okm_of _ 946 84 944 945 (by decide +kernel)
set_option maxRecDepth 100000 in
set_option maxHeartbeats 4000000 in
theorem m_Sh_set_43 {d : Nat} {H : pmT} {Q : pmQ} (a1 : Int32) (a2 : Int64)
    (h : pm_R d M_PW_outside [.int a1, .int (0 : Int32), .int ((H.1 43 2) - (1 : Int32))] H (pm_i (fun x2 H1 => (¬ x2 = 0 → Q none H1) ∧ (x2 = 0 → pm_R d M_Sh_lowestBits [.ref 43, .long a2] H1 (pm_l (fun x4 H3 => vp_in a1 60 ∧ (Q none (H3.1, (pm_upL H3.2.1 44 a1.toNatClampNeg x4), H3.2.2)))))))) : pm_R (d + 1) M_Sh_set [.ref 43, .int a1, .long a2] H Q :=
  pm_walk (n := 16) ok_Sh_set tk_Sh_set rfl (Nat.le_of_ble_eq_true rfl) (show pm_R d M_PW_outside [.int a1, .int (0 : Int32), .int ((H.1 43 2) - (1 : Int32))] H (pm_i (fun x2 H1 => (¬ x2 = 0 → Q none H1) ∧ (x2 = 0 → pm_R d M_Sh_lowestBits [.ref 43, .long a2] H1 (pm_l (fun x4 H3 => vp_in a1 60 ∧ (Q none (H3.1, (pm_upL H3.2.1 44 a1.toNatClampNeg x4), H3.2.2))))))) from pm_mi h (fun x2 H1 z1 => ⟨fun q2 => (z1.1 q2), fun q2 => pm_ml' (z1.2 q2) (fun x4 H3 z3 => ⟨z3.1, z3.2⟩)⟩))
set_option maxRecDepth 100000 in
set_option maxHeartbeats 4000000 in
theorem m_Sh_set_45 {d : Nat} {H : pmT} {Q : pmQ} (a1 : Int32) (a2 : Int64)
    (h : pm_R d M_PW_outside [.int a1, .int (0 : Int32), .int ((H.1 45 2) - (1 : Int32))] H (pm_i (fun x2 H1 => (¬ x2 = 0 → Q none H1) ∧ (x2 = 0 → pm_R d M_Sh_lowestBits [.ref 45, .long a2] H1 (pm_l (fun x4 H3 => vp_in a1 60 ∧ (Q none (H3.1, (pm_upL H3.2.1 46 a1.toNatClampNeg x4), H3.2.2)))))))) : pm_R (d + 1) M_Sh_set [.ref 45, .int a1, .long a2] H Q :=
  pm_walk (n := 16) ok_Sh_set tk_Sh_set rfl (Nat.le_of_ble_eq_true rfl) (show pm_R d M_PW_outside [.int a1, .int (0 : Int32), .int ((H.1 45 2) - (1 : Int32))] H (pm_i (fun x2 H1 => (¬ x2 = 0 → Q none H1) ∧ (x2 = 0 → pm_R d M_Sh_lowestBits [.ref 45, .long a2] H1 (pm_l (fun x4 H3 => vp_in a1 60 ∧ (Q none (H3.1, (pm_upL H3.2.1 46 a1.toNatClampNeg x4), H3.2.2))))))) from pm_mi h (fun x2 H1 z1 => ⟨fun q2 => (z1.1 q2), fun q2 => pm_ml' (z1.2 q2) (fun x4 H3 z3 => ⟨z3.1, z3.2⟩)⟩))
set_option maxRecDepth 100000 in
set_option maxHeartbeats 4000000 in
theorem m_Sh_set_47 {d : Nat} {H : pmT} {Q : pmQ} (a1 : Int32) (a2 : Int64)
    (h : pm_R d M_PW_outside [.int a1, .int (0 : Int32), .int ((H.1 47 2) - (1 : Int32))] H (pm_i (fun x2 H1 => (¬ x2 = 0 → Q none H1) ∧ (x2 = 0 → pm_R d M_Sh_lowestBits [.ref 47, .long a2] H1 (pm_l (fun x4 H3 => vp_in a1 60 ∧ (Q none (H3.1, (pm_upL H3.2.1 48 a1.toNatClampNeg x4), H3.2.2)))))))) : pm_R (d + 1) M_Sh_set [.ref 47, .int a1, .long a2] H Q :=
  pm_walk (n := 16) ok_Sh_set tk_Sh_set rfl (Nat.le_of_ble_eq_true rfl) (show pm_R d M_PW_outside [.int a1, .int (0 : Int32), .int ((H.1 47 2) - (1 : Int32))] H (pm_i (fun x2 H1 => (¬ x2 = 0 → Q none H1) ∧ (x2 = 0 → pm_R d M_Sh_lowestBits [.ref 47, .long a2] H1 (pm_l (fun x4 H3 => vp_in a1 60 ∧ (Q none (H3.1, (pm_upL H3.2.1 48 a1.toNatClampNeg x4), H3.2.2))))))) from pm_mi h (fun x2 H1 z1 => ⟨fun q2 => (z1.1 q2), fun q2 => pm_ml' (z1.2 q2) (fun x4 H3 z3 => ⟨z3.1, z3.2⟩)⟩))
set_option maxRecDepth 100000 in
set_option maxHeartbeats 4000000 in
theorem m_Sh_set_49 {d : Nat} {H : pmT} {Q : pmQ} (a1 : Int32) (a2 : Int64)
    (h : pm_R d M_PW_outside [.int a1, .int (0 : Int32), .int ((H.1 49 2) - (1 : Int32))] H (pm_i (fun x2 H1 => (¬ x2 = 0 → Q none H1) ∧ (x2 = 0 → pm_R d M_Sh_lowestBits [.ref 49, .long a2] H1 (pm_l (fun x4 H3 => vp_in a1 60 ∧ (Q none (H3.1, (pm_upL H3.2.1 50 a1.toNatClampNeg x4), H3.2.2)))))))) : pm_R (d + 1) M_Sh_set [.ref 49, .int a1, .long a2] H Q :=
  pm_walk (n := 16) ok_Sh_set tk_Sh_set rfl (Nat.le_of_ble_eq_true rfl) (show pm_R d M_PW_outside [.int a1, .int (0 : Int32), .int ((H.1 49 2) - (1 : Int32))] H (pm_i (fun x2 H1 => (¬ x2 = 0 → Q none H1) ∧ (x2 = 0 → pm_R d M_Sh_lowestBits [.ref 49, .long a2] H1 (pm_l (fun x4 H3 => vp_in a1 60 ∧ (Q none (H3.1, (pm_upL H3.2.1 50 a1.toNatClampNeg x4), H3.2.2))))))) from pm_mi h (fun x2 H1 z1 => ⟨fun q2 => (z1.1 q2), fun q2 => pm_ml' (z1.2 q2) (fun x4 H3 z3 => ⟨z3.1, z3.2⟩)⟩))
set_option maxRecDepth 100000 in
set_option maxHeartbeats 4000000 in
theorem m_Sh_set_51 {d : Nat} {H : pmT} {Q : pmQ} (a1 : Int32) (a2 : Int64)
    (h : pm_R d M_PW_outside [.int a1, .int (0 : Int32), .int ((H.1 51 2) - (1 : Int32))] H (pm_i (fun x2 H1 => (¬ x2 = 0 → Q none H1) ∧ (x2 = 0 → pm_R d M_Sh_lowestBits [.ref 51, .long a2] H1 (pm_l (fun x4 H3 => vp_in a1 60 ∧ (Q none (H3.1, (pm_upL H3.2.1 52 a1.toNatClampNeg x4), H3.2.2)))))))) : pm_R (d + 1) M_Sh_set [.ref 51, .int a1, .long a2] H Q :=
  pm_walk (n := 16) ok_Sh_set tk_Sh_set rfl (Nat.le_of_ble_eq_true rfl) (show pm_R d M_PW_outside [.int a1, .int (0 : Int32), .int ((H.1 51 2) - (1 : Int32))] H (pm_i (fun x2 H1 => (¬ x2 = 0 → Q none H1) ∧ (x2 = 0 → pm_R d M_Sh_lowestBits [.ref 51, .long a2] H1 (pm_l (fun x4 H3 => vp_in a1 60 ∧ (Q none (H3.1, (pm_upL H3.2.1 52 a1.toNatClampNeg x4), H3.2.2))))))) from pm_mi h (fun x2 H1 z1 => ⟨fun q2 => (z1.1 q2), fun q2 => pm_ml' (z1.2 q2) (fun x4 H3 z3 => ⟨z3.1, z3.2⟩)⟩))
set_option maxRecDepth 100000 in
set_option maxHeartbeats 4000000 in
theorem m_Sh_set_53 {d : Nat} {H : pmT} {Q : pmQ} (a1 : Int32) (a2 : Int64)
    (h : pm_R d M_PW_outside [.int a1, .int (0 : Int32), .int ((H.1 53 2) - (1 : Int32))] H (pm_i (fun x2 H1 => (¬ x2 = 0 → Q none H1) ∧ (x2 = 0 → pm_R d M_Sh_lowestBits [.ref 53, .long a2] H1 (pm_l (fun x4 H3 => vp_in a1 60 ∧ (Q none (H3.1, (pm_upL H3.2.1 54 a1.toNatClampNeg x4), H3.2.2)))))))) : pm_R (d + 1) M_Sh_set [.ref 53, .int a1, .long a2] H Q :=
  pm_walk (n := 16) ok_Sh_set tk_Sh_set rfl (Nat.le_of_ble_eq_true rfl) (show pm_R d M_PW_outside [.int a1, .int (0 : Int32), .int ((H.1 53 2) - (1 : Int32))] H (pm_i (fun x2 H1 => (¬ x2 = 0 → Q none H1) ∧ (x2 = 0 → pm_R d M_Sh_lowestBits [.ref 53, .long a2] H1 (pm_l (fun x4 H3 => vp_in a1 60 ∧ (Q none (H3.1, (pm_upL H3.2.1 54 a1.toNatClampNeg x4), H3.2.2))))))) from pm_mi h (fun x2 H1 z1 => ⟨fun q2 => (z1.1 q2), fun q2 => pm_ml' (z1.2 q2) (fun x4 H3 z3 => ⟨z3.1, z3.2⟩)⟩))
def T_Sh_lowestBits : List pmE := [
  (0, [], .aload 0, 0, 0, 0),
  (1, [], .getfield 449, 0, 15, 329),
  (4, [], .lookupswitch 66 #[(0, 40), (1, 45), (2, 50), (3, 66), (4, 54)], 1, 36, 0),
  (40, [], .lload 1, 0, 0, 0),
  (41, [], .l2i, 0, 0, 0),
  (42, [], .i2b, 0, 0, 0),
  (43, [], .i2l, 0, 0, 0),
  (44, [], .lreturn, 0, 0, 0),
  (45, [], .lload 1, 0, 0, 0),
  (46, [], .l2i, 0, 0, 0),
  (47, [], .i2s, 0, 0, 0),
  (48, [], .i2l, 0, 0, 0),
  (49, [], .lreturn, 0, 0, 0),
  (50, [], .lload 1, 0, 0, 0),
  (51, [], .l2i, 0, 0, 0),
  (52, [], .i2l, 0, 0, 0),
  (53, [], .lreturn, 0, 0, 0),
  (54, [], .lload 1, 0, 0, 0),
  (55, [], .jsr 0, 0, 0, 0),
  (56, [], .lcmp, 0, 0, 0),
  (57, [], .ifCond .eq 64, 0, 0, 0),
  (60, [], .jsr 1, 0, 0, 0),
  (61, [], .goto 65, 0, 0, 0),
  (64, [], .jsr 0, 0, 0, 0),
  (65, [], .lreturn, 0, 0, 0),
  (66, [], .lload 1, 0, 0, 0),
  (67, [], .lreturn, 0, 0, 0)]
theorem tk_Sh_lowestBits : pm_okT M_Sh_lowestBits T_Sh_lowestBits = true := by decide +kernel
theorem ok_Sh_lowestBits : pm_okm M_Sh_lowestBits := pm_okm_of _ 950 84 949 26 (by decide +kernel)
set_option maxRecDepth 100000 in
set_option maxHeartbeats 4000000 in
theorem m_Sh_lowestBits_43 {d : Nat} {H : pmT} {Q : pmQ} (a1 : Int64)
    (h : ((H.1 43 1) = (0 : Int32) → Q (some (.long a1.toInt32.toInt8.toInt32.toInt64)) H) ∧ (¬ (H.1 43 1) = (0 : Int32) → ((H.1 43 1) = (1 : Int32) → Q (some (.long a1.toInt32.toInt16.toInt32.toInt64)) H) ∧ (¬ (H.1 43 1) = (1 : Int32) → ((H.1 43 1) = (2 : Int32) → Q (some (.long a1.toInt32.toInt64)) H) ∧ (¬ (H.1 43 1) = (2 : Int32) → ((H.1 43 1) = (3 : Int32) → Q (some (.long a1)) H) ∧ (¬ (H.1 43 1) = (3 : Int32) → ((H.1 43 1) = (4 : Int32) → ((lg_cmp a1 (0 : Int64)) = 0 → Q (some (.long (0 : Int64))) H) ∧ (¬ (lg_cmp a1 (0 : Int64)) = 0 → Q (some (.long (1 : Int64))) H)) ∧ (¬ (H.1 43 1) = (4 : Int32) → Q (some (.long a1)) H)))))) : pm_R d M_Sh_lowestBits [.ref 43, .long a1] H Q :=
  pm_walk (n := 10) ok_Sh_lowestBits tk_Sh_lowestBits rfl (Nat.le_of_ble_eq_true rfl) (show ((H.1 43 1) = (0 : Int32) → Q (some (.long a1.toInt32.toInt8.toInt32.toInt64)) H) ∧ (¬ (H.1 43 1) = (0 : Int32) → ((H.1 43 1) = (1 : Int32) → Q (some (.long a1.toInt32.toInt16.toInt32.toInt64)) H) ∧ (¬ (H.1 43 1) = (1 : Int32) → ((H.1 43 1) = (2 : Int32) → Q (some (.long a1.toInt32.toInt64)) H) ∧ (¬ (H.1 43 1) = (2 : Int32) → ((H.1 43 1) = (3 : Int32) → Q (some (.long a1)) H) ∧ (¬ (H.1 43 1) = (3 : Int32) → ((H.1 43 1) = (4 : Int32) → ((lg_cmp a1 (0 : Int64)) = 0 → Q (some (.long (0 : Int64))) H) ∧ (¬ (lg_cmp a1 (0 : Int64)) = 0 → Q (some (.long (1 : Int64))) H)) ∧ (¬ (H.1 43 1) = (4 : Int32) → Q (some (.long a1)) H))))) from ⟨fun q1 => (h.1 q1), fun q1 => ⟨fun q2 => ((h.2 q1).1 q2), fun q2 => ⟨fun q3 => (((h.2 q1).2 q2).1 q3), fun q3 => ⟨fun q4 => ((((h.2 q1).2 q2).2 q3).1 q4), fun q4 => ⟨fun q5 => ⟨fun q6 => ((((((h.2 q1).2 q2).2 q3).2 q4).1 q5).1 q6), fun q6 => ((((((h.2 q1).2 q2).2 q3).2 q4).1 q5).2 q6)⟩, fun q5 => (((((h.2 q1).2 q2).2 q3).2 q4).2 q5)⟩⟩⟩⟩⟩)
set_option maxRecDepth 100000 in
set_option maxHeartbeats 4000000 in
theorem m_Sh_lowestBits_45 {d : Nat} {H : pmT} {Q : pmQ} (a1 : Int64)
    (h : ((H.1 45 1) = (0 : Int32) → Q (some (.long a1.toInt32.toInt8.toInt32.toInt64)) H) ∧ (¬ (H.1 45 1) = (0 : Int32) → ((H.1 45 1) = (1 : Int32) → Q (some (.long a1.toInt32.toInt16.toInt32.toInt64)) H) ∧ (¬ (H.1 45 1) = (1 : Int32) → ((H.1 45 1) = (2 : Int32) → Q (some (.long a1.toInt32.toInt64)) H) ∧ (¬ (H.1 45 1) = (2 : Int32) → ((H.1 45 1) = (3 : Int32) → Q (some (.long a1)) H) ∧ (¬ (H.1 45 1) = (3 : Int32) → ((H.1 45 1) = (4 : Int32) → ((lg_cmp a1 (0 : Int64)) = 0 → Q (some (.long (0 : Int64))) H) ∧ (¬ (lg_cmp a1 (0 : Int64)) = 0 → Q (some (.long (1 : Int64))) H)) ∧ (¬ (H.1 45 1) = (4 : Int32) → Q (some (.long a1)) H)))))) : pm_R d M_Sh_lowestBits [.ref 45, .long a1] H Q :=
  pm_walk (n := 10) ok_Sh_lowestBits tk_Sh_lowestBits rfl (Nat.le_of_ble_eq_true rfl) (show ((H.1 45 1) = (0 : Int32) → Q (some (.long a1.toInt32.toInt8.toInt32.toInt64)) H) ∧ (¬ (H.1 45 1) = (0 : Int32) → ((H.1 45 1) = (1 : Int32) → Q (some (.long a1.toInt32.toInt16.toInt32.toInt64)) H) ∧ (¬ (H.1 45 1) = (1 : Int32) → ((H.1 45 1) = (2 : Int32) → Q (some (.long a1.toInt32.toInt64)) H) ∧ (¬ (H.1 45 1) = (2 : Int32) → ((H.1 45 1) = (3 : Int32) → Q (some (.long a1)) H) ∧ (¬ (H.1 45 1) = (3 : Int32) → ((H.1 45 1) = (4 : Int32) → ((lg_cmp a1 (0 : Int64)) = 0 → Q (some (.long (0 : Int64))) H) ∧ (¬ (lg_cmp a1 (0 : Int64)) = 0 → Q (some (.long (1 : Int64))) H)) ∧ (¬ (H.1 45 1) = (4 : Int32) → Q (some (.long a1)) H))))) from ⟨fun q1 => (h.1 q1), fun q1 => ⟨fun q2 => ((h.2 q1).1 q2), fun q2 => ⟨fun q3 => (((h.2 q1).2 q2).1 q3), fun q3 => ⟨fun q4 => ((((h.2 q1).2 q2).2 q3).1 q4), fun q4 => ⟨fun q5 => ⟨fun q6 => ((((((h.2 q1).2 q2).2 q3).2 q4).1 q5).1 q6), fun q6 => ((((((h.2 q1).2 q2).2 q3).2 q4).1 q5).2 q6)⟩, fun q5 => (((((h.2 q1).2 q2).2 q3).2 q4).2 q5)⟩⟩⟩⟩⟩)
set_option maxRecDepth 100000 in
set_option maxHeartbeats 4000000 in
theorem m_Sh_lowestBits_47 {d : Nat} {H : pmT} {Q : pmQ} (a1 : Int64)
    (h : ((H.1 47 1) = (0 : Int32) → Q (some (.long a1.toInt32.toInt8.toInt32.toInt64)) H) ∧ (¬ (H.1 47 1) = (0 : Int32) → ((H.1 47 1) = (1 : Int32) → Q (some (.long a1.toInt32.toInt16.toInt32.toInt64)) H) ∧ (¬ (H.1 47 1) = (1 : Int32) → ((H.1 47 1) = (2 : Int32) → Q (some (.long a1.toInt32.toInt64)) H) ∧ (¬ (H.1 47 1) = (2 : Int32) → ((H.1 47 1) = (3 : Int32) → Q (some (.long a1)) H) ∧ (¬ (H.1 47 1) = (3 : Int32) → ((H.1 47 1) = (4 : Int32) → ((lg_cmp a1 (0 : Int64)) = 0 → Q (some (.long (0 : Int64))) H) ∧ (¬ (lg_cmp a1 (0 : Int64)) = 0 → Q (some (.long (1 : Int64))) H)) ∧ (¬ (H.1 47 1) = (4 : Int32) → Q (some (.long a1)) H)))))) : pm_R d M_Sh_lowestBits [.ref 47, .long a1] H Q :=
  pm_walk (n := 10) ok_Sh_lowestBits tk_Sh_lowestBits rfl (Nat.le_of_ble_eq_true rfl) (show ((H.1 47 1) = (0 : Int32) → Q (some (.long a1.toInt32.toInt8.toInt32.toInt64)) H) ∧ (¬ (H.1 47 1) = (0 : Int32) → ((H.1 47 1) = (1 : Int32) → Q (some (.long a1.toInt32.toInt16.toInt32.toInt64)) H) ∧ (¬ (H.1 47 1) = (1 : Int32) → ((H.1 47 1) = (2 : Int32) → Q (some (.long a1.toInt32.toInt64)) H) ∧ (¬ (H.1 47 1) = (2 : Int32) → ((H.1 47 1) = (3 : Int32) → Q (some (.long a1)) H) ∧ (¬ (H.1 47 1) = (3 : Int32) → ((H.1 47 1) = (4 : Int32) → ((lg_cmp a1 (0 : Int64)) = 0 → Q (some (.long (0 : Int64))) H) ∧ (¬ (lg_cmp a1 (0 : Int64)) = 0 → Q (some (.long (1 : Int64))) H)) ∧ (¬ (H.1 47 1) = (4 : Int32) → Q (some (.long a1)) H))))) from ⟨fun q1 => (h.1 q1), fun q1 => ⟨fun q2 => ((h.2 q1).1 q2), fun q2 => ⟨fun q3 => (((h.2 q1).2 q2).1 q3), fun q3 => ⟨fun q4 => ((((h.2 q1).2 q2).2 q3).1 q4), fun q4 => ⟨fun q5 => ⟨fun q6 => ((((((h.2 q1).2 q2).2 q3).2 q4).1 q5).1 q6), fun q6 => ((((((h.2 q1).2 q2).2 q3).2 q4).1 q5).2 q6)⟩, fun q5 => (((((h.2 q1).2 q2).2 q3).2 q4).2 q5)⟩⟩⟩⟩⟩)
set_option maxRecDepth 100000 in
set_option maxHeartbeats 4000000 in
theorem m_Sh_lowestBits_49 {d : Nat} {H : pmT} {Q : pmQ} (a1 : Int64)
    (h : ((H.1 49 1) = (0 : Int32) → Q (some (.long a1.toInt32.toInt8.toInt32.toInt64)) H) ∧ (¬ (H.1 49 1) = (0 : Int32) → ((H.1 49 1) = (1 : Int32) → Q (some (.long a1.toInt32.toInt16.toInt32.toInt64)) H) ∧ (¬ (H.1 49 1) = (1 : Int32) → ((H.1 49 1) = (2 : Int32) → Q (some (.long a1.toInt32.toInt64)) H) ∧ (¬ (H.1 49 1) = (2 : Int32) → ((H.1 49 1) = (3 : Int32) → Q (some (.long a1)) H) ∧ (¬ (H.1 49 1) = (3 : Int32) → ((H.1 49 1) = (4 : Int32) → ((lg_cmp a1 (0 : Int64)) = 0 → Q (some (.long (0 : Int64))) H) ∧ (¬ (lg_cmp a1 (0 : Int64)) = 0 → Q (some (.long (1 : Int64))) H)) ∧ (¬ (H.1 49 1) = (4 : Int32) → Q (some (.long a1)) H)))))) : pm_R d M_Sh_lowestBits [.ref 49, .long a1] H Q :=
  pm_walk (n := 10) ok_Sh_lowestBits tk_Sh_lowestBits rfl (Nat.le_of_ble_eq_true rfl) (show ((H.1 49 1) = (0 : Int32) → Q (some (.long a1.toInt32.toInt8.toInt32.toInt64)) H) ∧ (¬ (H.1 49 1) = (0 : Int32) → ((H.1 49 1) = (1 : Int32) → Q (some (.long a1.toInt32.toInt16.toInt32.toInt64)) H) ∧ (¬ (H.1 49 1) = (1 : Int32) → ((H.1 49 1) = (2 : Int32) → Q (some (.long a1.toInt32.toInt64)) H) ∧ (¬ (H.1 49 1) = (2 : Int32) → ((H.1 49 1) = (3 : Int32) → Q (some (.long a1)) H) ∧ (¬ (H.1 49 1) = (3 : Int32) → ((H.1 49 1) = (4 : Int32) → ((lg_cmp a1 (0 : Int64)) = 0 → Q (some (.long (0 : Int64))) H) ∧ (¬ (lg_cmp a1 (0 : Int64)) = 0 → Q (some (.long (1 : Int64))) H)) ∧ (¬ (H.1 49 1) = (4 : Int32) → Q (some (.long a1)) H))))) from ⟨fun q1 => (h.1 q1), fun q1 => ⟨fun q2 => ((h.2 q1).1 q2), fun q2 => ⟨fun q3 => (((h.2 q1).2 q2).1 q3), fun q3 => ⟨fun q4 => ((((h.2 q1).2 q2).2 q3).1 q4), fun q4 => ⟨fun q5 => ⟨fun q6 => ((((((h.2 q1).2 q2).2 q3).2 q4).1 q5).1 q6), fun q6 => ((((((h.2 q1).2 q2).2 q3).2 q4).1 q5).2 q6)⟩, fun q5 => (((((h.2 q1).2 q2).2 q3).2 q4).2 q5)⟩⟩⟩⟩⟩)
set_option maxRecDepth 100000 in
set_option maxHeartbeats 4000000 in
theorem m_Sh_lowestBits_51 {d : Nat} {H : pmT} {Q : pmQ} (a1 : Int64)
    (h : ((H.1 51 1) = (0 : Int32) → Q (some (.long a1.toInt32.toInt8.toInt32.toInt64)) H) ∧ (¬ (H.1 51 1) = (0 : Int32) → ((H.1 51 1) = (1 : Int32) → Q (some (.long a1.toInt32.toInt16.toInt32.toInt64)) H) ∧ (¬ (H.1 51 1) = (1 : Int32) → ((H.1 51 1) = (2 : Int32) → Q (some (.long a1.toInt32.toInt64)) H) ∧ (¬ (H.1 51 1) = (2 : Int32) → ((H.1 51 1) = (3 : Int32) → Q (some (.long a1)) H) ∧ (¬ (H.1 51 1) = (3 : Int32) → ((H.1 51 1) = (4 : Int32) → ((lg_cmp a1 (0 : Int64)) = 0 → Q (some (.long (0 : Int64))) H) ∧ (¬ (lg_cmp a1 (0 : Int64)) = 0 → Q (some (.long (1 : Int64))) H)) ∧ (¬ (H.1 51 1) = (4 : Int32) → Q (some (.long a1)) H)))))) : pm_R d M_Sh_lowestBits [.ref 51, .long a1] H Q :=
  pm_walk (n := 10) ok_Sh_lowestBits tk_Sh_lowestBits rfl (Nat.le_of_ble_eq_true rfl) (show ((H.1 51 1) = (0 : Int32) → Q (some (.long a1.toInt32.toInt8.toInt32.toInt64)) H) ∧ (¬ (H.1 51 1) = (0 : Int32) → ((H.1 51 1) = (1 : Int32) → Q (some (.long a1.toInt32.toInt16.toInt32.toInt64)) H) ∧ (¬ (H.1 51 1) = (1 : Int32) → ((H.1 51 1) = (2 : Int32) → Q (some (.long a1.toInt32.toInt64)) H) ∧ (¬ (H.1 51 1) = (2 : Int32) → ((H.1 51 1) = (3 : Int32) → Q (some (.long a1)) H) ∧ (¬ (H.1 51 1) = (3 : Int32) → ((H.1 51 1) = (4 : Int32) → ((lg_cmp a1 (0 : Int64)) = 0 → Q (some (.long (0 : Int64))) H) ∧ (¬ (lg_cmp a1 (0 : Int64)) = 0 → Q (some (.long (1 : Int64))) H)) ∧ (¬ (H.1 51 1) = (4 : Int32) → Q (some (.long a1)) H))))) from ⟨fun q1 => (h.1 q1), fun q1 => ⟨fun q2 => ((h.2 q1).1 q2), fun q2 => ⟨fun q3 => (((h.2 q1).2 q2).1 q3), fun q3 => ⟨fun q4 => ((((h.2 q1).2 q2).2 q3).1 q4), fun q4 => ⟨fun q5 => ⟨fun q6 => ((((((h.2 q1).2 q2).2 q3).2 q4).1 q5).1 q6), fun q6 => ((((((h.2 q1).2 q2).2 q3).2 q4).1 q5).2 q6)⟩, fun q5 => (((((h.2 q1).2 q2).2 q3).2 q4).2 q5)⟩⟩⟩⟩⟩)
set_option maxRecDepth 100000 in
set_option maxHeartbeats 4000000 in
theorem m_Sh_lowestBits_53 {d : Nat} {H : pmT} {Q : pmQ} (a1 : Int64)
    (h : ((H.1 53 1) = (0 : Int32) → Q (some (.long a1.toInt32.toInt8.toInt32.toInt64)) H) ∧ (¬ (H.1 53 1) = (0 : Int32) → ((H.1 53 1) = (1 : Int32) → Q (some (.long a1.toInt32.toInt16.toInt32.toInt64)) H) ∧ (¬ (H.1 53 1) = (1 : Int32) → ((H.1 53 1) = (2 : Int32) → Q (some (.long a1.toInt32.toInt64)) H) ∧ (¬ (H.1 53 1) = (2 : Int32) → ((H.1 53 1) = (3 : Int32) → Q (some (.long a1)) H) ∧ (¬ (H.1 53 1) = (3 : Int32) → ((H.1 53 1) = (4 : Int32) → ((lg_cmp a1 (0 : Int64)) = 0 → Q (some (.long (0 : Int64))) H) ∧ (¬ (lg_cmp a1 (0 : Int64)) = 0 → Q (some (.long (1 : Int64))) H)) ∧ (¬ (H.1 53 1) = (4 : Int32) → Q (some (.long a1)) H)))))) : pm_R d M_Sh_lowestBits [.ref 53, .long a1] H Q :=
  pm_walk (n := 10) ok_Sh_lowestBits tk_Sh_lowestBits rfl (Nat.le_of_ble_eq_true rfl) (show ((H.1 53 1) = (0 : Int32) → Q (some (.long a1.toInt32.toInt8.toInt32.toInt64)) H) ∧ (¬ (H.1 53 1) = (0 : Int32) → ((H.1 53 1) = (1 : Int32) → Q (some (.long a1.toInt32.toInt16.toInt32.toInt64)) H) ∧ (¬ (H.1 53 1) = (1 : Int32) → ((H.1 53 1) = (2 : Int32) → Q (some (.long a1.toInt32.toInt64)) H) ∧ (¬ (H.1 53 1) = (2 : Int32) → ((H.1 53 1) = (3 : Int32) → Q (some (.long a1)) H) ∧ (¬ (H.1 53 1) = (3 : Int32) → ((H.1 53 1) = (4 : Int32) → ((lg_cmp a1 (0 : Int64)) = 0 → Q (some (.long (0 : Int64))) H) ∧ (¬ (lg_cmp a1 (0 : Int64)) = 0 → Q (some (.long (1 : Int64))) H)) ∧ (¬ (H.1 53 1) = (4 : Int32) → Q (some (.long a1)) H))))) from ⟨fun q1 => (h.1 q1), fun q1 => ⟨fun q2 => ((h.2 q1).1 q2), fun q2 => ⟨fun q3 => (((h.2 q1).2 q2).1 q3), fun q3 => ⟨fun q4 => ((((h.2 q1).2 q2).2 q3).1 q4), fun q4 => ⟨fun q5 => ⟨fun q6 => ((((((h.2 q1).2 q2).2 q3).2 q4).1 q5).1 q6), fun q6 => ((((((h.2 q1).2 q2).2 q3).2 q4).1 q5).2 q6)⟩, fun q5 => (((((h.2 q1).2 q2).2 q3).2 q4).2 q5)⟩⟩⟩⟩⟩)
def T_Bo_add : List pmE := [
  (0, [], .aload 0, 0, 0, 0),
  (1, [], .getfield 1, 0, 15, 301),
  (4, [], .iconst 50, 1, 0, 0),
  (6, [], .if_icmp .lt 12, 0, 0, 0),
  (9, [], .iconst (-3), 1, 0, 0),
  (11, [], .ireturn, 0, 0, 0),
  (12, [], .aload 0, 0, 0, 0),
  (13, [], .getfield 0, 0, 11, 300),
  (16, [], .aload 0, 0, 0, 0),
  (17, [], .getfield 1, 0, 15, 301),
  (20, [], .iload 1, 0, 0, 0),
  (21, [], .iastore, 0, 0, 0),
  (22, [], .aload 0, 0, 0, 0),
  (23, [], .dup, 0, 0, 0),
  (24, [], .getfield 1, 0, 15, 301),
  (27, [], .iconst 1, 0, 0, 0),
  (28, [], .iadd, 0, 0, 0),
  (29, [], .putfield 1, 0, 15, 301),
  (32, [], .aload 0, 0, 0, 0),
  (33, [], .getfield 1, 0, 15, 301),
  (36, [], .iconst 1, 0, 0, 0),
  (37, [], .isub, 0, 0, 0),
  (38, [], .ireturn, 0, 0, 0)]
theorem tk_Bo_add : pm_okT M_Bo_add T_Bo_add = true := by decide +kernel
theorem ok_Bo_add : pm_okm M_Bo_add := pm_okm_of _ 880 83 878 879 (by decide +kernel)
set_option maxRecDepth 100000 in
set_option maxHeartbeats 4000000 in
theorem m_Bo_add {d : Nat} {H : pmT} {Q : pmQ} (a1 : Int32)
    (h : ((H.1 31 1) < (50 : Int32) → vp_in (H.1 31 1) 50 ∧ (Q (some (.int (((H.1 31 1) + (1 : Int32)) - (1 : Int32)))) ((pm_up (pm_up H.1 32 ((H.1 31 1).toNatClampNeg) a1) 31 1 ((H.1 31 1) + (1 : Int32))), H.2))) ∧ (¬ (H.1 31 1) < (50 : Int32) → Q (some (.int (-3 : Int32))) H)) : pm_R d M_Bo_add [.ref 31, .int a1] H Q :=
  pm_walk (n := 21) ok_Bo_add tk_Bo_add rfl (Nat.le_of_ble_eq_true rfl) (show ((H.1 31 1) < (50 : Int32) → vp_in (H.1 31 1) 50 ∧ (Q (some (.int (((H.1 31 1) + (1 : Int32)) - (1 : Int32)))) ((pm_up (pm_up H.1 32 ((H.1 31 1).toNatClampNeg) a1) 31 1 ((H.1 31 1) + (1 : Int32))), H.2))) ∧ (¬ (H.1 31 1) < (50 : Int32) → Q (some (.int (-3 : Int32))) H) from ⟨fun q1 => ⟨(h.1 q1).1, (h.1 q1).2⟩, fun q1 => (h.2 q1)⟩)
def T_Bo_kindOf : List pmE := [
  (0, [], .iload 1, 0, 0, 0),
  (1, [], .iconst 0, 0, 0, 0),
  (2, [], .aload 0, 0, 0, 0),
  (3, [], .getfield 1, 0, 15, 301),
  (6, [], .iconst 1, 0, 0, 0),
  (7, [], .isub, 0, 0, 0),
  (8, [], .invokeinterface 135 13, 3, 28, 893),
  (11, [], .ifCond .eq 18, 0, 0, 0),
  (14, [], .iconst (-1), 0, 0, 0),
  (15, [], .goto 24, 0, 0, 0),
  (18, [], .aload 0, 0, 0, 0),
  (19, [], .getfield 0, 0, 11, 300),
  (22, [], .iload 1, 0, 0, 0),
  (23, [], .iaload, 0, 0, 0),
  (24, [], .ireturn, 0, 0, 0)]
theorem tk_Bo_kindOf : pm_okT M_Bo_kindOf T_Bo_kindOf = true := by decide +kernel
theorem ok_Bo_kindOf : pm_okm M_Bo_kindOf := pm_okm_of _ 892 83 890 891 (by decide +kernel)
set_option maxRecDepth 100000 in
set_option maxHeartbeats 4000000 in
theorem m_Bo_kindOf {d : Nat} {H : pmT} {Q : pmQ} (a1 : Int32)
    (h : pm_R d M_PW_outside [.int a1, .int (0 : Int32), .int ((H.1 31 1) - (1 : Int32))] H (pm_i (fun x2 H1 => (x2 = 0 → vp_in a1 50 ∧ (Q (some (.int (H1.1 32 a1.toNatClampNeg))) H1)) ∧ (¬ x2 = 0 → Q (some (.int (-1 : Int32))) H1)))) : pm_R (d + 1) M_Bo_kindOf [.ref 31, .int a1] H Q :=
  pm_walk (n := 13) ok_Bo_kindOf tk_Bo_kindOf rfl (Nat.le_of_ble_eq_true rfl) (show pm_R d M_PW_outside [.int a1, .int (0 : Int32), .int ((H.1 31 1) - (1 : Int32))] H (pm_i (fun x2 H1 => (x2 = 0 → vp_in a1 50 ∧ (Q (some (.int (H1.1 32 a1.toNatClampNeg))) H1)) ∧ (¬ x2 = 0 → Q (some (.int (-1 : Int32))) H1))) from pm_mi h (fun x2 H1 z1 => ⟨fun q2 => ⟨(z1.1 q2).1, (z1.1 q2).2⟩, fun q2 => (z1.2 q2)⟩))
def T_Bo_isUnder : List pmE := [
  (0, [], .iload 0, 0, 0, 0),
  (1, [], .istore 2, 0, 0, 0),
  (2, [], .iconst 0, 0, 0, 0),
  (3, [], .istore 3, 0, 0, 0),
  (4, [1, 2, 3], .iload 3, 0, 0, 0),
  (5, [], .iconst 8, 1, 0, 0),
  (7, [], .if_icmp .ge 39, 0, 0, 0),
  (10, [], .iload 2, 0, 0, 0),
  (11, [], .iconst 0, 0, 0, 0),
  (12, [], .iconst 7, 1, 0, 0),
  (14, [], .invokeinterface 135 13, 3, 28, 893),
  (17, [], .ifCond .ne 39, 0, 0, 0),
  (20, [], .iload 2, 0, 0, 0),
  (21, [], .iload 1, 0, 0, 0),
  (22, [], .if_icmp .ne 27, 0, 0, 0),
  (25, [], .iconst 1, 0, 0, 0),
  (26, [], .areturn, 0, 0, 0),
  (27, [], .getstatic 1, 0, 32, 903),
  (30, [], .iload 2, 0, 0, 0),
  (31, [], .iaload, 0, 0, 0),
  (32, [], .istore 2, 0, 0, 0),
  (33, [], .iinc 3 1, 0, 0, 0),
  (36, [], .goto 4, 0, 0, 0),
  (39, [], .iconst 0, 0, 0, 0),
  (40, [], .areturn, 0, 0, 0)]
theorem tk_Bo_isUnder : pm_okT M_Bo_isUnder T_Bo_isUnder = true := by decide +kernel
theorem ok_Bo_isUnder : pm_okm M_Bo_isUnder := pm_okm_of _ 967 83 966 0 (by decide +kernel)
set_option maxRecDepth 100000 in
set_option maxHeartbeats 4000000 in
theorem m_Bo_isUnder {d : Nat} {H : pmT} {Q : pmQ} (a1 : Int32) (a2 : Int32)
    (h : pm_RW none (d + 1) M_Bo_isUnder Q 4 [(1, .int a2), (2, .int a1), (3, .int (0 : Int32))] [] H) : pm_R (d + 1) M_Bo_isUnder [.int a1, .int a2] H Q :=
  pm_walk (n := 5) ok_Bo_isUnder tk_Bo_isUnder rfl (Nat.le_of_ble_eq_true rfl) (show pm_RW none (d + 1) M_Bo_isUnder Q 4 [(1, .int a2), (2, .int a1), (3, .int (0 : Int32))] [] H from h)
set_option maxRecDepth 100000 in
set_option maxHeartbeats 4000000 in
theorem b_Bo_isUnder_4 {d : Nat} {H : pmT} {Q : pmQ} (v1 : Int32) (v2 : Int32) (v3 : Int32)
    (h : ((8 : Int32) ≤ v3 → Q (some (.int (0 : Int32))) H) ∧ (¬ (8 : Int32) ≤ v3 → pm_R d M_PW_outside [.int v2, .int (0 : Int32), .int (7 : Int32)] H (pm_i (fun x2 H1 => (¬ x2 = 0 → Q (some (.int (0 : Int32))) H1) ∧ (x2 = 0 → (¬ v2 = v1 → vp_in v2 8 ∧ (pm_RW none (d + 1) M_Bo_isUnder Q 4 [(1, .int v1), (2, .int (pm_AB v2.toNatClampNeg)), (3, .int (v3 + (1 : Int32)))] [] H1)) ∧ (v2 = v1 → Q (some (.int (1 : Int32))) H1)))))) : pm_RW none (d + 1) M_Bo_isUnder Q 4 [(1, .int v1), (2, .int v2), (3, .int v3)] [] H :=
  pm_body tk_Bo_isUnder 17 4 (show ((8 : Int32) ≤ v3 → ((0 : Int32) = 0 ∨ (0 : Int32) = 1) ∧ (Q (some (.int (0 : Int32))) H)) ∧ (¬ (8 : Int32) ≤ v3 → pm_R d M_PW_outside [.int v2, .int (0 : Int32), .int (7 : Int32)] H (pm_i (fun x2 H1 => (¬ x2 = 0 → ((0 : Int32) = 0 ∨ (0 : Int32) = 1) ∧ (Q (some (.int (0 : Int32))) H1)) ∧ (x2 = 0 → (¬ v2 = v1 → vp_in v2 8 ∧ (pm_RW none (d + 1) M_Bo_isUnder Q 4 [(1, .int v1), (2, .int (pm_AB v2.toNatClampNeg)), (3, .int (v3 + (1 : Int32)))] [] H1)) ∧ (v2 = v1 → ((1 : Int32) = 0 ∨ (1 : Int32) = 1) ∧ (Q (some (.int (1 : Int32))) H1)))))) from ⟨fun q1 => ⟨Or.inl rfl, (h.1 q1)⟩, fun q1 => pm_mi (h.2 q1) (fun x2 H1 z2 => ⟨fun q3 => ⟨Or.inl rfl, (z2.1 q3)⟩, fun q3 => ⟨fun q4 => ⟨((z2.2 q3).1 q4).1, ((z2.2 q3).1 q4).2⟩, fun q4 => ⟨Or.inr rfl, ((z2.2 q3).2 q4)⟩⟩⟩)⟩)
def T_Bo_traced : List pmE := [
  (0, [], .iload 1, 0, 0, 0),
  (1, [], .iconst 0, 0, 0, 0),
  (2, [], .aload 0, 0, 0, 0),
  (3, [], .getfield 3, 0, 22, 304),
  (6, [], .iconst 24, 1, 0, 0),
  (8, [], .fsub, 0, 35, 917),
  (11, [], .iconst 1, 0, 0, 0),
  (12, [], .isub, 0, 0, 0),
  (13, [], .invokeinterface 135 13, 3, 28, 893),
  (16, [], .ifCond .eq 23, 0, 0, 0),
  (19, [], .iconst (-1), 0, 0, 0),
  (20, [], .goto 29, 0, 0, 0),
  (23, [], .aload 0, 0, 0, 0),
  (24, [], .getfield 2, 0, 19, 303),
  (27, [], .iload 1, 0, 0, 0),
  (28, [], .iaload, 0, 0, 0),
  (29, [], .ireturn, 0, 0, 0)]
theorem tk_Bo_traced : pm_okT M_Bo_traced T_Bo_traced = true := by decide +kernel
theorem ok_Bo_traced : pm_okm M_Bo_traced := pm_okm_of _ 916 83 914 915 (by decide +kernel)
set_option maxRecDepth 100000 in
set_option maxHeartbeats 4000000 in
theorem m_Bo_traced {d : Nat} {H : pmT} {Q : pmQ} (a1 : Int32)
    (h : pm_R d M_PW_outside [.int a1, .int (0 : Int32), .int ((pm_min (H.1 31 3) (24 : Int32)) - (1 : Int32))] H (pm_i (fun x2 H1 => (x2 = 0 → vp_in a1 24 ∧ (Q (some (.int (H1.1 33 a1.toNatClampNeg))) H1)) ∧ (¬ x2 = 0 → Q (some (.int (-1 : Int32))) H1)))) : pm_R (d + 1) M_Bo_traced [.ref 31, .int a1] H Q :=
  pm_walk (n := 15) ok_Bo_traced tk_Bo_traced rfl (Nat.le_of_ble_eq_true rfl) (show pm_R d M_PW_outside [.int a1, .int (0 : Int32), .int ((pm_min (H.1 31 3) (24 : Int32)) - (1 : Int32))] H (pm_i (fun x2 H1 => (x2 = 0 → vp_in a1 24 ∧ (Q (some (.int (H1.1 33 a1.toNatClampNeg))) H1)) ∧ (¬ x2 = 0 → Q (some (.int (-1 : Int32))) H1))) from pm_mi h (fun x2 H1 z1 => ⟨fun q2 => ⟨(z1.1 q2).1, (z1.1 q2).2⟩, fun q2 => (z1.2 q2)⟩))
def T_Bo_perform : List pmE := [
  (0, [], .aload 0, 0, 0, 0),
  (1, [], .iconst 0, 0, 0, 0),
  (2, [], .putfield 3, 0, 22, 304),
  (5, [], .aload 0, 0, 0, 0),
  (6, [], .iload 1, 0, 0, 0),
  (7, [], .invokeinterface 2 73, 0, 41, 889),
  (10, [], .ifCond .lt 22, 0, 0, 0),
  (13, [], .iload 2, 0, 0, 0),
  (14, [], .iconst 0, 0, 0, 0),
  (15, [], .iconst 3, 0, 0, 0),
  (16, [], .invokeinterface 135 13, 3, 28, 893),
  (19, [], .ifCond .eq 24, 0, 0, 0),
  (22, [], .iconst 0, 0, 0, 0),
  (23, [], .ireturn, 0, 0, 0),
  (24, [], .aload 0, 0, 0, 0),
  (25, [], .iload 1, 0, 0, 0),
  (26, [], .putfield 4, 0, 25, 306),
  (29, [], .aload 0, 0, 0, 0),
  (30, [], .aload 0, 0, 0, 0),
  (31, [], .getfield 0, 0, 11, 300),
  (34, [], .iload 1, 0, 0, 0),
  (35, [], .iaload, 0, 0, 0),
  (36, [], .iload 2, 0, 0, 0),
  (37, [], .iload 3, 0, 0, 0),
  (38, [], .iconst 0, 0, 0, 0),
  (39, [], .invokeinterface 7 85, 0, 45, 894),
  (42, [], .ireturn, 0, 0, 0)]
theorem tk_Bo_perform : pm_okT M_Bo_perform T_Bo_perform = true := by decide +kernel
theorem ok_Bo_perform : pm_okm M_Bo_perform := pm_okm_of _ 888 83 886 887 (by decide +kernel)
set_option maxRecDepth 100000 in
set_option maxHeartbeats 4000000 in
theorem m_Bo_perform {d : Nat} {H : pmT} {Q : pmQ} (a1 : Int32) (a2 : Int32) (a3 : Int32)
    (h : pm_R d M_Bo_kindOf [.ref 31, .int a1] ((pm_up H.1 31 3 (0 : Int32)), H.2) (pm_i (fun x2 H1 => (x2 < 0 → Q (some (.int (0 : Int32))) H1) ∧ (¬ x2 < 0 → pm_R d M_PW_outside [.int a2, .int (0 : Int32), .int (3 : Int32)] H1 (pm_i (fun x4 H3 => (x4 = 0 → vp_in a1 50 ∧ (pm_R d M_Bo_run [.ref 31, .int (H3.1 32 a1.toNatClampNeg), .int a2, .int a3, .int (0 : Int32)] ((pm_up H3.1 31 4 a1), H3.2) (pm_i (fun x6 H5 => Q (some (.int x6)) H5)))) ∧ (¬ x4 = 0 → Q (some (.int (0 : Int32))) H3))))))) : pm_R (d + 1) M_Bo_perform [.ref 31, .int a1, .int a2, .int a3] H Q :=
  pm_walk (n := 25) ok_Bo_perform tk_Bo_perform rfl (Nat.le_of_ble_eq_true rfl) (show pm_R d M_Bo_kindOf [.ref 31, .int a1] ((pm_up H.1 31 3 (0 : Int32)), H.2) (pm_i (fun x2 H1 => (x2 < 0 → Q (some (.int (0 : Int32))) H1) ∧ (¬ x2 < 0 → pm_R d M_PW_outside [.int a2, .int (0 : Int32), .int (3 : Int32)] H1 (pm_i (fun x4 H3 => (x4 = 0 → vp_in a1 50 ∧ (pm_R d M_Bo_run [.ref 31, .int (H3.1 32 a1.toNatClampNeg), .int a2, .int a3, .int (0 : Int32)] ((pm_up H3.1 31 4 a1), H3.2) (pm_i (fun x6 H5 => Q (some (.int x6)) H5)))) ∧ (¬ x4 = 0 → Q (some (.int (0 : Int32))) H3)))))) from pm_mi h (fun x2 H1 z1 => ⟨fun q2 => (z1.1 q2), fun q2 => pm_mi (z1.2 q2) (fun x4 H3 z3 => ⟨fun q4 => ⟨(z3.1 q4).1, (z3.1 q4).2⟩, fun q4 => (z3.2 q4)⟩)⟩))
def T_Bo_holder : List pmE := [
  (0, [], .iload 0, 0, 0, 0),
  (1, [], .istore 2, 0, 0, 0),
  (2, [], .iconst 0, 0, 0, 0),
  (3, [], .istore 3, 0, 0, 0),
  (4, [1, 2, 3], .iload 3, 0, 0, 0),
  (5, [], .iconst 8, 1, 0, 0),
  (7, [], .if_icmp .ge 46, 0, 0, 0),
  (10, [], .iload 2, 0, 0, 0),
  (11, [], .iconst 0, 0, 0, 0),
  (12, [], .iconst 7, 1, 0, 0),
  (14, [], .invokeinterface 135 13, 3, 28, 893),
  (17, [], .ifCond .ne 46, 0, 0, 0),
  (20, [], .getstatic 2, 0, 49, 901),
  (23, [], .iload 2, 0, 0, 0),
  (24, [], .iconst 4, 0, 0, 0),
  (25, [], .imul, 0, 0, 0),
  (26, [], .iload 1, 0, 0, 0),
  (27, [], .iadd, 0, 0, 0),
  (28, [], .iaload, 0, 0, 0),
  (29, [], .ifCond .eq 34, 0, 0, 0),
  (32, [], .iload 2, 0, 0, 0),
  (33, [], .ireturn, 0, 0, 0),
  (34, [], .getstatic 1, 0, 32, 903),
  (37, [], .iload 2, 0, 0, 0),
  (38, [], .iaload, 0, 0, 0),
  (39, [], .istore 2, 0, 0, 0),
  (40, [], .iinc 3 1, 0, 0, 0),
  (43, [], .goto 4, 0, 0, 0),
  (46, [], .iconst (-1), 0, 0, 0),
  (47, [], .ireturn, 0, 0, 0)]
theorem tk_Bo_holder : pm_okT M_Bo_holder T_Bo_holder = true := by decide +kernel
theorem ok_Bo_holder : pm_okm M_Bo_holder := pm_okm_of _ 900 83 899 0 (by decide +kernel)
set_option maxRecDepth 100000 in
set_option maxHeartbeats 4000000 in
theorem m_Bo_holder {d : Nat} {H : pmT} {Q : pmQ} (a1 : Int32) (a2 : Int32)
    (h : pm_RW none (d + 1) M_Bo_holder Q 4 [(1, .int a2), (2, .int a1), (3, .int (0 : Int32))] [] H) : pm_R (d + 1) M_Bo_holder [.int a1, .int a2] H Q :=
  pm_walk (n := 5) ok_Bo_holder tk_Bo_holder rfl (Nat.le_of_ble_eq_true rfl) (show pm_RW none (d + 1) M_Bo_holder Q 4 [(1, .int a2), (2, .int a1), (3, .int (0 : Int32))] [] H from h)
set_option maxRecDepth 100000 in
set_option maxHeartbeats 4000000 in
theorem b_Bo_holder_4 {d : Nat} {H : pmT} {Q : pmQ} (v1 : Int32) (v2 : Int32) (v3 : Int32)
    (h : ((8 : Int32) ≤ v3 → Q (some (.int (-1 : Int32))) H) ∧ (¬ (8 : Int32) ≤ v3 → pm_R d M_PW_outside [.int v2, .int (0 : Int32), .int (7 : Int32)] H (pm_i (fun x2 H1 => (¬ x2 = 0 → Q (some (.int (-1 : Int32))) H1) ∧ (x2 = 0 → vp_in ((v2 * (4 : Int32)) + v1) 32 ∧ (((pm_OW (((v2 * (4 : Int32)) + v1).toNatClampNeg)) = 0 → vp_in v2 8 ∧ (pm_RW none (d + 1) M_Bo_holder Q 4 [(1, .int v1), (2, .int (pm_AB v2.toNatClampNeg)), (3, .int (v3 + (1 : Int32)))] [] H1)) ∧ (¬ (pm_OW (((v2 * (4 : Int32)) + v1).toNatClampNeg)) = 0 → Q (some (.int v2)) H1))))))) : pm_RW none (d + 1) M_Bo_holder Q 4 [(1, .int v1), (2, .int v2), (3, .int v3)] [] H :=
  pm_body tk_Bo_holder 22 4 (show ((8 : Int32) ≤ v3 → Q (some (.int (-1 : Int32))) H) ∧ (¬ (8 : Int32) ≤ v3 → pm_R d M_PW_outside [.int v2, .int (0 : Int32), .int (7 : Int32)] H (pm_i (fun x2 H1 => (¬ x2 = 0 → Q (some (.int (-1 : Int32))) H1) ∧ (x2 = 0 → vp_in ((v2 * (4 : Int32)) + v1) 32 ∧ (((pm_OW (((v2 * (4 : Int32)) + v1).toNatClampNeg)) = 0 → vp_in v2 8 ∧ (pm_RW none (d + 1) M_Bo_holder Q 4 [(1, .int v1), (2, .int (pm_AB v2.toNatClampNeg)), (3, .int (v3 + (1 : Int32)))] [] H1)) ∧ (¬ (pm_OW (((v2 * (4 : Int32)) + v1).toNatClampNeg)) = 0 → Q (some (.int v2)) H1)))))) from ⟨fun q1 => (h.1 q1), fun q1 => pm_mi (h.2 q1) (fun x2 H1 z2 => ⟨fun q3 => (z2.1 q3), fun q3 => ⟨(z2.2 q3).1, ⟨fun q4 => ⟨((z2.2 q3).2.1 q4).1, ((z2.2 q3).2.1 q4).2⟩, fun q4 => ((z2.2 q3).2.2 q4)⟩⟩⟩)⟩)
def T_Bo_run : List pmE := [
  (0, [], .iload 1, 0, 0, 0),
  (1, [], .iload 2, 0, 0, 0),
  (2, [], .invokeinterface 6 9, 1, 52, 898),
  (5, [], .istore 5, 1, 0, 0),
  (7, [], .iload 5, 1, 0, 0),
  (9, [], .ifCond .lt 19, 0, 0, 0),
  (12, [], .iload 4, 1, 0, 0),
  (14, [], .iconst 40, 1, 0, 0),
  (16, [], .if_icmp .le 21, 0, 0, 0),
  (19, [], .iconst 0, 0, 0, 0),
  (20, [], .ireturn, 0, 0, 0),
  (21, [], .getstatic 2, 0, 49, 901),
  (24, [], .iload 5, 1, 0, 0),
  (26, [], .iconst 4, 0, 0, 0),
  (27, [], .imul, 0, 0, 0),
  (28, [], .iload 2, 0, 0, 0),
  (29, [], .iadd, 0, 0, 0),
  (30, [], .iaload, 0, 0, 0),
  (31, [], .istore 6, 1, 0, 0),
  (33, [], .aload 0, 0, 0, 0),
  (34, [], .iload 6, 1, 0, 0),
  (36, [], .invokeinterface 8 72, 0, 55, 905),
  (39, [], .getstatic 1, 0, 32, 903),
  (42, [], .iload 5, 1, 0, 0),
  (44, [], .iaload, 0, 0, 0),
  (45, [], .istore 7, 1, 0, 0),
  (47, [], .aload 0, 0, 0, 0),
  (48, [], .getfield 0, 0, 11, 300),
  (51, [], .aload 0, 0, 0, 0),
  (52, [], .getfield 4, 0, 25, 306),
  (55, [], .iaload, 0, 0, 0),
  (56, [], .istore 8, 1, 0, 0),
  (58, [], .iload 4, 1, 0, 0),
  (60, [], .iconst 1, 0, 0, 0),
  (61, [], .iadd, 0, 0, 0),
  (62, [], .istore 9, 1, 0, 0),
  (64, [], .iload 6, 1, 0, 0),
  (66, [], .lookupswitch 363 #[(1, 180), (2, 187), (10, 209), (11, 222), (20, 229), (30, 242), (40, 254), (41, 267), (50, 280), (60, 302), (70, 315), (80, 328), (81, 350)], 0, 114, 0),
  (180, [], .iload 3, 0, 0, 0),
  (181, [], .aload 0, 0, 0, 0),
  (182, [], .getfield 4, 0, 25, 306),
  (185, [], .iadd, 0, 0, 0),
  (186, [], .ireturn, 0, 0, 0),
  (187, [], .aload 0, 0, 0, 0),
  (188, [], .iload 8, 1, 0, 0),
  (190, [], .iconst 1, 0, 0, 0),
  (191, [], .iload 3, 0, 0, 0),
  (192, [], .iload 9, 1, 0, 0),
  (194, [], .invokeinterface 7 85, 0, 45, 894),
  (197, [], .aload 0, 0, 0, 0),
  (198, [], .iload 8, 1, 0, 0),
  (200, [], .iconst 2, 0, 0, 0),
  (201, [], .iconst 1, 0, 0, 0),
  (202, [], .iload 9, 1, 0, 0),
  (204, [], .invokeinterface 7 85, 0, 45, 894),
  (207, [], .isub, 0, 0, 0),
  (208, [], .ireturn, 0, 0, 0),
  (209, [], .aload 0, 0, 0, 0),
  (210, [], .iload 8, 1, 0, 0),
  (212, [], .iconst 0, 0, 0, 0),
  (213, [], .iload 3, 0, 0, 0),
  (214, [], .iload 9, 1, 0, 0),
  (216, [], .invokeinterface 7 85, 0, 45, 894),
  (219, [], .iconst 2, 0, 0, 0),
  (220, [], .imul, 0, 0, 0),
  (221, [], .ireturn, 0, 0, 0),
  (222, [], .iload 3, 0, 0, 0),
  (223, [], .aload 0, 0, 0, 0),
  (224, [], .getfield 4, 0, 25, 306),
  (227, [], .ixor, 0, 0, 0),
  (228, [], .ireturn, 0, 0, 0),
  (229, [], .aload 0, 0, 0, 0),
  (230, [], .iload 7, 1, 0, 0),
  (232, [], .iconst 0, 0, 0, 0),
  (233, [], .iload 3, 0, 0, 0),
  (234, [], .iload 9, 1, 0, 0),
  (236, [], .invokeinterface 7 85, 0, 45, 894),
  (239, [], .iconst 3, 0, 0, 0),
  (240, [], .iadd, 0, 0, 0),
  (241, [], .ireturn, 0, 0, 0),
  (242, [], .aload 0, 0, 0, 0),
  (243, [], .iload 7, 1, 0, 0),
  (245, [], .iconst 1, 0, 0, 0),
  (246, [], .iload 3, 0, 0, 0),
  (247, [], .iload 9, 1, 0, 0),
  (249, [], .invokeinterface 7 85, 0, 45, 894),
  (252, [], .ineg, 0, 0, 0),
  (253, [], .ireturn, 0, 0, 0),
  (254, [], .aload 0, 0, 0, 0),
  (255, [], .iload 7, 1, 0, 0),
  (257, [], .iconst 2, 0, 0, 0),
  (258, [], .iload 3, 0, 0, 0),
  (259, [], .iload 9, 1, 0, 0),
  (261, [], .invokeinterface 7 85, 0, 45, 894),
  (264, [], .iconst 3, 0, 0, 0),
  (265, [], .imul, 0, 0, 0),
  (266, [], .ireturn, 0, 0, 0),
  (267, [], .aload 0, 0, 0, 0),
  (268, [], .iload 7, 1, 0, 0),
  (270, [], .iconst 1, 0, 0, 0),
  (271, [], .iload 3, 0, 0, 0),
  (272, [], .iconst 1, 0, 0, 0),
  (273, [], .iadd, 0, 0, 0),
  (274, [], .iload 9, 1, 0, 0),
  (276, [], .invokeinterface 7 85, 0, 45, 894),
  (279, [], .ireturn, 0, 0, 0),
  (280, [], .aload 0, 0, 0, 0),
  (281, [], .iload 7, 1, 0, 0),
  (283, [], .iconst 2, 0, 0, 0),
  (284, [], .iload 3, 0, 0, 0),
  (285, [], .iload 9, 1, 0, 0),
  (287, [], .invokeinterface 7 85, 0, 45, 894),
  (290, [], .aload 0, 0, 0, 0),
  (291, [], .iload 8, 1, 0, 0),
  (293, [], .iconst 0, 0, 0, 0),
  (294, [], .iconst 2, 0, 0, 0),
  (295, [], .iload 9, 1, 0, 0),
  (297, [], .invokeinterface 7 85, 0, 45, 894),
  (300, [], .isub, 0, 0, 0),
  (301, [], .ireturn, 0, 0, 0),
  (302, [], .aload 0, 0, 0, 0),
  (303, [], .iload 7, 1, 0, 0),
  (305, [], .iconst 3, 0, 0, 0),
  (306, [], .iload 3, 0, 0, 0),
  (307, [], .iload 9, 1, 0, 0),
  (309, [], .invokeinterface 7 85, 0, 45, 894),
  (312, [], .iconst 5, 0, 0, 0),
  (313, [], .ixor, 0, 0, 0),
  (314, [], .ireturn, 0, 0, 0),
  (315, [], .aload 0, 0, 0, 0),
  (316, [], .iload 7, 1, 0, 0),
  (318, [], .iconst 0, 0, 0, 0),
  (319, [], .iload 3, 0, 0, 0),
  (320, [], .iload 9, 1, 0, 0),
  (322, [], .invokeinterface 7 85, 0, 45, 894),
  (325, [], .iconst 2, 0, 0, 0),
  (326, [], .imul, 0, 0, 0),
  (327, [], .ireturn, 0, 0, 0),
  (328, [], .aload 0, 0, 0, 0),
  (329, [], .iload 7, 1, 0, 0),
  (331, [], .iconst 1, 0, 0, 0),
  (332, [], .iload 3, 0, 0, 0),
  (333, [], .iload 9, 1, 0, 0),
  (335, [], .invokeinterface 7 85, 0, 45, 894),
  (338, [], .aload 0, 0, 0, 0),
  (339, [], .iload 8, 1, 0, 0),
  (341, [], .iconst 2, 0, 0, 0),
  (342, [], .iconst 2, 0, 0, 0),
  (343, [], .iload 9, 1, 0, 0),
  (345, [], .invokeinterface 7 85, 0, 45, 894),
  (348, [], .iadd, 0, 0, 0),
  (349, [], .ireturn, 0, 0, 0),
  (350, [], .aload 0, 0, 0, 0),
  (351, [], .iload 7, 1, 0, 0),
  (353, [], .iconst 3, 0, 0, 0),
  (354, [], .iload 3, 0, 0, 0),
  (355, [], .iload 9, 1, 0, 0),
  (357, [], .invokeinterface 7 85, 0, 45, 894),
  (360, [], .iconst 1, 0, 0, 0),
  (361, [], .isub, 0, 0, 0),
  (362, [], .ireturn, 0, 0, 0),
  (363, [], .iconst 0, 0, 0, 0),
  (364, [], .ireturn, 0, 0, 0)]
theorem tk_Bo_run : pm_okT M_Bo_run T_Bo_run = true := by decide +kernel
theorem ok_Bo_run : pm_okm M_Bo_run := pm_okm_of _ 897 83 896 24 (by decide +kernel)
set_option maxRecDepth 100000 in
set_option maxHeartbeats 4000000 in
theorem m_Bo_run {d : Nat} {H : pmT} {Q : pmQ} (a1 : Int32) (a2 : Int32) (a3 : Int32) (a4 : Int32)
    (h : pm_R d M_Bo_holder [.int a1, .int a2] H (pm_i (fun x2 H1 => (x2 < 0 → Q (some (.int (0 : Int32))) H1) ∧ (¬ x2 < 0 → (a4 ≤ (40 : Int32) → vp_in ((x2 * (4 : Int32)) + a2) 32 ∧ (pm_R d M_Bo_note [.ref 31, .int (pm_OW (((x2 * (4 : Int32)) + a2).toNatClampNeg))] H1 (pm_v (fun H3 => vp_in x2 8 ∧ (vp_in (H3.1 31 4) 50 ∧ (((pm_OW (((x2 * (4 : Int32)) + a2).toNatClampNeg)) = (1 : Int32) → Q (some (.int (a3 + (H3.1 31 4)))) H3) ∧ (¬ (pm_OW (((x2 * (4 : Int32)) + a2).toNatClampNeg)) = (1 : Int32) → ((pm_OW (((x2 * (4 : Int32)) + a2).toNatClampNeg)) = (2 : Int32) → pm_R d M_Bo_run [.ref 31, .int (H3.1 32 ((H3.1 31 4).toNatClampNeg)), .int (1 : Int32), .int a3, .int (a4 + (1 : Int32))] H3 (pm_i (fun x29 H28 => pm_R d M_Bo_run [.ref 31, .int (H3.1 32 ((H3.1 31 4).toNatClampNeg)), .int (2 : Int32), .int (1 : Int32), .int (a4 + (1 : Int32))] H28 (pm_i (fun x31 H30 => Q (some (.int (x29 - x31))) H30))))) ∧ (¬ (pm_OW (((x2 * (4 : Int32)) + a2).toNatClampNeg)) = (2 : Int32) → ((pm_OW (((x2 * (4 : Int32)) + a2).toNatClampNeg)) = (10 : Int32) → pm_R d M_Bo_run [.ref 31, .int (H3.1 32 ((H3.1 31 4).toNatClampNeg)), .int (0 : Int32), .int a3, .int (a4 + (1 : Int32))] H3 (pm_i (fun x27 H26 => Q (some (.int (x27 * (2 : Int32)))) H26))) ∧ (¬ (pm_OW (((x2 * (4 : Int32)) + a2).toNatClampNeg)) = (10 : Int32) → ((pm_OW (((x2 * (4 : Int32)) + a2).toNatClampNeg)) = (11 : Int32) → Q (some (.int (a3 ^^^ (H3.1 31 4)))) H3) ∧ (¬ (pm_OW (((x2 * (4 : Int32)) + a2).toNatClampNeg)) = (11 : Int32) → ((pm_OW (((x2 * (4 : Int32)) + a2).toNatClampNeg)) = (20 : Int32) → pm_R d M_Bo_run [.ref 31, .int (pm_AB x2.toNatClampNeg), .int (0 : Int32), .int a3, .int (a4 + (1 : Int32))] H3 (pm_i (fun x25 H24 => Q (some (.int (x25 + (3 : Int32)))) H24))) ∧ (¬ (pm_OW (((x2 * (4 : Int32)) + a2).toNatClampNeg)) = (20 : Int32) → ((pm_OW (((x2 * (4 : Int32)) + a2).toNatClampNeg)) = (30 : Int32) → pm_R d M_Bo_run [.ref 31, .int (pm_AB x2.toNatClampNeg), .int (1 : Int32), .int a3, .int (a4 + (1 : Int32))] H3 (pm_i (fun x23 H22 => Q (some (.int (-x23))) H22))) ∧ (¬ (pm_OW (((x2 * (4 : Int32)) + a2).toNatClampNeg)) = (30 : Int32) → ((pm_OW (((x2 * (4 : Int32)) + a2).toNatClampNeg)) = (40 : Int32) → pm_R d M_Bo_run [.ref 31, .int (pm_AB x2.toNatClampNeg), .int (2 : Int32), .int a3, .int (a4 + (1 : Int32))] H3 (pm_i (fun x21 H20 => Q (some (.int (x21 * (3 : Int32)))) H20))) ∧ (¬ (pm_OW (((x2 * (4 : Int32)) + a2).toNatClampNeg)) = (40 : Int32) → ((pm_OW (((x2 * (4 : Int32)) + a2).toNatClampNeg)) = (41 : Int32) → pm_R d M_Bo_run [.ref 31, .int (pm_AB x2.toNatClampNeg), .int (1 : Int32), .int (a3 + (1 : Int32)), .int (a4 + (1 : Int32))] H3 (pm_i (fun x19 H18 => Q (some (.int x19)) H18))) ∧ (¬ (pm_OW (((x2 * (4 : Int32)) + a2).toNatClampNeg)) = (41 : Int32) → ((pm_OW (((x2 * (4 : Int32)) + a2).toNatClampNeg)) = (50 : Int32) → pm_R d M_Bo_run [.ref 31, .int (pm_AB x2.toNatClampNeg), .int (2 : Int32), .int a3, .int (a4 + (1 : Int32))] H3 (pm_i (fun x15 H14 => pm_R d M_Bo_run [.ref 31, .int (H3.1 32 ((H3.1 31 4).toNatClampNeg)), .int (0 : Int32), .int (2 : Int32), .int (a4 + (1 : Int32))] H14 (pm_i (fun x17 H16 => Q (some (.int (x15 - x17))) H16))))) ∧ (¬ (pm_OW (((x2 * (4 : Int32)) + a2).toNatClampNeg)) = (50 : Int32) → ((pm_OW (((x2 * (4 : Int32)) + a2).toNatClampNeg)) = (60 : Int32) → pm_R d M_Bo_run [.ref 31, .int (pm_AB x2.toNatClampNeg), .int (3 : Int32), .int a3, .int (a4 + (1 : Int32))] H3 (pm_i (fun x13 H12 => Q (some (.int (x13 ^^^ (5 : Int32)))) H12))) ∧ (¬ (pm_OW (((x2 * (4 : Int32)) + a2).toNatClampNeg)) = (60 : Int32) → ((pm_OW (((x2 * (4 : Int32)) + a2).toNatClampNeg)) = (70 : Int32) → pm_R d M_Bo_run [.ref 31, .int (pm_AB x2.toNatClampNeg), .int (0 : Int32), .int a3, .int (a4 + (1 : Int32))] H3 (pm_i (fun x11 H10 => Q (some (.int (x11 * (2 : Int32)))) H10))) ∧ (¬ (pm_OW (((x2 * (4 : Int32)) + a2).toNatClampNeg)) = (70 : Int32) → ((pm_OW (((x2 * (4 : Int32)) + a2).toNatClampNeg)) = (80 : Int32) → pm_R d M_Bo_run [.ref 31, .int (pm_AB x2.toNatClampNeg), .int (1 : Int32), .int a3, .int (a4 + (1 : Int32))] H3 (pm_i (fun x7 H6 => pm_R d M_Bo_run [.ref 31, .int (H3.1 32 ((H3.1 31 4).toNatClampNeg)), .int (2 : Int32), .int (2 : Int32), .int (a4 + (1 : Int32))] H6 (pm_i (fun x9 H8 => Q (some (.int (x7 + x9))) H8))))) ∧ (¬ (pm_OW (((x2 * (4 : Int32)) + a2).toNatClampNeg)) = (80 : Int32) → ((pm_OW (((x2 * (4 : Int32)) + a2).toNatClampNeg)) = (81 : Int32) → pm_R d M_Bo_run [.ref 31, .int (pm_AB x2.toNatClampNeg), .int (3 : Int32), .int a3, .int (a4 + (1 : Int32))] H3 (pm_i (fun x5 H4 => Q (some (.int (x5 - (1 : Int32)))) H4))) ∧ (¬ (pm_OW (((x2 * (4 : Int32)) + a2).toNatClampNeg)) = (81 : Int32) → Q (some (.int (0 : Int32))) H3))))))))))))))))))) ∧ (¬ a4 ≤ (40 : Int32) → Q (some (.int (0 : Int32))) H1))))) : pm_R (d + 1) M_Bo_run [.ref 31, .int a1, .int a2, .int a3, .int a4] H Q :=
  pm_walk (n := 50) ok_Bo_run tk_Bo_run rfl (Nat.le_of_ble_eq_true rfl) (show pm_R d M_Bo_holder [.int a1, .int a2] H (pm_i (fun x2 H1 => (x2 < 0 → Q (some (.int (0 : Int32))) H1) ∧ (¬ x2 < 0 → (a4 ≤ (40 : Int32) → vp_in ((x2 * (4 : Int32)) + a2) 32 ∧ (pm_R d M_Bo_note [.ref 31, .int (pm_OW (((x2 * (4 : Int32)) + a2).toNatClampNeg))] H1 (pm_v (fun H3 => vp_in x2 8 ∧ (vp_in (H3.1 31 4) 50 ∧ (((pm_OW (((x2 * (4 : Int32)) + a2).toNatClampNeg)) = (1 : Int32) → Q (some (.int (a3 + (H3.1 31 4)))) H3) ∧ (¬ (pm_OW (((x2 * (4 : Int32)) + a2).toNatClampNeg)) = (1 : Int32) → ((pm_OW (((x2 * (4 : Int32)) + a2).toNatClampNeg)) = (2 : Int32) → pm_R d M_Bo_run [.ref 31, .int (H3.1 32 ((H3.1 31 4).toNatClampNeg)), .int (1 : Int32), .int a3, .int (a4 + (1 : Int32))] H3 (pm_i (fun x29 H28 => pm_R d M_Bo_run [.ref 31, .int (H3.1 32 ((H3.1 31 4).toNatClampNeg)), .int (2 : Int32), .int (1 : Int32), .int (a4 + (1 : Int32))] H28 (pm_i (fun x31 H30 => Q (some (.int (x29 - x31))) H30))))) ∧ (¬ (pm_OW (((x2 * (4 : Int32)) + a2).toNatClampNeg)) = (2 : Int32) → ((pm_OW (((x2 * (4 : Int32)) + a2).toNatClampNeg)) = (10 : Int32) → pm_R d M_Bo_run [.ref 31, .int (H3.1 32 ((H3.1 31 4).toNatClampNeg)), .int (0 : Int32), .int a3, .int (a4 + (1 : Int32))] H3 (pm_i (fun x27 H26 => Q (some (.int (x27 * (2 : Int32)))) H26))) ∧ (¬ (pm_OW (((x2 * (4 : Int32)) + a2).toNatClampNeg)) = (10 : Int32) → ((pm_OW (((x2 * (4 : Int32)) + a2).toNatClampNeg)) = (11 : Int32) → Q (some (.int (a3 ^^^ (H3.1 31 4)))) H3) ∧ (¬ (pm_OW (((x2 * (4 : Int32)) + a2).toNatClampNeg)) = (11 : Int32) → ((pm_OW (((x2 * (4 : Int32)) + a2).toNatClampNeg)) = (20 : Int32) → pm_R d M_Bo_run [.ref 31, .int (pm_AB x2.toNatClampNeg), .int (0 : Int32), .int a3, .int (a4 + (1 : Int32))] H3 (pm_i (fun x25 H24 => Q (some (.int (x25 + (3 : Int32)))) H24))) ∧ (¬ (pm_OW (((x2 * (4 : Int32)) + a2).toNatClampNeg)) = (20 : Int32) → ((pm_OW (((x2 * (4 : Int32)) + a2).toNatClampNeg)) = (30 : Int32) → pm_R d M_Bo_run [.ref 31, .int (pm_AB x2.toNatClampNeg), .int (1 : Int32), .int a3, .int (a4 + (1 : Int32))] H3 (pm_i (fun x23 H22 => Q (some (.int (-x23))) H22))) ∧ (¬ (pm_OW (((x2 * (4 : Int32)) + a2).toNatClampNeg)) = (30 : Int32) → ((pm_OW (((x2 * (4 : Int32)) + a2).toNatClampNeg)) = (40 : Int32) → pm_R d M_Bo_run [.ref 31, .int (pm_AB x2.toNatClampNeg), .int (2 : Int32), .int a3, .int (a4 + (1 : Int32))] H3 (pm_i (fun x21 H20 => Q (some (.int (x21 * (3 : Int32)))) H20))) ∧ (¬ (pm_OW (((x2 * (4 : Int32)) + a2).toNatClampNeg)) = (40 : Int32) → ((pm_OW (((x2 * (4 : Int32)) + a2).toNatClampNeg)) = (41 : Int32) → pm_R d M_Bo_run [.ref 31, .int (pm_AB x2.toNatClampNeg), .int (1 : Int32), .int (a3 + (1 : Int32)), .int (a4 + (1 : Int32))] H3 (pm_i (fun x19 H18 => Q (some (.int x19)) H18))) ∧ (¬ (pm_OW (((x2 * (4 : Int32)) + a2).toNatClampNeg)) = (41 : Int32) → ((pm_OW (((x2 * (4 : Int32)) + a2).toNatClampNeg)) = (50 : Int32) → pm_R d M_Bo_run [.ref 31, .int (pm_AB x2.toNatClampNeg), .int (2 : Int32), .int a3, .int (a4 + (1 : Int32))] H3 (pm_i (fun x15 H14 => pm_R d M_Bo_run [.ref 31, .int (H3.1 32 ((H3.1 31 4).toNatClampNeg)), .int (0 : Int32), .int (2 : Int32), .int (a4 + (1 : Int32))] H14 (pm_i (fun x17 H16 => Q (some (.int (x15 - x17))) H16))))) ∧ (¬ (pm_OW (((x2 * (4 : Int32)) + a2).toNatClampNeg)) = (50 : Int32) → ((pm_OW (((x2 * (4 : Int32)) + a2).toNatClampNeg)) = (60 : Int32) → pm_R d M_Bo_run [.ref 31, .int (pm_AB x2.toNatClampNeg), .int (3 : Int32), .int a3, .int (a4 + (1 : Int32))] H3 (pm_i (fun x13 H12 => Q (some (.int (x13 ^^^ (5 : Int32)))) H12))) ∧ (¬ (pm_OW (((x2 * (4 : Int32)) + a2).toNatClampNeg)) = (60 : Int32) → ((pm_OW (((x2 * (4 : Int32)) + a2).toNatClampNeg)) = (70 : Int32) → pm_R d M_Bo_run [.ref 31, .int (pm_AB x2.toNatClampNeg), .int (0 : Int32), .int a3, .int (a4 + (1 : Int32))] H3 (pm_i (fun x11 H10 => Q (some (.int (x11 * (2 : Int32)))) H10))) ∧ (¬ (pm_OW (((x2 * (4 : Int32)) + a2).toNatClampNeg)) = (70 : Int32) → ((pm_OW (((x2 * (4 : Int32)) + a2).toNatClampNeg)) = (80 : Int32) → pm_R d M_Bo_run [.ref 31, .int (pm_AB x2.toNatClampNeg), .int (1 : Int32), .int a3, .int (a4 + (1 : Int32))] H3 (pm_i (fun x7 H6 => pm_R d M_Bo_run [.ref 31, .int (H3.1 32 ((H3.1 31 4).toNatClampNeg)), .int (2 : Int32), .int (2 : Int32), .int (a4 + (1 : Int32))] H6 (pm_i (fun x9 H8 => Q (some (.int (x7 + x9))) H8))))) ∧ (¬ (pm_OW (((x2 * (4 : Int32)) + a2).toNatClampNeg)) = (80 : Int32) → ((pm_OW (((x2 * (4 : Int32)) + a2).toNatClampNeg)) = (81 : Int32) → pm_R d M_Bo_run [.ref 31, .int (pm_AB x2.toNatClampNeg), .int (3 : Int32), .int a3, .int (a4 + (1 : Int32))] H3 (pm_i (fun x5 H4 => Q (some (.int (x5 - (1 : Int32)))) H4))) ∧ (¬ (pm_OW (((x2 * (4 : Int32)) + a2).toNatClampNeg)) = (81 : Int32) → Q (some (.int (0 : Int32))) H3))))))))))))))))))) ∧ (¬ a4 ≤ (40 : Int32) → Q (some (.int (0 : Int32))) H1)))) from pm_mi h (fun x2 H1 z1 => ⟨fun q2 => (z1.1 q2), fun q2 => ⟨fun q3 => ⟨((z1.2 q2).1 q3).1, pm_mv' ((z1.2 q2).1 q3).2 (fun H3 z4 => ⟨z4.1, ⟨z4.2.1, ⟨fun q5 => (z4.2.2.1 q5), fun q5 => ⟨fun q6 => ((z4.2.2.2 q5).1 q6), fun q6 => ⟨fun q9 => (((z4.2.2.2 q5).2 q6).1 q9), fun q9 => ⟨fun q11 => ((((z4.2.2.2 q5).2 q6).2 q9).1 q11), fun q11 => ⟨fun q12 => (((((z4.2.2.2 q5).2 q6).2 q9).2 q11).1 q12), fun q12 => ⟨fun q14 => ((((((z4.2.2.2 q5).2 q6).2 q9).2 q11).2 q12).1 q14), fun q14 => ⟨fun q16 => (((((((z4.2.2.2 q5).2 q6).2 q9).2 q11).2 q12).2 q14).1 q16), fun q16 => ⟨fun q18 => ((((((((z4.2.2.2 q5).2 q6).2 q9).2 q11).2 q12).2 q14).2 q16).1 q18), fun q18 => ⟨fun q20 => (((((((((z4.2.2.2 q5).2 q6).2 q9).2 q11).2 q12).2 q14).2 q16).2 q18).1 q20), fun q20 => ⟨fun q23 => ((((((((((z4.2.2.2 q5).2 q6).2 q9).2 q11).2 q12).2 q14).2 q16).2 q18).2 q20).1 q23), fun q23 => ⟨fun q25 => (((((((((((z4.2.2.2 q5).2 q6).2 q9).2 q11).2 q12).2 q14).2 q16).2 q18).2 q20).2 q23).1 q25), fun q25 => ⟨fun q27 => ((((((((((((z4.2.2.2 q5).2 q6).2 q9).2 q11).2 q12).2 q14).2 q16).2 q18).2 q20).2 q23).2 q25).1 q27), fun q27 => ⟨fun q30 => (((((((((((((z4.2.2.2 q5).2 q6).2 q9).2 q11).2 q12).2 q14).2 q16).2 q18).2 q20).2 q23).2 q25).2 q27).1 q30), fun q30 => (((((((((((((z4.2.2.2 q5).2 q6).2 q9).2 q11).2 q12).2 q14).2 q16).2 q18).2 q20).2 q23).2 q25).2 q27).2 q30)⟩⟩⟩⟩⟩⟩⟩⟩⟩⟩⟩⟩⟩⟩⟩)⟩, fun q3 => ((z1.2 q2).2 q3)⟩⟩))
def T_Bo_note : List pmE := [
  (0, [], .aload 0, 0, 0, 0),
  (1, [], .getfield 3, 0, 22, 304),
  (4, [], .iconst 24, 1, 0, 0),
  (6, [], .if_icmp .ge 19, 0, 0, 0),
  (9, [], .aload 0, 0, 0, 0),
  (10, [], .getfield 2, 0, 19, 303),
  (13, [], .aload 0, 0, 0, 0),
  (14, [], .getfield 3, 0, 22, 304),
  (17, [], .iload 1, 0, 0, 0),
  (18, [], .iastore, 0, 0, 0),
  (19, [], .aload 0, 0, 0, 0),
  (20, [], .dup, 0, 0, 0),
  (21, [], .getfield 3, 0, 22, 304),
  (24, [], .iconst 1, 0, 0, 0),
  (25, [], .iadd, 0, 0, 0),
  (26, [], .putfield 3, 0, 22, 304),
  (29, [], .return_, 0, 0, 0)]
theorem tk_Bo_note : pm_okT M_Bo_note T_Bo_note = true := by decide +kernel
theorem ok_Bo_note : pm_okm M_Bo_note := pm_okm_of _ 908 83 907 25 (by decide +kernel)
set_option maxRecDepth 100000 in
set_option maxHeartbeats 4000000 in
theorem m_Bo_note {d : Nat} {H : pmT} {Q : pmQ} (a1 : Int32)
    (h : ((24 : Int32) ≤ (H.1 31 3) → Q none ((pm_up H.1 31 3 ((H.1 31 3) + (1 : Int32))), H.2)) ∧ (¬ (24 : Int32) ≤ (H.1 31 3) → vp_in (H.1 31 3) 24 ∧ (Q none ((pm_up (pm_up H.1 33 ((H.1 31 3).toNatClampNeg) a1) 31 3 ((H.1 31 3) + (1 : Int32))), H.2)))) : pm_R d M_Bo_note [.ref 31, .int a1] H Q :=
  pm_walk (n := 17) ok_Bo_note tk_Bo_note rfl (Nat.le_of_ble_eq_true rfl) (show ((24 : Int32) ≤ (H.1 31 3) → Q none ((pm_up H.1 31 3 ((H.1 31 3) + (1 : Int32))), H.2)) ∧ (¬ (24 : Int32) ≤ (H.1 31 3) → vp_in (H.1 31 3) 24 ∧ (Q none ((pm_up (pm_up H.1 33 ((H.1 31 3).toNatClampNeg) a1) 31 3 ((H.1 31 3) + (1 : Int32))), H.2))) from ⟨fun q1 => (h.1 q1), fun q1 => ⟨(h.2 q1).1, (h.2 q1).2⟩⟩)
