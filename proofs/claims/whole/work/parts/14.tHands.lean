/-! tables and walks, by program: 14.tHands -/
def T_Ha_add : List pmE := [
  (0, [], .aload 0, 0, 0, 0),
  (1, [], .getfield 192, 0, 9, 109),
  (4, [], .iconst 12, 1, 0, 0),
  (6, [], .if_icmp .lt 12, 0, 0, 0),
  (9, [], .iconst (-3), 1, 0, 0),
  (11, [], .ireturn, 0, 0, 0),
  (12, [], .aload 0, 0, 0, 0),
  (13, [], .getfield 193, 0, 15, 114),
  (16, [], .aload 0, 0, 0, 0),
  (17, [], .getfield 192, 0, 9, 109),
  (20, [], .iload 1, 0, 0, 0),
  (21, [], .iastore, 0, 0, 0),
  (22, [], .aload 0, 0, 0, 0),
  (23, [], .getfield 194, 0, 19, 118),
  (26, [], .aload 0, 0, 0, 0),
  (27, [], .getfield 192, 0, 9, 109),
  (30, [], .iload 2, 0, 0, 0),
  (31, [], .iastore, 0, 0, 0),
  (32, [], .aload 0, 0, 0, 0),
  (33, [], .dup, 0, 0, 0),
  (34, [], .getfield 192, 0, 9, 109),
  (37, [], .iconst 1, 0, 0, 0),
  (38, [], .iadd, 0, 0, 0),
  (39, [], .putfield 192, 0, 9, 109),
  (42, [], .aload 0, 0, 0, 0),
  (43, [], .getfield 192, 0, 9, 109),
  (46, [], .iconst 1, 0, 0, 0),
  (47, [], .isub, 0, 0, 0),
  (48, [], .ireturn, 0, 0, 0)]
theorem tk_Ha_add : pm_okT M_Ha_add T_Ha_add = true := by decide +kernel
theorem ok_Ha_add : pm_okm M_Ha_add := pm_okm_of _ 391 78 389 390 (by decide +kernel)
set_option maxRecDepth 100000 in
set_option maxHeartbeats 4000000 in
theorem m_Ha_add {d : Nat} {H : pmT} {Q : pmQ} (a1 : Int32) (a2 : Int32)
    (h : ((H.1 2 0) < (12 : Int32) → vp_in (H.1 2 0) 12 ∧ (Q (some (.int (((H.1 2 0) + (1 : Int32)) - (1 : Int32)))) ((pm_up (pm_up (pm_up H.1 3 ((H.1 2 0).toNatClampNeg) a1) 4 ((H.1 2 0).toNatClampNeg) a2) 2 0 ((H.1 2 0) + (1 : Int32))), H.2))) ∧ (¬ (H.1 2 0) < (12 : Int32) → Q (some (.int (-3 : Int32))) H)) : pm_R d M_Ha_add [.ref 2, .int a1, .int a2] H Q :=
  pm_walk (n := 27) ok_Ha_add tk_Ha_add rfl (Nat.le_of_ble_eq_true rfl) (show ((H.1 2 0) < (12 : Int32) → vp_in (H.1 2 0) 12 ∧ (vp_in (H.1 2 0) 12 ∧ (Q (some (.int (((H.1 2 0) + (1 : Int32)) - (1 : Int32)))) ((pm_up (pm_up (pm_up H.1 3 ((H.1 2 0).toNatClampNeg) a1) 4 ((H.1 2 0).toNatClampNeg) a2) 2 0 ((H.1 2 0) + (1 : Int32))), H.2)))) ∧ (¬ (H.1 2 0) < (12 : Int32) → Q (some (.int (-3 : Int32))) H) from ⟨fun q1 => ⟨(h.1 q1).1, ⟨(h.1 q1).1, (h.1 q1).2⟩⟩, fun q1 => (h.2 q1)⟩)
def T_Ha_takeAll : List pmE := [
  (0, [], .aload 0, 0, 0, 0),
  (1, [], .aload 1, 0, 0, 0),
  (2, [], .getfield 192, 0, 9, 109),
  (5, [], .putfield 192, 0, 9, 109),
  (8, [], .iconst 0, 0, 0, 0),
  (9, [], .istore 2, 0, 0, 0),
  (10, [0, 1, 2], .iload 2, 0, 0, 0),
  (11, [], .aload 0, 0, 0, 0),
  (12, [], .getfield 192, 0, 9, 109),
  (15, [], .if_icmp .ge 31, 0, 0, 0),
  (18, [], .aload 0, 0, 0, 0),
  (19, [], .iload 2, 0, 0, 0),
  (20, [], .aload 1, 0, 0, 0),
  (21, [], .iload 2, 0, 0, 0),
  (22, [], .invokeinterface 26 272, 0, 31, 560),
  (25, [], .iinc 2 1, 0, 0, 0),
  (28, [], .goto 10, 0, 0, 0),
  (31, [], .return_, 0, 0, 0)]
theorem tk_Ha_takeAll : pm_okT M_Ha_takeAll T_Ha_takeAll = true := by decide +kernel
theorem ok_Ha_takeAll : pm_okm M_Ha_takeAll := pm_okm_of _ 559 78 557 558 (by decide +kernel)
set_option maxRecDepth 100000 in
set_option maxHeartbeats 4000000 in
theorem m_Ha_takeAll_36_2 {d : Nat} {H : pmT} {Q : pmQ} 
    (h : pm_RW none (d + 1) M_Ha_takeAll Q 10 [(0, .ref 36), (1, .ref 2), (2, .int (0 : Int32))] [] ((pm_up H.1 36 0 (H.1 2 0)), H.2)) : pm_R (d + 1) M_Ha_takeAll [.ref 36, .ref 2] H Q :=
  pm_walk (n := 7) ok_Ha_takeAll tk_Ha_takeAll rfl (Nat.le_of_ble_eq_true rfl) (show pm_RW none (d + 1) M_Ha_takeAll Q 10 [(0, .ref 36), (1, .ref 2), (2, .int (0 : Int32))] [] ((pm_up H.1 36 0 (H.1 2 0)), H.2) from h)
set_option maxRecDepth 100000 in
set_option maxHeartbeats 4000000 in
theorem b_Ha_takeAll_36_2_10 {d : Nat} {H : pmT} {Q : pmQ} (v2 : Int32)
    (h : ((H.1 36 0) ≤ v2 → Q none H) ∧ (¬ (H.1 36 0) ≤ v2 → pm_R d M_Ha_takeBar [.ref 36, .int v2, .ref 2, .int v2] H (pm_v (fun H1 => pm_RW none (d + 1) M_Ha_takeAll Q 10 [(0, .ref 36), (1, .ref 2), (2, .int (v2 + (1 : Int32)))] [] H1)))) : pm_RW none (d + 1) M_Ha_takeAll Q 10 [(0, .ref 36), (1, .ref 2), (2, .int v2)] [] H :=
  pm_body tk_Ha_takeAll 11 10 (show ((H.1 36 0) ≤ v2 → Q none H) ∧ (¬ (H.1 36 0) ≤ v2 → pm_R d M_Ha_takeBar [.ref 36, .int v2, .ref 2, .int v2] H (pm_v (fun H1 => pm_RW none (d + 1) M_Ha_takeAll Q 10 [(0, .ref 36), (1, .ref 2), (2, .int (v2 + (1 : Int32)))] [] H1))) from ⟨fun q1 => (h.1 q1), fun q1 => (h.2 q1)⟩)
set_option maxRecDepth 100000 in
set_option maxHeartbeats 4000000 in
theorem m_Ha_takeAll_8_2 {d : Nat} {H : pmT} {Q : pmQ} 
    (h : pm_RW none (d + 1) M_Ha_takeAll Q 10 [(0, .ref 8), (1, .ref 2), (2, .int (0 : Int32))] [] ((pm_up H.1 8 0 (H.1 2 0)), H.2)) : pm_R (d + 1) M_Ha_takeAll [.ref 8, .ref 2] H Q :=
  pm_walk (n := 7) ok_Ha_takeAll tk_Ha_takeAll rfl (Nat.le_of_ble_eq_true rfl) (show pm_RW none (d + 1) M_Ha_takeAll Q 10 [(0, .ref 8), (1, .ref 2), (2, .int (0 : Int32))] [] ((pm_up H.1 8 0 (H.1 2 0)), H.2) from h)
set_option maxRecDepth 100000 in
set_option maxHeartbeats 4000000 in
theorem b_Ha_takeAll_8_2_10 {d : Nat} {H : pmT} {Q : pmQ} (v2 : Int32)
    (h : ((H.1 8 0) ≤ v2 → Q none H) ∧ (¬ (H.1 8 0) ≤ v2 → pm_R d M_Ha_takeBar [.ref 8, .int v2, .ref 2, .int v2] H (pm_v (fun H1 => pm_RW none (d + 1) M_Ha_takeAll Q 10 [(0, .ref 8), (1, .ref 2), (2, .int (v2 + (1 : Int32)))] [] H1)))) : pm_RW none (d + 1) M_Ha_takeAll Q 10 [(0, .ref 8), (1, .ref 2), (2, .int v2)] [] H :=
  pm_body tk_Ha_takeAll 11 10 (show ((H.1 8 0) ≤ v2 → Q none H) ∧ (¬ (H.1 8 0) ≤ v2 → pm_R d M_Ha_takeBar [.ref 8, .int v2, .ref 2, .int v2] H (pm_v (fun H1 => pm_RW none (d + 1) M_Ha_takeAll Q 10 [(0, .ref 8), (1, .ref 2), (2, .int (v2 + (1 : Int32)))] [] H1))) from ⟨fun q1 => (h.1 q1), fun q1 => (h.2 q1)⟩)
def T_Ha_takeBar : List pmE := [
  (0, [], .aload 0, 0, 0, 0),
  (1, [], .getfield 195, 0, 22, 123),
  (4, [], .iload 1, 0, 0, 0),
  (5, [], .aload 2, 0, 0, 0),
  (6, [], .getfield 195, 0, 22, 123),
  (9, [], .iload 3, 0, 0, 0),
  (10, [], .iaload, 0, 0, 0),
  (11, [], .iastore, 0, 0, 0),
  (12, [], .aload 0, 0, 0, 0),
  (13, [], .iload 1, 0, 0, 0),
  (14, [], .aload 2, 0, 0, 0),
  (15, [], .iload 3, 0, 0, 0),
  (16, [], .invokeinterface 27 272, 0, 35, 564),
  (19, [], .return_, 0, 0, 0)]
theorem tk_Ha_takeBar : pm_okT M_Ha_takeBar T_Ha_takeBar = true := by decide +kernel
theorem ok_Ha_takeBar : pm_okm M_Ha_takeBar := pm_okm_of _ 563 78 561 562 (by decide +kernel)
set_option maxRecDepth 100000 in
set_option maxHeartbeats 4000000 in
theorem m_Ha_takeBar_8_2 {d : Nat} {H : pmT} {Q : pmQ} (a1 : Int32) (a3 : Int32)
    (h : vp_in a3 12 ∧ (vp_in a1 12 ∧ (Q none ((pm_up (pm_up (pm_up (pm_up (pm_up H.1 11 a1.toNatClampNeg (H.1 5 a3.toNatClampNeg)) 9 a1.toNatClampNeg (H.1 3 a3.toNatClampNeg)) 10 a1.toNatClampNeg (H.1 4 a3.toNatClampNeg)) 12 a1.toNatClampNeg (H.1 6 a3.toNatClampNeg)) 13 a1.toNatClampNeg (H.1 7 a3.toNatClampNeg)), H.2)))) : pm_R (d + 1) M_Ha_takeBar [.ref 8, .int a1, .ref 2, .int a3] H Q :=
  pm_walk (n := 14) ok_Ha_takeBar tk_Ha_takeBar rfl (Nat.le_of_ble_eq_true rfl) (show vp_in a3 12 ∧ (vp_in a1 12 ∧ (pm_R d M_Ha_takeFingers [.ref 8, .int a1, .ref 2, .int a3] ((pm_up H.1 11 a1.toNatClampNeg (H.1 5 a3.toNatClampNeg)), H.2) (pm_v (fun H1 => Q none H1)))) from ⟨h.1, ⟨h.2.1, u_Ha_takeFingers_8_2 a1 a3 (⟨h.1, ⟨h.2.1, ⟨h.1, ⟨h.2.1, ⟨h.1, ⟨h.2.1, ⟨h.1, ⟨h.2.1, h.2.2⟩⟩⟩⟩⟩⟩⟩⟩)⟩⟩)
set_option maxRecDepth 100000 in
set_option maxHeartbeats 4000000 in
theorem m_Ha_takeBar_36_2 {d : Nat} {H : pmT} {Q : pmQ} (a1 : Int32) (a3 : Int32)
    (h : vp_in a3 12 ∧ (vp_in a1 12 ∧ (Q none ((pm_up (pm_up (pm_up (pm_up (pm_up H.1 39 a1.toNatClampNeg (H.1 5 a3.toNatClampNeg)) 37 a1.toNatClampNeg (H.1 3 a3.toNatClampNeg)) 38 a1.toNatClampNeg (H.1 4 a3.toNatClampNeg)) 40 a1.toNatClampNeg (H.1 6 a3.toNatClampNeg)) 41 a1.toNatClampNeg (H.1 7 a3.toNatClampNeg)), H.2)))) : pm_R (d + 1) M_Ha_takeBar [.ref 36, .int a1, .ref 2, .int a3] H Q :=
  pm_walk (n := 14) ok_Ha_takeBar tk_Ha_takeBar rfl (Nat.le_of_ble_eq_true rfl) (show vp_in a3 12 ∧ (vp_in a1 12 ∧ (pm_R d M_Ha_takeFingers [.ref 36, .int a1, .ref 2, .int a3] ((pm_up H.1 39 a1.toNatClampNeg (H.1 5 a3.toNatClampNeg)), H.2) (pm_v (fun H1 => Q none H1)))) from ⟨h.1, ⟨h.2.1, u_Ha_takeFingers_36_2 a1 a3 (⟨h.1, ⟨h.2.1, ⟨h.1, ⟨h.2.1, ⟨h.1, ⟨h.2.1, ⟨h.1, ⟨h.2.1, h.2.2⟩⟩⟩⟩⟩⟩⟩⟩)⟩⟩)
set_option maxRecDepth 100000 in
set_option maxHeartbeats 4000000 in
theorem m_Ha_takeBar_8_8 {d : Nat} {H : pmT} {Q : pmQ} (a1 : Int32) (a3 : Int32)
    (h : vp_in a3 12 ∧ (vp_in a1 12 ∧ (Q none ((pm_up (pm_up (pm_up (pm_up (pm_up H.1 11 a1.toNatClampNeg (H.1 11 a3.toNatClampNeg)) 9 a1.toNatClampNeg (H.1 9 a3.toNatClampNeg)) 10 a1.toNatClampNeg (H.1 10 a3.toNatClampNeg)) 12 a1.toNatClampNeg (H.1 12 a3.toNatClampNeg)) 13 a1.toNatClampNeg (H.1 13 a3.toNatClampNeg)), H.2)))) : pm_R (d + 1) M_Ha_takeBar [.ref 8, .int a1, .ref 8, .int a3] H Q :=
  pm_walk (n := 14) ok_Ha_takeBar tk_Ha_takeBar rfl (Nat.le_of_ble_eq_true rfl) (show vp_in a3 12 ∧ (vp_in a1 12 ∧ (pm_R d M_Ha_takeFingers [.ref 8, .int a1, .ref 8, .int a3] ((pm_up H.1 11 a1.toNatClampNeg (H.1 11 a3.toNatClampNeg)), H.2) (pm_v (fun H1 => Q none H1)))) from ⟨h.1, ⟨h.2.1, u_Ha_takeFingers_8_8 a1 a3 (⟨h.1, ⟨h.2.1, ⟨h.1, ⟨h.2.1, ⟨h.1, ⟨h.2.1, ⟨h.1, ⟨h.2.1, h.2.2⟩⟩⟩⟩⟩⟩⟩⟩)⟩⟩)
def T_Ha_layBack : List pmE := [
  (0, [], .iconst 0, 0, 0, 0),
  (1, [], .istore 2, 0, 0, 0),
  (2, [0, 1, 2], .iload 2, 0, 0, 0),
  (3, [], .aload 1, 0, 0, 0),
  (4, [], .getfield 192, 0, 9, 109),
  (7, [], .if_icmp .ge 23, 0, 0, 0),
  (10, [], .aload 0, 0, 0, 0),
  (11, [], .iload 2, 0, 0, 0),
  (12, [], .aload 1, 0, 0, 0),
  (13, [], .iload 2, 0, 0, 0),
  (14, [], .invokeinterface 27 272, 0, 35, 564),
  (17, [], .iinc 2 1, 0, 0, 0),
  (20, [], .goto 2, 0, 0, 0),
  (23, [], .return_, 0, 0, 0)]
theorem tk_Ha_layBack : pm_okT M_Ha_layBack T_Ha_layBack = true := by decide +kernel
theorem ok_Ha_layBack : pm_okm M_Ha_layBack := pm_okm_of _ 856 78 854 855 (by decide +kernel)
set_option maxRecDepth 100000 in
set_option maxHeartbeats 4000000 in
theorem m_Ha_layBack {d : Nat} {H : pmT} {Q : pmQ} 
    (h : pm_RW none (d + 1) M_Ha_layBack Q 2 [(0, .ref 2), (1, .ref 36), (2, .int (0 : Int32))] [] H) : pm_R (d + 1) M_Ha_layBack [.ref 2, .ref 36] H Q :=
  pm_walk (n := 3) ok_Ha_layBack tk_Ha_layBack rfl (Nat.le_of_ble_eq_true rfl) (show pm_RW none (d + 1) M_Ha_layBack Q 2 [(0, .ref 2), (1, .ref 36), (2, .int (0 : Int32))] [] H from h)
set_option maxRecDepth 100000 in
set_option maxHeartbeats 4000000 in
theorem b_Ha_layBack_2 {d : Nat} {H : pmT} {Q : pmQ} (v2 : Int32)
    (h : ((H.1 36 0) ≤ v2 → Q none H) ∧ (¬ (H.1 36 0) ≤ v2 → vp_in v2 12 ∧ (pm_RW none (d + 1) M_Ha_layBack Q 2 [(0, .ref 2), (1, .ref 36), (2, .int (v2 + (1 : Int32)))] [] ((pm_up (pm_up (pm_up (pm_up H.1 3 v2.toNatClampNeg (H.1 37 v2.toNatClampNeg)) 4 v2.toNatClampNeg (H.1 38 v2.toNatClampNeg)) 6 v2.toNatClampNeg (H.1 40 v2.toNatClampNeg)) 7 v2.toNatClampNeg (H.1 41 v2.toNatClampNeg)), H.2)))) : pm_RW none (d + 1) M_Ha_layBack Q 2 [(0, .ref 2), (1, .ref 36), (2, .int v2)] [] H :=
  pm_body tk_Ha_layBack 11 2 (show ((H.1 36 0) ≤ v2 → Q none H) ∧ (¬ (H.1 36 0) ≤ v2 → pm_R d M_Ha_takeFingers [.ref 2, .int v2, .ref 36, .int v2] H (pm_v (fun H1 => pm_RW none (d + 1) M_Ha_layBack Q 2 [(0, .ref 2), (1, .ref 36), (2, .int (v2 + (1 : Int32)))] [] H1))) from ⟨fun q1 => (h.1 q1), fun q1 => u_Ha_takeFingers_2_36 v2 v2 (⟨(h.2 q1).1, ⟨(h.2 q1).1, ⟨(h.2 q1).1, ⟨(h.2 q1).1, ⟨(h.2 q1).1, ⟨(h.2 q1).1, ⟨(h.2 q1).1, ⟨(h.2 q1).1, (h.2 q1).2⟩⟩⟩⟩⟩⟩⟩⟩)⟩)
def T_Ha_learn : List pmE := [
  (0, [], .iload 2, 0, 0, 0),
  (1, [], .iconst 1, 0, 0, 0),
  (2, [], .if_icmp .ne 28, 0, 0, 0),
  (5, [], .aload 0, 0, 0, 0),
  (6, [], .getfield 193, 0, 15, 114),
  (9, [], .iload 1, 0, 0, 0),
  (10, [], .iconst 999, 2, 0, 0),
  (13, [], .aload 0, 0, 0, 0),
  (14, [], .getfield 193, 0, 15, 114),
  (17, [], .iload 1, 0, 0, 0),
  (18, [], .iaload, 0, 0, 0),
  (19, [], .iload 3, 0, 0, 0),
  (20, [], .iadd, 0, 0, 0),
  (21, [], .fsub, 0, 38, 604),
  (24, [], .iastore, 0, 0, 0),
  (25, [], .goto 48, 0, 0, 0),
  (28, [], .aload 0, 0, 0, 0),
  (29, [], .getfield 194, 0, 19, 118),
  (32, [], .iload 1, 0, 0, 0),
  (33, [], .iconst 999, 2, 0, 0),
  (36, [], .aload 0, 0, 0, 0),
  (37, [], .getfield 194, 0, 19, 118),
  (40, [], .iload 1, 0, 0, 0),
  (41, [], .iaload, 0, 0, 0),
  (42, [], .iload 3, 0, 0, 0),
  (43, [], .iadd, 0, 0, 0),
  (44, [], .fsub, 0, 38, 604),
  (47, [], .iastore, 0, 0, 0),
  (48, [], .return_, 0, 0, 0)]
theorem tk_Ha_learn : pm_okT M_Ha_learn T_Ha_learn = true := by decide +kernel
theorem ok_Ha_learn : pm_okm M_Ha_learn := pm_okm_of _ 603 78 601 602 (by decide +kernel)
set_option maxRecDepth 100000 in
set_option maxHeartbeats 4000000 in
theorem m_Ha_learn_8 {d : Nat} {H : pmT} {Q : pmQ} (a1 : Int32) (a2 : Int32) (a3 : Int32)
    (h : (¬ a2 = (1 : Int32) → vp_in a1 12 ∧ (Q none ((pm_up H.1 10 a1.toNatClampNeg (pm_min (999 : Int32) ((H.1 10 a1.toNatClampNeg) + a3))), H.2))) ∧ (a2 = (1 : Int32) → vp_in a1 12 ∧ (Q none ((pm_up H.1 9 a1.toNatClampNeg (pm_min (999 : Int32) ((H.1 9 a1.toNatClampNeg) + a3))), H.2)))) : pm_R (d + 1) M_Ha_learn [.ref 8, .int a1, .int a2, .int a3] H Q :=
  pm_walk (n := 17) ok_Ha_learn tk_Ha_learn rfl (Nat.le_of_ble_eq_true rfl) (show (¬ a2 = (1 : Int32) → vp_in a1 12 ∧ (vp_in a1 12 ∧ (Q none ((pm_up H.1 10 a1.toNatClampNeg (pm_min (999 : Int32) ((H.1 10 a1.toNatClampNeg) + a3))), H.2)))) ∧ (a2 = (1 : Int32) → vp_in a1 12 ∧ (vp_in a1 12 ∧ (Q none ((pm_up H.1 9 a1.toNatClampNeg (pm_min (999 : Int32) ((H.1 9 a1.toNatClampNeg) + a3))), H.2)))) from ⟨fun q1 => ⟨(h.1 q1).1, ⟨(h.1 q1).1, (h.1 q1).2⟩⟩, fun q1 => ⟨(h.2 q1).1, ⟨(h.2 q1).1, (h.2 q1).2⟩⟩⟩)
set_option maxRecDepth 100000 in
set_option maxHeartbeats 4000000 in
theorem m_Ha_learn_2 {d : Nat} {H : pmT} {Q : pmQ} (a1 : Int32) (a2 : Int32) (a3 : Int32)
    (h : (¬ a2 = (1 : Int32) → vp_in a1 12 ∧ (Q none ((pm_up H.1 4 a1.toNatClampNeg (pm_min (999 : Int32) ((H.1 4 a1.toNatClampNeg) + a3))), H.2))) ∧ (a2 = (1 : Int32) → vp_in a1 12 ∧ (Q none ((pm_up H.1 3 a1.toNatClampNeg (pm_min (999 : Int32) ((H.1 3 a1.toNatClampNeg) + a3))), H.2)))) : pm_R (d + 1) M_Ha_learn [.ref 2, .int a1, .int a2, .int a3] H Q :=
  pm_walk (n := 17) ok_Ha_learn tk_Ha_learn rfl (Nat.le_of_ble_eq_true rfl) (show (¬ a2 = (1 : Int32) → vp_in a1 12 ∧ (vp_in a1 12 ∧ (Q none ((pm_up H.1 4 a1.toNatClampNeg (pm_min (999 : Int32) ((H.1 4 a1.toNatClampNeg) + a3))), H.2)))) ∧ (a2 = (1 : Int32) → vp_in a1 12 ∧ (vp_in a1 12 ∧ (Q none ((pm_up H.1 3 a1.toNatClampNeg (pm_min (999 : Int32) ((H.1 3 a1.toNatClampNeg) + a3))), H.2)))) from ⟨fun q1 => ⟨(h.1 q1).1, ⟨(h.1 q1).1, (h.1 q1).2⟩⟩, fun q1 => ⟨(h.2 q1).1, ⟨(h.2 q1).1, (h.2 q1).2⟩⟩⟩)
def T_Ha_lessonBits : List pmE := [
  (0, [], .iconst 0, 0, 0, 0),
  (1, [], .istore 1, 0, 0, 0),
  (2, [], .iconst 0, 0, 0, 0),
  (3, [], .istore 2, 0, 0, 0),
  (4, [0, 1, 2], .iload 2, 0, 0, 0),
  (5, [], .aload 0, 0, 0, 0),
  (6, [], .getfield 192, 0, 9, 109),
  (9, [], .if_icmp .ge 32, 0, 0, 0),
  (12, [], .aload 0, 0, 0, 0),
  (13, [], .iload 2, 0, 0, 0),
  (14, [], .invokeinterface 30 265, 0, 44, 621),
  (17, [], .ifCond .le 26, 0, 0, 0),
  (20, [], .iload 1, 0, 0, 0),
  (21, [], .iconst 1, 0, 0, 0),
  (22, [], .iload 2, 0, 0, 0),
  (23, [], .ishl, 0, 0, 0),
  (24, [], .ior, 0, 0, 0),
  (25, [], .istore 1, 0, 0, 0),
  (26, [], .iinc 2 1, 0, 0, 0),
  (29, [], .goto 4, 0, 0, 0),
  (32, [], .iload 1, 0, 0, 0),
  (33, [], .ireturn, 0, 0, 0)]
theorem tk_Ha_lessonBits : pm_okT M_Ha_lessonBits T_Ha_lessonBits = true := by decide +kernel
theorem ok_Ha_lessonBits : pm_okm M_Ha_lessonBits := pm_okm_of _ 620 78 618 619 (by decide +kernel)
set_option maxRecDepth 100000 in
set_option maxHeartbeats 4000000 in
theorem m_Ha_lessonBits_8 {d : Nat} {H : pmT} {Q : pmQ} 
    (h : pm_RW none (d + 1) M_Ha_lessonBits Q 4 [(0, .ref 8), (1, .int (0 : Int32)), (2, .int (0 : Int32))] [] H) : pm_R (d + 1) M_Ha_lessonBits [.ref 8] H Q :=
  pm_walk (n := 5) ok_Ha_lessonBits tk_Ha_lessonBits rfl (Nat.le_of_ble_eq_true rfl) (show pm_RW none (d + 1) M_Ha_lessonBits Q 4 [(0, .ref 8), (1, .int (0 : Int32)), (2, .int (0 : Int32))] [] H from h)
set_option maxRecDepth 100000 in
set_option maxHeartbeats 4000000 in
theorem b_Ha_lessonBits_8_4 {d : Nat} {H : pmT} {Q : pmQ} (v1 : Int32) (v2 : Int32)
    (h : ((H.1 8 0) ≤ v2 → Q (some (.int v1)) H) ∧ (¬ (H.1 8 0) ≤ v2 → vp_in v2 12 ∧ ((((H.1 9 v2.toNatClampNeg) - (H.1 10 v2.toNatClampNeg)) ≤ 0 → pm_RW none (d + 1) M_Ha_lessonBits Q 4 [(0, .ref 8), (1, .int v1), (2, .int (v2 + (1 : Int32)))] [] H) ∧ (¬ ((H.1 9 v2.toNatClampNeg) - (H.1 10 v2.toNatClampNeg)) ≤ 0 → pm_RW none (d + 1) M_Ha_lessonBits Q 4 [(0, .ref 8), (1, .int (v1 ||| ((1 : Int32) <<< (v2 &&& 31)))), (2, .int (v2 + (1 : Int32)))] [] H)))) : pm_RW none (d + 1) M_Ha_lessonBits Q 4 [(0, .ref 8), (1, .int v1), (2, .int v2)] [] H :=
  pm_body tk_Ha_lessonBits 16 4 (show ((H.1 8 0) ≤ v2 → Q (some (.int v1)) H) ∧ (¬ (H.1 8 0) ≤ v2 → pm_R d M_Ha_lead [.ref 8, .int v2] H (pm_i (fun x2 H1 => (x2 ≤ 0 → pm_RW none (d + 1) M_Ha_lessonBits Q 4 [(0, .ref 8), (1, .int v1), (2, .int (v2 + (1 : Int32)))] [] H1) ∧ (¬ x2 ≤ 0 → pm_RW none (d + 1) M_Ha_lessonBits Q 4 [(0, .ref 8), (1, .int (v1 ||| ((1 : Int32) <<< (v2 &&& 31)))), (2, .int (v2 + (1 : Int32)))] [] H1)))) from ⟨fun q1 => (h.1 q1), fun q1 => u_Ha_lead_8 v2 (⟨(h.2 q1).1, ⟨(h.2 q1).1, ⟨fun q2 => ((h.2 q1).2.1 q2), fun q2 => ((h.2 q1).2.2 q2)⟩⟩⟩)⟩)
set_option maxRecDepth 100000 in
set_option maxHeartbeats 4000000 in
theorem m_Ha_lessonBits_2 {d : Nat} {H : pmT} {Q : pmQ} 
    (h : pm_RW none (d + 1) M_Ha_lessonBits Q 4 [(0, .ref 2), (1, .int (0 : Int32)), (2, .int (0 : Int32))] [] H) : pm_R (d + 1) M_Ha_lessonBits [.ref 2] H Q :=
  pm_walk (n := 5) ok_Ha_lessonBits tk_Ha_lessonBits rfl (Nat.le_of_ble_eq_true rfl) (show pm_RW none (d + 1) M_Ha_lessonBits Q 4 [(0, .ref 2), (1, .int (0 : Int32)), (2, .int (0 : Int32))] [] H from h)
set_option maxRecDepth 100000 in
set_option maxHeartbeats 4000000 in
theorem b_Ha_lessonBits_2_4 {d : Nat} {H : pmT} {Q : pmQ} (v1 : Int32) (v2 : Int32)
    (h : ((H.1 2 0) ≤ v2 → Q (some (.int v1)) H) ∧ (¬ (H.1 2 0) ≤ v2 → vp_in v2 12 ∧ ((((H.1 3 v2.toNatClampNeg) - (H.1 4 v2.toNatClampNeg)) ≤ 0 → pm_RW none (d + 1) M_Ha_lessonBits Q 4 [(0, .ref 2), (1, .int v1), (2, .int (v2 + (1 : Int32)))] [] H) ∧ (¬ ((H.1 3 v2.toNatClampNeg) - (H.1 4 v2.toNatClampNeg)) ≤ 0 → pm_RW none (d + 1) M_Ha_lessonBits Q 4 [(0, .ref 2), (1, .int (v1 ||| ((1 : Int32) <<< (v2 &&& 31)))), (2, .int (v2 + (1 : Int32)))] [] H)))) : pm_RW none (d + 1) M_Ha_lessonBits Q 4 [(0, .ref 2), (1, .int v1), (2, .int v2)] [] H :=
  pm_body tk_Ha_lessonBits 16 4 (show ((H.1 2 0) ≤ v2 → Q (some (.int v1)) H) ∧ (¬ (H.1 2 0) ≤ v2 → pm_R d M_Ha_lead [.ref 2, .int v2] H (pm_i (fun x2 H1 => (x2 ≤ 0 → pm_RW none (d + 1) M_Ha_lessonBits Q 4 [(0, .ref 2), (1, .int v1), (2, .int (v2 + (1 : Int32)))] [] H1) ∧ (¬ x2 ≤ 0 → pm_RW none (d + 1) M_Ha_lessonBits Q 4 [(0, .ref 2), (1, .int (v1 ||| ((1 : Int32) <<< (v2 &&& 31)))), (2, .int (v2 + (1 : Int32)))] [] H1)))) from ⟨fun q1 => (h.1 q1), fun q1 => u_Ha_lead_2 v2 (⟨(h.2 q1).1, ⟨(h.2 q1).1, ⟨fun q2 => ((h.2 q1).2.1 q2), fun q2 => ((h.2 q1).2.2 q2)⟩⟩⟩)⟩)
def T_Ha_lessonCount : List pmE := [
  (0, [], .aload 0, 0, 0, 0),
  (1, [], .invokeinterface 31 261, 0, 48, 617),
  (4, [], .invokeinterface 245 5, 1, 52, 625),
  (7, [], .ireturn, 0, 0, 0)]
theorem tk_Ha_lessonCount : pm_okT M_Ha_lessonCount T_Ha_lessonCount = true := by decide +kernel
theorem ok_Ha_lessonCount : pm_okm M_Ha_lessonCount := pm_okm_of _ 616 78 614 615 (by decide +kernel)
set_option maxRecDepth 100000 in
set_option maxHeartbeats 4000000 in
theorem m_Ha_lessonCount_8 {d : Nat} {H : pmT} {Q : pmQ} 
    (h : pm_R d M_Ha_lessonBits [.ref 8] H (pm_i (fun x2 H1 => pm_R d M_Jn_bitCount [.int x2] H1 (pm_i (fun x4 H3 => Q (some (.int x4)) H3))))) : pm_R (d + 1) M_Ha_lessonCount [.ref 8] H Q :=
  pm_walk (n := 4) ok_Ha_lessonCount tk_Ha_lessonCount rfl (Nat.le_of_ble_eq_true rfl) (show pm_R d M_Ha_lessonBits [.ref 8] H (pm_i (fun x2 H1 => pm_R d M_Jn_bitCount [.int x2] H1 (pm_i (fun x4 H3 => Q (some (.int x4)) H3)))) from h)
set_option maxRecDepth 100000 in
set_option maxHeartbeats 4000000 in
theorem m_Ha_lessonCount_2 {d : Nat} {H : pmT} {Q : pmQ} 
    (h : pm_R d M_Ha_lessonBits [.ref 2] H (pm_i (fun x2 H1 => pm_R d M_Jn_bitCount [.int x2] H1 (pm_i (fun x4 H3 => Q (some (.int x4)) H3))))) : pm_R (d + 1) M_Ha_lessonCount [.ref 2] H Q :=
  pm_walk (n := 4) ok_Ha_lessonCount tk_Ha_lessonCount rfl (Nat.le_of_ble_eq_true rfl) (show pm_R d M_Ha_lessonBits [.ref 2] H (pm_i (fun x2 H1 => pm_R d M_Jn_bitCount [.int x2] H1 (pm_i (fun x4 H3 => Q (some (.int x4)) H3)))) from h)
def T_Ha_firstSlip : List pmE := [
  (0, [], .iconst 0, 0, 0, 0),
  (1, [], .istore 1, 0, 0, 0),
  (2, [0, 1], .iload 1, 0, 0, 0),
  (3, [], .aload 0, 0, 0, 0),
  (4, [], .getfield 192, 0, 9, 109),
  (7, [], .if_icmp .ge 26, 0, 0, 0),
  (10, [], .aload 0, 0, 0, 0),
  (11, [], .iload 1, 0, 0, 0),
  (12, [], .invokeinterface 30 265, 0, 44, 621),
  (15, [], .ifCond .gt 20, 0, 0, 0),
  (18, [], .iload 1, 0, 0, 0),
  (19, [], .ireturn, 0, 0, 0),
  (20, [], .iinc 1 1, 0, 0, 0),
  (23, [], .goto 2, 0, 0, 0),
  (26, [], .iconst (-2), 1, 0, 0),
  (28, [], .ireturn, 0, 0, 0)]
theorem tk_Ha_firstSlip : pm_okT M_Ha_firstSlip T_Ha_firstSlip = true := by decide +kernel
theorem ok_Ha_firstSlip : pm_okm M_Ha_firstSlip := pm_okm_of _ 635 78 633 634 (by decide +kernel)
set_option maxRecDepth 100000 in
set_option maxHeartbeats 4000000 in
theorem m_Ha_firstSlip {d : Nat} {H : pmT} {Q : pmQ} 
    (h : pm_RW none (d + 1) M_Ha_firstSlip Q 2 [(0, .ref 8), (1, .int (0 : Int32))] [] H) : pm_R (d + 1) M_Ha_firstSlip [.ref 8] H Q :=
  pm_walk (n := 3) ok_Ha_firstSlip tk_Ha_firstSlip rfl (Nat.le_of_ble_eq_true rfl) (show pm_RW none (d + 1) M_Ha_firstSlip Q 2 [(0, .ref 8), (1, .int (0 : Int32))] [] H from h)
set_option maxRecDepth 100000 in
set_option maxHeartbeats 4000000 in
theorem b_Ha_firstSlip_2 {d : Nat} {H : pmT} {Q : pmQ} (v1 : Int32)
    (h : ((H.1 8 0) ≤ v1 → Q (some (.int (-2 : Int32))) H) ∧ (¬ (H.1 8 0) ≤ v1 → vp_in v1 12 ∧ ((0 < ((H.1 9 v1.toNatClampNeg) - (H.1 10 v1.toNatClampNeg)) → pm_RW none (d + 1) M_Ha_firstSlip Q 2 [(0, .ref 8), (1, .int (v1 + (1 : Int32)))] [] H) ∧ (¬ 0 < ((H.1 9 v1.toNatClampNeg) - (H.1 10 v1.toNatClampNeg)) → Q (some (.int v1)) H)))) : pm_RW none (d + 1) M_Ha_firstSlip Q 2 [(0, .ref 8), (1, .int v1)] [] H :=
  pm_body tk_Ha_firstSlip 10 2 (show ((H.1 8 0) ≤ v1 → Q (some (.int (-2 : Int32))) H) ∧ (¬ (H.1 8 0) ≤ v1 → pm_R d M_Ha_lead [.ref 8, .int v1] H (pm_i (fun x2 H1 => (0 < x2 → pm_RW none (d + 1) M_Ha_firstSlip Q 2 [(0, .ref 8), (1, .int (v1 + (1 : Int32)))] [] H1) ∧ (¬ 0 < x2 → Q (some (.int v1)) H1)))) from ⟨fun q1 => (h.1 q1), fun q1 => u_Ha_lead_8 v1 (⟨(h.2 q1).1, ⟨(h.2 q1).1, ⟨fun q2 => ((h.2 q1).2.1 q2), fun q2 => ((h.2 q1).2.2 q2)⟩⟩⟩)⟩)
def T_Ha_drawnRight : List pmE := [
  (0, [], .aload 0, 0, 0, 0),
  (1, [], .getfield 193, 0, 15, 114),
  (4, [], .iload 1, 0, 0, 0),
  (5, [], .iaload, 0, 0, 0),
  (6, [], .aload 0, 0, 0, 0),
  (7, [], .getfield 194, 0, 19, 118),
  (10, [], .iload 1, 0, 0, 0),
  (11, [], .iaload, 0, 0, 0),
  (12, [], .iadd, 0, 0, 0),
  (13, [], .istore 3, 0, 0, 0),
  (14, [], .iload 3, 0, 0, 0),
  (15, [], .ifCond .ne 33, 0, 0, 0),
  (18, [], .iload 2, 0, 0, 0),
  (19, [], .iconst 2, 0, 0, 0),
  (20, [], .irem, 0, 0, 0),
  (21, [], .iconst 1, 0, 0, 0),
  (22, [], .if_icmp .ge 29, 0, 0, 0),
  (25, [], .iconst 1, 0, 0, 0),
  (26, [], .goto 50, 0, 0, 0),
  (29, [], .iconst 0, 0, 0, 0),
  (30, [], .goto 50, 0, 0, 0),
  (33, [], .iload 2, 0, 0, 0),
  (34, [], .iload 3, 0, 0, 0),
  (35, [], .irem, 0, 0, 0),
  (36, [], .aload 0, 0, 0, 0),
  (37, [], .getfield 193, 0, 15, 114),
  (40, [], .iload 1, 0, 0, 0),
  (41, [], .iaload, 0, 0, 0),
  (42, [], .if_icmp .ge 49, 0, 0, 0),
  (45, [], .iconst 1, 0, 0, 0),
  (46, [], .goto 50, 0, 0, 0),
  (49, [], .iconst 0, 0, 0, 0),
  (50, [], .istore 4, 1, 0, 0),
  (52, [], .iload 4, 1, 0, 0),
  (54, [], .ifCond .eq 61, 0, 0, 0),
  (57, [], .iconst 1, 0, 0, 0),
  (58, [], .goto 62, 0, 0, 0),
  (61, [], .iconst 0, 0, 0, 0),
  (62, [], .ireturn, 0, 0, 0)]
theorem tk_Ha_drawnRight : pm_okT M_Ha_drawnRight T_Ha_drawnRight = true := by decide +kernel
theorem ok_Ha_drawnRight : pm_okm M_Ha_drawnRight := pm_okm_of _ 822 78 820 821 (by decide +kernel)
set_option maxRecDepth 100000 in
set_option maxHeartbeats 4000000 in
theorem m_Ha_drawnRight {d : Nat} {H : pmT} {Q : pmQ} (a1 : Int32) (a2 : Int32)
    (h : vp_in a1 12 ∧ ((¬ ((H.1 3 a1.toNatClampNeg) + (H.1 4 a1.toNatClampNeg)) = 0 → ((H.1 3 a1.toNatClampNeg) ≤ (a2 - a2 / ((H.1 3 a1.toNatClampNeg) + (H.1 4 a1.toNatClampNeg)) * ((H.1 3 a1.toNatClampNeg) + (H.1 4 a1.toNatClampNeg))) → Q (some (.int (0 : Int32))) H) ∧ (¬ (H.1 3 a1.toNatClampNeg) ≤ (a2 - a2 / ((H.1 3 a1.toNatClampNeg) + (H.1 4 a1.toNatClampNeg)) * ((H.1 3 a1.toNatClampNeg) + (H.1 4 a1.toNatClampNeg))) → Q (some (.int (1 : Int32))) H)) ∧ (((H.1 3 a1.toNatClampNeg) + (H.1 4 a1.toNatClampNeg)) = 0 → ((1 : Int32) ≤ (a2 - a2 / (2 : Int32) * (2 : Int32)) → Q (some (.int (0 : Int32))) H) ∧ (¬ (1 : Int32) ≤ (a2 - a2 / (2 : Int32) * (2 : Int32)) → Q (some (.int (1 : Int32))) H)))) : pm_R d M_Ha_drawnRight [.ref 2, .int a1, .int a2] H Q :=
  pm_walk (n := 28) ok_Ha_drawnRight tk_Ha_drawnRight rfl (Nat.le_of_ble_eq_true rfl) (show vp_in a1 12 ∧ (vp_in a1 12 ∧ ((¬ ((H.1 3 a1.toNatClampNeg) + (H.1 4 a1.toNatClampNeg)) = 0 → ¬ ((H.1 3 a1.toNatClampNeg) + (H.1 4 a1.toNatClampNeg)) = 0 ∧ (vp_in a1 12 ∧ (((H.1 3 a1.toNatClampNeg) ≤ (a2 - a2 / ((H.1 3 a1.toNatClampNeg) + (H.1 4 a1.toNatClampNeg)) * ((H.1 3 a1.toNatClampNeg) + (H.1 4 a1.toNatClampNeg))) → ((0 : Int32) = 0 → Q (some (.int (0 : Int32))) H) ∧ (¬ (0 : Int32) = 0 → Q (some (.int (1 : Int32))) H)) ∧ (¬ (H.1 3 a1.toNatClampNeg) ≤ (a2 - a2 / ((H.1 3 a1.toNatClampNeg) + (H.1 4 a1.toNatClampNeg)) * ((H.1 3 a1.toNatClampNeg) + (H.1 4 a1.toNatClampNeg))) → ((1 : Int32) = 0 → Q (some (.int (0 : Int32))) H) ∧ (¬ (1 : Int32) = 0 → Q (some (.int (1 : Int32))) H))))) ∧ (((H.1 3 a1.toNatClampNeg) + (H.1 4 a1.toNatClampNeg)) = 0 → ¬ (2 : Int32) = 0 ∧ (((1 : Int32) ≤ (a2 - a2 / (2 : Int32) * (2 : Int32)) → ((0 : Int32) = 0 → Q (some (.int (0 : Int32))) H) ∧ (¬ (0 : Int32) = 0 → Q (some (.int (1 : Int32))) H)) ∧ (¬ (1 : Int32) ≤ (a2 - a2 / (2 : Int32) * (2 : Int32)) → ((1 : Int32) = 0 → Q (some (.int (0 : Int32))) H) ∧ (¬ (1 : Int32) = 0 → Q (some (.int (1 : Int32))) H)))))) from ⟨h.1, ⟨h.1, ⟨fun q1 => ⟨q1, ⟨h.1, ⟨fun q2 => ⟨fun _ => ((h.2.1 q1).1 q2), fun z => absurd (by decide) z⟩, fun q2 => ⟨fun z => absurd z (by decide), fun _ => ((h.2.1 q1).2 q2)⟩⟩⟩⟩, fun q1 => ⟨(by decide), ⟨fun q3 => ⟨fun _ => ((h.2.2 q1).1 q3), fun z => absurd (by decide) z⟩, fun q3 => ⟨fun z => absurd z (by decide), fun _ => ((h.2.2 q1).2 q3)⟩⟩⟩⟩⟩⟩)
def T_Pr_comes : List pmE := [
  (0, [], .iconst 0, 0, 0, 0),
  (1, [], .istore 4, 1, 0, 0),
  (3, [], .iload 3, 0, 0, 0),
  (4, [], .iconst 1, 0, 0, 0),
  (5, [], .if_icmp .ne 19, 0, 0, 0),
  (8, [], .iload 4, 1, 0, 0),
  (10, [], .aload 0, 0, 0, 0),
  (11, [], .getfield 387, 0, 28, 191),
  (14, [], .iconst 0, 0, 0, 0),
  (15, [], .iaload, 0, 0, 0),
  (16, [], .iadd, 0, 0, 0),
  (17, [], .istore 4, 1, 0, 0),
  (19, [], .aload 1, 0, 0, 0),
  (20, [], .getfield 195, 0, 36, 124),
  (23, [], .iload 2, 0, 0, 0),
  (24, [], .iaload, 0, 0, 0),
  (25, [], .iconst 1, 0, 0, 0),
  (26, [], .if_icmp .ne 40, 0, 0, 0),
  (29, [], .iload 4, 1, 0, 0),
  (31, [], .aload 0, 0, 0, 0),
  (32, [], .getfield 387, 0, 28, 191),
  (35, [], .iconst 1, 0, 0, 0),
  (36, [], .iaload, 0, 0, 0),
  (37, [], .iadd, 0, 0, 0),
  (38, [], .istore 4, 1, 0, 0),
  (40, [], .aload 1, 0, 0, 0),
  (41, [], .getfield 193, 0, 39, 115),
  (44, [], .iload 2, 0, 0, 0),
  (45, [], .iaload, 0, 0, 0),
  (46, [], .iload 4, 1, 0, 0),
  (48, [], .iadd, 0, 0, 0),
  (49, [], .aload 1, 0, 0, 0),
  (50, [], .getfield 194, 0, 42, 119),
  (53, [], .iload 2, 0, 0, 0),
  (54, [], .iaload, 0, 0, 0),
  (55, [], .if_icmp .le 62, 0, 0, 0),
  (58, [], .iconst 1, 0, 0, 0),
  (59, [], .goto 63, 0, 0, 0),
  (62, [], .iconst 0, 0, 0, 0),
  (63, [], .ireturn, 0, 0, 0)]
theorem tk_Pr_comes : pm_okT M_Pr_comes T_Pr_comes = true := by decide +kernel
theorem ok_Pr_comes : pm_okm M_Pr_comes := pm_okm_of _ 518 77 516 517 (by decide +kernel)
set_option maxRecDepth 100000 in
set_option maxHeartbeats 4000000 in
theorem m_Pr_comes_1_2 {d : Nat} {H : pmT} {Q : pmQ} (a2 : Int32) (a3 : Int32)
    (h : (¬ a3 = (1 : Int32) → vp_in a2 12 ∧ ((¬ (H.1 5 a2.toNatClampNeg) = (1 : Int32) → (((H.1 3 a2.toNatClampNeg) + (0 : Int32)) ≤ (H.1 4 a2.toNatClampNeg) → Q (some (.int (0 : Int32))) H) ∧ (¬ ((H.1 3 a2.toNatClampNeg) + (0 : Int32)) ≤ (H.1 4 a2.toNatClampNeg) → Q (some (.int (1 : Int32))) H)) ∧ ((H.1 5 a2.toNatClampNeg) = (1 : Int32) → (((H.1 3 a2.toNatClampNeg) + ((0 : Int32) + (H.1 20 1))) ≤ (H.1 4 a2.toNatClampNeg) → Q (some (.int (0 : Int32))) H) ∧ (¬ ((H.1 3 a2.toNatClampNeg) + ((0 : Int32) + (H.1 20 1))) ≤ (H.1 4 a2.toNatClampNeg) → Q (some (.int (1 : Int32))) H)))) ∧ (a3 = (1 : Int32) → vp_in a2 12 ∧ ((¬ (H.1 5 a2.toNatClampNeg) = (1 : Int32) → (((H.1 3 a2.toNatClampNeg) + ((0 : Int32) + (H.1 20 0))) ≤ (H.1 4 a2.toNatClampNeg) → Q (some (.int (0 : Int32))) H) ∧ (¬ ((H.1 3 a2.toNatClampNeg) + ((0 : Int32) + (H.1 20 0))) ≤ (H.1 4 a2.toNatClampNeg) → Q (some (.int (1 : Int32))) H)) ∧ ((H.1 5 a2.toNatClampNeg) = (1 : Int32) → (((H.1 3 a2.toNatClampNeg) + (((0 : Int32) + (H.1 20 0)) + (H.1 20 1))) ≤ (H.1 4 a2.toNatClampNeg) → Q (some (.int (0 : Int32))) H) ∧ (¬ ((H.1 3 a2.toNatClampNeg) + (((0 : Int32) + (H.1 20 0)) + (H.1 20 1))) ≤ (H.1 4 a2.toNatClampNeg) → Q (some (.int (1 : Int32))) H))))) : pm_R d M_Pr_comes [.ref 1, .ref 2, .int a2, .int a3] H Q :=
  pm_walk (n := 39) ok_Pr_comes tk_Pr_comes rfl (Nat.le_of_ble_eq_true rfl) (show (¬ a3 = (1 : Int32) → vp_in a2 12 ∧ ((¬ (H.1 5 a2.toNatClampNeg) = (1 : Int32) → vp_in a2 12 ∧ (vp_in a2 12 ∧ ((((H.1 3 a2.toNatClampNeg) + (0 : Int32)) ≤ (H.1 4 a2.toNatClampNeg) → Q (some (.int (0 : Int32))) H) ∧ (¬ ((H.1 3 a2.toNatClampNeg) + (0 : Int32)) ≤ (H.1 4 a2.toNatClampNeg) → Q (some (.int (1 : Int32))) H)))) ∧ ((H.1 5 a2.toNatClampNeg) = (1 : Int32) → vp_in (1 : Int32) 5 ∧ (vp_in a2 12 ∧ (vp_in a2 12 ∧ ((((H.1 3 a2.toNatClampNeg) + ((0 : Int32) + (H.1 20 1))) ≤ (H.1 4 a2.toNatClampNeg) → Q (some (.int (0 : Int32))) H) ∧ (¬ ((H.1 3 a2.toNatClampNeg) + ((0 : Int32) + (H.1 20 1))) ≤ (H.1 4 a2.toNatClampNeg) → Q (some (.int (1 : Int32))) H))))))) ∧ (a3 = (1 : Int32) → vp_in (0 : Int32) 5 ∧ (vp_in a2 12 ∧ ((¬ (H.1 5 a2.toNatClampNeg) = (1 : Int32) → vp_in a2 12 ∧ (vp_in a2 12 ∧ ((((H.1 3 a2.toNatClampNeg) + ((0 : Int32) + (H.1 20 0))) ≤ (H.1 4 a2.toNatClampNeg) → Q (some (.int (0 : Int32))) H) ∧ (¬ ((H.1 3 a2.toNatClampNeg) + ((0 : Int32) + (H.1 20 0))) ≤ (H.1 4 a2.toNatClampNeg) → Q (some (.int (1 : Int32))) H)))) ∧ ((H.1 5 a2.toNatClampNeg) = (1 : Int32) → vp_in (1 : Int32) 5 ∧ (vp_in a2 12 ∧ (vp_in a2 12 ∧ ((((H.1 3 a2.toNatClampNeg) + (((0 : Int32) + (H.1 20 0)) + (H.1 20 1))) ≤ (H.1 4 a2.toNatClampNeg) → Q (some (.int (0 : Int32))) H) ∧ (¬ ((H.1 3 a2.toNatClampNeg) + (((0 : Int32) + (H.1 20 0)) + (H.1 20 1))) ≤ (H.1 4 a2.toNatClampNeg) → Q (some (.int (1 : Int32))) H)))))))) from ⟨fun q1 => ⟨(h.1 q1).1, ⟨fun q2 => ⟨(h.1 q1).1, ⟨(h.1 q1).1, ⟨fun q3 => (((h.1 q1).2.1 q2).1 q3), fun q3 => (((h.1 q1).2.1 q2).2 q3)⟩⟩⟩, fun q2 => ⟨(pm_ik rfl), ⟨(h.1 q1).1, ⟨(h.1 q1).1, ⟨fun q4 => (((h.1 q1).2.2 q2).1 q4), fun q4 => (((h.1 q1).2.2 q2).2 q4)⟩⟩⟩⟩⟩⟩, fun q1 => ⟨(pm_ik rfl), ⟨(h.2 q1).1, ⟨fun q5 => ⟨(h.2 q1).1, ⟨(h.2 q1).1, ⟨fun q6 => (((h.2 q1).2.1 q5).1 q6), fun q6 => (((h.2 q1).2.1 q5).2 q6)⟩⟩⟩, fun q5 => ⟨(pm_ik rfl), ⟨(h.2 q1).1, ⟨(h.2 q1).1, ⟨fun q7 => (((h.2 q1).2.2 q5).1 q7), fun q7 => (((h.2 q1).2.2 q5).2 q7)⟩⟩⟩⟩⟩⟩⟩⟩)
set_option maxRecDepth 100000 in
set_option maxHeartbeats 4000000 in
theorem m_Pr_comes_1_8 {d : Nat} {H : pmT} {Q : pmQ} (a2 : Int32) (a3 : Int32)
    (h : (¬ a3 = (1 : Int32) → vp_in a2 12 ∧ ((¬ (H.1 11 a2.toNatClampNeg) = (1 : Int32) → (((H.1 9 a2.toNatClampNeg) + (0 : Int32)) ≤ (H.1 10 a2.toNatClampNeg) → Q (some (.int (0 : Int32))) H) ∧ (¬ ((H.1 9 a2.toNatClampNeg) + (0 : Int32)) ≤ (H.1 10 a2.toNatClampNeg) → Q (some (.int (1 : Int32))) H)) ∧ ((H.1 11 a2.toNatClampNeg) = (1 : Int32) → (((H.1 9 a2.toNatClampNeg) + ((0 : Int32) + (H.1 20 1))) ≤ (H.1 10 a2.toNatClampNeg) → Q (some (.int (0 : Int32))) H) ∧ (¬ ((H.1 9 a2.toNatClampNeg) + ((0 : Int32) + (H.1 20 1))) ≤ (H.1 10 a2.toNatClampNeg) → Q (some (.int (1 : Int32))) H)))) ∧ (a3 = (1 : Int32) → vp_in a2 12 ∧ ((¬ (H.1 11 a2.toNatClampNeg) = (1 : Int32) → (((H.1 9 a2.toNatClampNeg) + ((0 : Int32) + (H.1 20 0))) ≤ (H.1 10 a2.toNatClampNeg) → Q (some (.int (0 : Int32))) H) ∧ (¬ ((H.1 9 a2.toNatClampNeg) + ((0 : Int32) + (H.1 20 0))) ≤ (H.1 10 a2.toNatClampNeg) → Q (some (.int (1 : Int32))) H)) ∧ ((H.1 11 a2.toNatClampNeg) = (1 : Int32) → (((H.1 9 a2.toNatClampNeg) + (((0 : Int32) + (H.1 20 0)) + (H.1 20 1))) ≤ (H.1 10 a2.toNatClampNeg) → Q (some (.int (0 : Int32))) H) ∧ (¬ ((H.1 9 a2.toNatClampNeg) + (((0 : Int32) + (H.1 20 0)) + (H.1 20 1))) ≤ (H.1 10 a2.toNatClampNeg) → Q (some (.int (1 : Int32))) H))))) : pm_R d M_Pr_comes [.ref 1, .ref 8, .int a2, .int a3] H Q :=
  pm_walk (n := 39) ok_Pr_comes tk_Pr_comes rfl (Nat.le_of_ble_eq_true rfl) (show (¬ a3 = (1 : Int32) → vp_in a2 12 ∧ ((¬ (H.1 11 a2.toNatClampNeg) = (1 : Int32) → vp_in a2 12 ∧ (vp_in a2 12 ∧ ((((H.1 9 a2.toNatClampNeg) + (0 : Int32)) ≤ (H.1 10 a2.toNatClampNeg) → Q (some (.int (0 : Int32))) H) ∧ (¬ ((H.1 9 a2.toNatClampNeg) + (0 : Int32)) ≤ (H.1 10 a2.toNatClampNeg) → Q (some (.int (1 : Int32))) H)))) ∧ ((H.1 11 a2.toNatClampNeg) = (1 : Int32) → vp_in (1 : Int32) 5 ∧ (vp_in a2 12 ∧ (vp_in a2 12 ∧ ((((H.1 9 a2.toNatClampNeg) + ((0 : Int32) + (H.1 20 1))) ≤ (H.1 10 a2.toNatClampNeg) → Q (some (.int (0 : Int32))) H) ∧ (¬ ((H.1 9 a2.toNatClampNeg) + ((0 : Int32) + (H.1 20 1))) ≤ (H.1 10 a2.toNatClampNeg) → Q (some (.int (1 : Int32))) H))))))) ∧ (a3 = (1 : Int32) → vp_in (0 : Int32) 5 ∧ (vp_in a2 12 ∧ ((¬ (H.1 11 a2.toNatClampNeg) = (1 : Int32) → vp_in a2 12 ∧ (vp_in a2 12 ∧ ((((H.1 9 a2.toNatClampNeg) + ((0 : Int32) + (H.1 20 0))) ≤ (H.1 10 a2.toNatClampNeg) → Q (some (.int (0 : Int32))) H) ∧ (¬ ((H.1 9 a2.toNatClampNeg) + ((0 : Int32) + (H.1 20 0))) ≤ (H.1 10 a2.toNatClampNeg) → Q (some (.int (1 : Int32))) H)))) ∧ ((H.1 11 a2.toNatClampNeg) = (1 : Int32) → vp_in (1 : Int32) 5 ∧ (vp_in a2 12 ∧ (vp_in a2 12 ∧ ((((H.1 9 a2.toNatClampNeg) + (((0 : Int32) + (H.1 20 0)) + (H.1 20 1))) ≤ (H.1 10 a2.toNatClampNeg) → Q (some (.int (0 : Int32))) H) ∧ (¬ ((H.1 9 a2.toNatClampNeg) + (((0 : Int32) + (H.1 20 0)) + (H.1 20 1))) ≤ (H.1 10 a2.toNatClampNeg) → Q (some (.int (1 : Int32))) H)))))))) from ⟨fun q1 => ⟨(h.1 q1).1, ⟨fun q2 => ⟨(h.1 q1).1, ⟨(h.1 q1).1, ⟨fun q3 => (((h.1 q1).2.1 q2).1 q3), fun q3 => (((h.1 q1).2.1 q2).2 q3)⟩⟩⟩, fun q2 => ⟨(pm_ik rfl), ⟨(h.1 q1).1, ⟨(h.1 q1).1, ⟨fun q4 => (((h.1 q1).2.2 q2).1 q4), fun q4 => (((h.1 q1).2.2 q2).2 q4)⟩⟩⟩⟩⟩⟩, fun q1 => ⟨(pm_ik rfl), ⟨(h.2 q1).1, ⟨fun q5 => ⟨(h.2 q1).1, ⟨(h.2 q1).1, ⟨fun q6 => (((h.2 q1).2.1 q5).1 q6), fun q6 => (((h.2 q1).2.1 q5).2 q6)⟩⟩⟩, fun q5 => ⟨(pm_ik rfl), ⟨(h.2 q1).1, ⟨(h.2 q1).1, ⟨fun q7 => (((h.2 q1).2.2 q5).1 q7), fun q7 => (((h.2 q1).2.2 q5).2 q7)⟩⟩⟩⟩⟩⟩⟩⟩)
def T_Pr_gives : List pmE := [
  (0, [], .aload 1, 0, 0, 0),
  (1, [], .getfield 196, 0, 45, 127),
  (4, [], .iload 2, 0, 0, 0),
  (5, [], .iaload, 0, 0, 0),
  (6, [], .istore 5, 1, 0, 0),
  (8, [], .aload 0, 0, 0, 0),
  (9, [], .getfield 386, 0, 24, 189),
  (12, [], .invokeinterface 49 325, 0, 48, 523),
  (15, [], .ifCond .ne 37, 0, 0, 0),
  (18, [], .iconst 1, 0, 0, 0),
  (19, [], .iconst 6, 1, 0, 0),
  (21, [], .iconst 2, 0, 0, 0),
  (22, [], .iload 4, 1, 0, 0),
  (24, [], .imul, 0, 0, 0),
  (25, [], .iadd, 0, 0, 0),
  (26, [], .iconst 2, 0, 0, 0),
  (27, [], .iload 3, 0, 0, 0),
  (28, [], .imul, 0, 0, 0),
  (29, [], .isub, 0, 0, 0),
  (30, [], .iload 5, 1, 0, 0),
  (32, [], .isub, 0, 0, 0),
  (33, [], .fadd, 0, 52, 527),
  (36, [], .ireturn, 0, 0, 0),
  (37, [], .aload 0, 0, 0, 0),
  (38, [], .getfield 386, 0, 24, 189),
  (41, [], .aload 1, 0, 0, 0),
  (42, [], .getfield 193, 0, 39, 115),
  (45, [], .iload 2, 0, 0, 0),
  (46, [], .iaload, 0, 0, 0),
  (47, [], .aload 1, 0, 0, 0),
  (48, [], .getfield 194, 0, 42, 119),
  (51, [], .iload 2, 0, 0, 0),
  (52, [], .iaload, 0, 0, 0),
  (53, [], .iload 4, 1, 0, 0),
  (55, [], .iload 3, 0, 0, 0),
  (56, [], .aload 1, 0, 0, 0),
  (57, [], .getfield 195, 0, 36, 124),
  (60, [], .iload 2, 0, 0, 0),
  (61, [], .iaload, 0, 0, 0),
  (62, [], .iload 5, 1, 0, 0),
  (64, [], .invokeinterface 50 348, 0, 58, 530),
  (67, [], .iconst 0, 0, 0, 0),
  (68, [], .iconst 99, 1, 0, 0),
  (70, [], .aload 0, 0, 0, 0),
  (71, [], .getfield 386, 0, 24, 189),
  (74, [], .invokeinterface 51 325, 0, 62, 534),
  (77, [], .fsub, 0, 66, 541),
  (80, [], .fadd, 0, 52, 527),
  (83, [], .ireturn, 0, 0, 0)]
theorem tk_Pr_gives : pm_okT M_Pr_gives T_Pr_gives = true := by decide +kernel
theorem ok_Pr_gives : pm_okm M_Pr_gives := pm_okm_of _ 522 77 520 521 (by decide +kernel)
set_option maxRecDepth 100000 in
set_option maxHeartbeats 4000000 in
theorem m_Pr_gives_1_2 {d : Nat} {H : pmT} {Q : pmQ} (a2 : Int32) (a3 : Int32) (a4 : Int32)
    (h : vp_in a2 12 ∧ (((H.1 14 6) ≤ 0 → Q (some (.int (pm_max (1 : Int32) ((((6 : Int32) + ((2 : Int32) * a4)) - ((2 : Int32) * a3)) - (H.1 6 a2.toNatClampNeg))))) H) ∧ (¬ (H.1 14 6) ≤ 0 → pm_R d M_La_workOut [.ref 14] ((pm_up (pm_up (pm_up (pm_up (pm_up (pm_up H.1 19 0 (H.1 3 a2.toNatClampNeg)) 19 1 (H.1 4 a2.toNatClampNeg)) 19 2 a4) 19 3 a3) 19 4 (H.1 5 a2.toNatClampNeg)) 19 5 (H.1 6 a2.toNatClampNeg)), H.2) (pm_i (fun x4 H3 => Q (some (.int (pm_max (0 : Int32) (pm_min (99 : Int32) x4)))) H3))))) : pm_R (d + 1) M_Pr_gives [.ref 1, .ref 2, .int a2, .int a3, .int a4] H Q :=
  pm_walk (n := 35) ok_Pr_gives tk_Pr_gives rfl (Nat.le_of_ble_eq_true rfl) (show vp_in a2 12 ∧ (pm_R d M_La_isTold [.ref 14] H (pm_i (fun x2 H1 => (¬ x2 = 0 → vp_in a2 12 ∧ (vp_in a2 12 ∧ (vp_in a2 12 ∧ (pm_R d M_La_nameAll [.ref 14, .int (H1.1 3 a2.toNatClampNeg), .int (H1.1 4 a2.toNatClampNeg), .int a4, .int a3, .int (H1.1 5 a2.toNatClampNeg), .int (H.1 6 a2.toNatClampNeg)] H1 (pm_v (fun H3 => pm_R d M_La_workOut [.ref 14] H3 (pm_i (fun x5 H4 => Q (some (.int (pm_max (0 : Int32) (pm_min (99 : Int32) x5)))) H4)))))))) ∧ (x2 = 0 → Q (some (.int (pm_max (1 : Int32) ((((6 : Int32) + ((2 : Int32) * a4)) - ((2 : Int32) * a3)) - (H.1 6 a2.toNatClampNeg))))) H1)))) from ⟨h.1, u_La_isTold  (⟨fun q1 => ⟨Or.inl rfl, ⟨fun z => absurd (by decide) z, fun _ => (h.2.1 q1)⟩⟩, fun q1 => ⟨Or.inr rfl, ⟨fun _ => ⟨h.1, ⟨h.1, ⟨h.1, u_La_nameAll (H.1 3 a2.toNatClampNeg) (H.1 4 a2.toNatClampNeg) a4 a3 (H.1 5 a2.toNatClampNeg) (H.1 6 a2.toNatClampNeg) (⟨(pm_ik rfl), ⟨(pm_ik rfl), ⟨(pm_ik rfl), ⟨(pm_ik rfl), ⟨(pm_ik rfl), ⟨(pm_ik rfl), (h.2.2 q1)⟩⟩⟩⟩⟩⟩)⟩⟩⟩, fun z => absurd z (by decide)⟩⟩⟩)⟩)
set_option maxRecDepth 100000 in
set_option maxHeartbeats 4000000 in
theorem m_Pr_gives_1_8 {d : Nat} {H : pmT} {Q : pmQ} (a2 : Int32) (a3 : Int32) (a4 : Int32)
    (h : vp_in a2 12 ∧ (((H.1 14 6) ≤ 0 → Q (some (.int (pm_max (1 : Int32) ((((6 : Int32) + ((2 : Int32) * a4)) - ((2 : Int32) * a3)) - (H.1 12 a2.toNatClampNeg))))) H) ∧ (¬ (H.1 14 6) ≤ 0 → pm_R d M_La_workOut [.ref 14] ((pm_up (pm_up (pm_up (pm_up (pm_up (pm_up H.1 19 0 (H.1 9 a2.toNatClampNeg)) 19 1 (H.1 10 a2.toNatClampNeg)) 19 2 a4) 19 3 a3) 19 4 (H.1 11 a2.toNatClampNeg)) 19 5 (H.1 12 a2.toNatClampNeg)), H.2) (pm_i (fun x4 H3 => Q (some (.int (pm_max (0 : Int32) (pm_min (99 : Int32) x4)))) H3))))) : pm_R (d + 1) M_Pr_gives [.ref 1, .ref 8, .int a2, .int a3, .int a4] H Q :=
  pm_walk (n := 35) ok_Pr_gives tk_Pr_gives rfl (Nat.le_of_ble_eq_true rfl) (show vp_in a2 12 ∧ (pm_R d M_La_isTold [.ref 14] H (pm_i (fun x2 H1 => (¬ x2 = 0 → vp_in a2 12 ∧ (vp_in a2 12 ∧ (vp_in a2 12 ∧ (pm_R d M_La_nameAll [.ref 14, .int (H1.1 9 a2.toNatClampNeg), .int (H1.1 10 a2.toNatClampNeg), .int a4, .int a3, .int (H1.1 11 a2.toNatClampNeg), .int (H.1 12 a2.toNatClampNeg)] H1 (pm_v (fun H3 => pm_R d M_La_workOut [.ref 14] H3 (pm_i (fun x5 H4 => Q (some (.int (pm_max (0 : Int32) (pm_min (99 : Int32) x5)))) H4)))))))) ∧ (x2 = 0 → Q (some (.int (pm_max (1 : Int32) ((((6 : Int32) + ((2 : Int32) * a4)) - ((2 : Int32) * a3)) - (H.1 12 a2.toNatClampNeg))))) H1)))) from ⟨h.1, u_La_isTold  (⟨fun q1 => ⟨Or.inl rfl, ⟨fun z => absurd (by decide) z, fun _ => (h.2.1 q1)⟩⟩, fun q1 => ⟨Or.inr rfl, ⟨fun _ => ⟨h.1, ⟨h.1, ⟨h.1, u_La_nameAll (H.1 9 a2.toNatClampNeg) (H.1 10 a2.toNatClampNeg) a4 a3 (H.1 11 a2.toNatClampNeg) (H.1 12 a2.toNatClampNeg) (⟨(pm_ik rfl), ⟨(pm_ik rfl), ⟨(pm_ik rfl), ⟨(pm_ik rfl), ⟨(pm_ik rfl), ⟨(pm_ik rfl), (h.2.2 q1)⟩⟩⟩⟩⟩⟩)⟩⟩⟩, fun z => absurd z (by decide)⟩⟩⟩)⟩)
def T_Pr_playOnce : List pmE := [
  (0, [], .aload 0, 0, 0, 0),
  (1, [], .aload 1, 0, 0, 0),
  (2, [], .iload 2, 0, 0, 0),
  (3, [], .iload 3, 0, 0, 0),
  (4, [], .invokeinterface 73 465, 0, 69, 598),
  (7, [], .istore 4, 1, 0, 0),
  (9, [], .aload 0, 0, 0, 0),
  (10, [], .aload 0, 0, 0, 0),
  (11, [], .aload 1, 0, 0, 0),
  (12, [], .iload 2, 0, 0, 0),
  (13, [], .iload 3, 0, 0, 0),
  (14, [], .iload 4, 1, 0, 0),
  (16, [], .invokeinterface 74 469, 0, 73, 599),
  (19, [], .putfield 388, 0, 32, 194),
  (22, [], .aload 1, 0, 0, 0),
  (23, [], .iload 2, 0, 0, 0),
  (24, [], .iload 4, 1, 0, 0),
  (26, [], .aload 0, 0, 0, 0),
  (27, [], .getfield 388, 0, 32, 194),
  (30, [], .invokeinterface 29 272, 0, 77, 600),
  (33, [], .aload 1, 0, 0, 0),
  (34, [], .getfield 196, 0, 45, 127),
  (37, [], .iload 2, 0, 0, 0),
  (38, [], .dup2, 0, 0, 0),
  (39, [], .iaload, 0, 0, 0),
  (40, [], .iconst 1, 0, 0, 0),
  (41, [], .iadd, 0, 0, 0),
  (42, [], .iastore, 0, 0, 0),
  (43, [], .aload 1, 0, 0, 0),
  (44, [], .getfield 197, 0, 81, 131),
  (47, [], .iload 2, 0, 0, 0),
  (48, [], .dup2, 0, 0, 0),
  (49, [], .iaload, 0, 0, 0),
  (50, [], .iload 4, 1, 0, 0),
  (52, [], .iadd, 0, 0, 0),
  (53, [], .iastore, 0, 0, 0),
  (54, [], .iload 4, 1, 0, 0),
  (56, [], .ireturn, 0, 0, 0)]
theorem tk_Pr_playOnce : pm_okT M_Pr_playOnce T_Pr_playOnce = true := by decide +kernel
theorem ok_Pr_playOnce : pm_okm M_Pr_playOnce := pm_okm_of _ 597 77 595 596 (by decide +kernel)
set_option maxRecDepth 100000 in
set_option maxHeartbeats 4000000 in
theorem m_Pr_playOnce_1_2 {d : Nat} {H : pmT} {Q : pmQ} (a2 : Int32) (a3 : Int32)
    (h : pm_R d M_Pr_comes [.ref 1, .ref 2, .int a2, .int a3] H (pm_i (fun x2 H1 => pm_R d M_Pr_gives [.ref 1, .ref 2, .int a2, .int a3, .int x2] H1 (pm_i (fun x4 H3 => pm_R d M_Ha_learn [.ref 2, .int a2, .int x2, .int x4] ((pm_up H3.1 1 4 x4), H3.2) (pm_v (fun H5 => vp_in a2 12 ∧ (Q (some (.int x2)) ((pm_up (pm_up H5.1 6 a2.toNatClampNeg ((H5.1 6 a2.toNatClampNeg) + (1 : Int32))) 7 a2.toNatClampNeg ((H5.1 7 a2.toNatClampNeg) + x2)), H5.2))))))))) : pm_R (d + 1) M_Pr_playOnce [.ref 1, .ref 2, .int a2, .int a3] H Q :=
  pm_walk (n := 38) ok_Pr_playOnce tk_Pr_playOnce rfl (Nat.le_of_ble_eq_true rfl) (show pm_R d M_Pr_comes [.ref 1, .ref 2, .int a2, .int a3] H (pm_i (fun x2 H1 => pm_R d M_Pr_gives [.ref 1, .ref 2, .int a2, .int a3, .int x2] H1 (pm_i (fun x4 H3 => pm_R d M_Ha_learn [.ref 2, .int a2, .int x2, .int x4] ((pm_up H3.1 1 4 x4), H3.2) (pm_v (fun H5 => vp_in a2 12 ∧ (vp_in a2 12 ∧ (vp_in a2 12 ∧ (vp_in a2 12 ∧ (Q (some (.int x2)) ((pm_up (pm_up H5.1 6 a2.toNatClampNeg ((H5.1 6 a2.toNatClampNeg) + (1 : Int32))) 7 a2.toNatClampNeg ((H5.1 7 a2.toNatClampNeg) + x2)), H5.2))))))))))) from pm_mi h (fun x2 H1 z1 => pm_mi z1 (fun x4 H3 z2 => pm_mv' z2 (fun H5 z3 => ⟨z3.1, ⟨z3.1, ⟨z3.1, ⟨z3.1, z3.2⟩⟩⟩⟩))))
set_option maxRecDepth 100000 in
set_option maxHeartbeats 4000000 in
theorem m_Pr_playOnce_1_8 {d : Nat} {H : pmT} {Q : pmQ} (a2 : Int32) (a3 : Int32)
    (h : pm_R d M_Pr_comes [.ref 1, .ref 8, .int a2, .int a3] H (pm_i (fun x2 H1 => pm_R d M_Pr_gives [.ref 1, .ref 8, .int a2, .int a3, .int x2] H1 (pm_i (fun x4 H3 => pm_R d M_Ha_learn [.ref 8, .int a2, .int x2, .int x4] ((pm_up H3.1 1 4 x4), H3.2) (pm_v (fun H5 => vp_in a2 12 ∧ (Q (some (.int x2)) ((pm_up (pm_up H5.1 12 a2.toNatClampNeg ((H5.1 12 a2.toNatClampNeg) + (1 : Int32))) 13 a2.toNatClampNeg ((H5.1 13 a2.toNatClampNeg) + x2)), H5.2))))))))) : pm_R (d + 1) M_Pr_playOnce [.ref 1, .ref 8, .int a2, .int a3] H Q :=
  pm_walk (n := 38) ok_Pr_playOnce tk_Pr_playOnce rfl (Nat.le_of_ble_eq_true rfl) (show pm_R d M_Pr_comes [.ref 1, .ref 8, .int a2, .int a3] H (pm_i (fun x2 H1 => pm_R d M_Pr_gives [.ref 1, .ref 8, .int a2, .int a3, .int x2] H1 (pm_i (fun x4 H3 => pm_R d M_Ha_learn [.ref 8, .int a2, .int x2, .int x4] ((pm_up H3.1 1 4 x4), H3.2) (pm_v (fun H5 => vp_in a2 12 ∧ (vp_in a2 12 ∧ (vp_in a2 12 ∧ (vp_in a2 12 ∧ (Q (some (.int x2)) ((pm_up (pm_up H5.1 12 a2.toNatClampNeg ((H5.1 12 a2.toNatClampNeg) + (1 : Int32))) 13 a2.toNatClampNeg ((H5.1 13 a2.toNatClampNeg) + x2)), H5.2))))))))))) from pm_mi h (fun x2 H1 z1 => pm_mi z1 (fun x4 H3 z2 => pm_mv' z2 (fun H5 z3 => ⟨z3.1, ⟨z3.1, ⟨z3.1, ⟨z3.1, z3.2⟩⟩⟩⟩))))
def T_Pr_wrongByMorning : List pmE := [
  (0, [], .aload 1, 0, 0, 0),
  (1, [], .getfield 194, 0, 42, 119),
  (4, [], .iload 2, 0, 0, 0),
  (5, [], .iaload, 0, 0, 0),
  (6, [], .aload 1, 0, 0, 0),
  (7, [], .getfield 194, 0, 42, 119),
  (10, [], .iload 2, 0, 0, 0),
  (11, [], .iaload, 0, 0, 0),
  (12, [], .iload 3, 0, 0, 0),
  (13, [], .imul, 0, 0, 0),
  (14, [], .iconst 12, 1, 0, 0),
  (16, [], .idiv, 0, 0, 0),
  (17, [], .isub, 0, 0, 0),
  (18, [], .istore 4, 1, 0, 0),
  (20, [], .iconst 999, 2, 0, 0),
  (23, [], .iload 4, 1, 0, 0),
  (25, [], .aload 0, 0, 0, 0),
  (26, [], .getfield 387, 0, 28, 191),
  (29, [], .iconst 3, 0, 0, 0),
  (30, [], .iaload, 0, 0, 0),
  (31, [], .aload 1, 0, 0, 0),
  (32, [], .getfield 197, 0, 81, 131),
  (35, [], .iload 2, 0, 0, 0),
  (36, [], .iaload, 0, 0, 0),
  (37, [], .imul, 0, 0, 0),
  (38, [], .iconst 2, 0, 0, 0),
  (39, [], .idiv, 0, 0, 0),
  (40, [], .iadd, 0, 0, 0),
  (41, [], .fsub, 0, 66, 541),
  (44, [], .ireturn, 0, 0, 0)]
theorem tk_Pr_wrongByMorning : pm_okT M_Pr_wrongByMorning T_Pr_wrongByMorning = true := by decide +kernel
theorem ok_Pr_wrongByMorning : pm_okm M_Pr_wrongByMorning := pm_okm_of _ 588 77 586 587 (by decide +kernel)
set_option maxRecDepth 100000 in
set_option maxHeartbeats 4000000 in
theorem m_Pr_wrongByMorning_1_8 {d : Nat} {H : pmT} {Q : pmQ} (a2 : Int32) (a3 : Int32)
    (h : vp_in a2 12 ∧ (Q (some (.int (pm_min (999 : Int32) (((H.1 10 a2.toNatClampNeg) - (((H.1 10 a2.toNatClampNeg) * a3) / (12 : Int32))) + (((H.1 20 3) * (H.1 13 a2.toNatClampNeg)) / (2 : Int32)))))) H)) : pm_R (d + 1) M_Pr_wrongByMorning [.ref 1, .ref 8, .int a2, .int a3] H Q :=
  pm_walk (n := 30) ok_Pr_wrongByMorning tk_Pr_wrongByMorning rfl (Nat.le_of_ble_eq_true rfl) (show vp_in a2 12 ∧ (vp_in a2 12 ∧ (¬ (12 : Int32) = 0 ∧ (vp_in (3 : Int32) 5 ∧ (vp_in a2 12 ∧ (¬ (2 : Int32) = 0 ∧ (Q (some (.int (pm_min (999 : Int32) (((H.1 10 a2.toNatClampNeg) - (((H.1 10 a2.toNatClampNeg) * a3) / (12 : Int32))) + (((H.1 20 3) * (H.1 13 a2.toNatClampNeg)) / (2 : Int32)))))) H)))))) from ⟨h.1, ⟨h.1, ⟨(by decide), ⟨(pm_ik rfl), ⟨h.1, ⟨(by decide), h.2⟩⟩⟩⟩⟩⟩)
set_option maxRecDepth 100000 in
set_option maxHeartbeats 4000000 in
theorem m_Pr_wrongByMorning_1_2 {d : Nat} {H : pmT} {Q : pmQ} (a2 : Int32) (a3 : Int32)
    (h : vp_in a2 12 ∧ (Q (some (.int (pm_min (999 : Int32) (((H.1 4 a2.toNatClampNeg) - (((H.1 4 a2.toNatClampNeg) * a3) / (12 : Int32))) + (((H.1 20 3) * (H.1 7 a2.toNatClampNeg)) / (2 : Int32)))))) H)) : pm_R (d + 1) M_Pr_wrongByMorning [.ref 1, .ref 2, .int a2, .int a3] H Q :=
  pm_walk (n := 30) ok_Pr_wrongByMorning tk_Pr_wrongByMorning rfl (Nat.le_of_ble_eq_true rfl) (show vp_in a2 12 ∧ (vp_in a2 12 ∧ (¬ (12 : Int32) = 0 ∧ (vp_in (3 : Int32) 5 ∧ (vp_in a2 12 ∧ (¬ (2 : Int32) = 0 ∧ (Q (some (.int (pm_min (999 : Int32) (((H.1 4 a2.toNatClampNeg) - (((H.1 4 a2.toNatClampNeg) * a3) / (12 : Int32))) + (((H.1 20 3) * (H.1 7 a2.toNatClampNeg)) / (2 : Int32)))))) H)))))) from ⟨h.1, ⟨h.1, ⟨(by decide), ⟨(pm_ik rfl), ⟨h.1, ⟨(by decide), h.2⟩⟩⟩⟩⟩⟩)
def T_Pr_rightByMorning : List pmE := [
  (0, [], .aload 1, 0, 0, 0),
  (1, [], .getfield 193, 0, 39, 115),
  (4, [], .iload 2, 0, 0, 0),
  (5, [], .iaload, 0, 0, 0),
  (6, [], .aload 1, 0, 0, 0),
  (7, [], .getfield 193, 0, 39, 115),
  (10, [], .iload 2, 0, 0, 0),
  (11, [], .iaload, 0, 0, 0),
  (12, [], .iload 3, 0, 0, 0),
  (13, [], .imul, 0, 0, 0),
  (14, [], .iconst 12, 1, 0, 0),
  (16, [], .idiv, 0, 0, 0),
  (17, [], .isub, 0, 0, 0),
  (18, [], .ireturn, 0, 0, 0)]
theorem tk_Pr_rightByMorning : pm_okT M_Pr_rightByMorning T_Pr_rightByMorning = true := by decide +kernel
theorem ok_Pr_rightByMorning : pm_okm M_Pr_rightByMorning := pm_okm_of _ 592 77 590 591 (by decide +kernel)
set_option maxRecDepth 100000 in
set_option maxHeartbeats 4000000 in
theorem m_Pr_rightByMorning_1_8 {d : Nat} {H : pmT} {Q : pmQ} (a2 : Int32) (a3 : Int32)
    (h : vp_in a2 12 ∧ (Q (some (.int ((H.1 9 a2.toNatClampNeg) - (((H.1 9 a2.toNatClampNeg) * a3) / (12 : Int32))))) H)) : pm_R d M_Pr_rightByMorning [.ref 1, .ref 8, .int a2, .int a3] H Q :=
  pm_walk (n := 14) ok_Pr_rightByMorning tk_Pr_rightByMorning rfl (Nat.le_of_ble_eq_true rfl) (show vp_in a2 12 ∧ (vp_in a2 12 ∧ (¬ (12 : Int32) = 0 ∧ (Q (some (.int ((H.1 9 a2.toNatClampNeg) - (((H.1 9 a2.toNatClampNeg) * a3) / (12 : Int32))))) H))) from ⟨h.1, ⟨h.1, ⟨(by decide), h.2⟩⟩⟩)
set_option maxRecDepth 100000 in
set_option maxHeartbeats 4000000 in
theorem m_Pr_rightByMorning_1_2 {d : Nat} {H : pmT} {Q : pmQ} (a2 : Int32) (a3 : Int32)
    (h : vp_in a2 12 ∧ (Q (some (.int ((H.1 3 a2.toNatClampNeg) - (((H.1 3 a2.toNatClampNeg) * a3) / (12 : Int32))))) H)) : pm_R d M_Pr_rightByMorning [.ref 1, .ref 2, .int a2, .int a3] H Q :=
  pm_walk (n := 14) ok_Pr_rightByMorning tk_Pr_rightByMorning rfl (Nat.le_of_ble_eq_true rfl) (show vp_in a2 12 ∧ (vp_in a2 12 ∧ (¬ (12 : Int32) = 0 ∧ (Q (some (.int ((H.1 3 a2.toNatClampNeg) - (((H.1 3 a2.toNatClampNeg) * a3) / (12 : Int32))))) H))) from ⟨h.1, ⟨h.1, ⟨(by decide), h.2⟩⟩⟩)
def T_Pr_sleepOver : List pmE := [
  (0, [], .aload 1, 0, 0, 0),
  (1, [], .getfield 194, 0, 42, 119),
  (4, [], .iload 2, 0, 0, 0),
  (5, [], .aload 0, 0, 0, 0),
  (6, [], .aload 1, 0, 0, 0),
  (7, [], .iload 2, 0, 0, 0),
  (8, [], .iload 3, 0, 0, 0),
  (9, [], .invokeinterface 76 465, 0, 84, 585),
  (12, [], .iastore, 0, 0, 0),
  (13, [], .aload 1, 0, 0, 0),
  (14, [], .getfield 193, 0, 39, 115),
  (17, [], .iload 2, 0, 0, 0),
  (18, [], .aload 0, 0, 0, 0),
  (19, [], .aload 1, 0, 0, 0),
  (20, [], .iload 2, 0, 0, 0),
  (21, [], .iload 3, 0, 0, 0),
  (22, [], .invokeinterface 77 465, 0, 87, 589),
  (25, [], .iastore, 0, 0, 0),
  (26, [], .aload 1, 0, 0, 0),
  (27, [], .getfield 196, 0, 45, 127),
  (30, [], .iload 2, 0, 0, 0),
  (31, [], .iconst 0, 0, 0, 0),
  (32, [], .iastore, 0, 0, 0),
  (33, [], .aload 1, 0, 0, 0),
  (34, [], .getfield 197, 0, 81, 131),
  (37, [], .iload 2, 0, 0, 0),
  (38, [], .iconst 0, 0, 0, 0),
  (39, [], .iastore, 0, 0, 0),
  (40, [], .return_, 0, 0, 0)]
theorem tk_Pr_sleepOver : pm_okT M_Pr_sleepOver T_Pr_sleepOver = true := by decide +kernel
theorem ok_Pr_sleepOver : pm_okm M_Pr_sleepOver := pm_okm_of _ 584 77 582 583 (by decide +kernel)
set_option maxRecDepth 100000 in
set_option maxHeartbeats 4000000 in
theorem m_Pr_sleepOver_1_8 {d : Nat} {H : pmT} {Q : pmQ} (a2 : Int32) (a3 : Int32)
    (h : pm_R d M_Pr_wrongByMorning [.ref 1, .ref 8, .int a2, .int a3] H (pm_i (fun x2 H1 => vp_in a2 12 ∧ (pm_R d M_Pr_rightByMorning [.ref 1, .ref 8, .int a2, .int a3] ((pm_up H1.1 10 a2.toNatClampNeg x2), H1.2) (pm_i (fun x4 H3 => Q none ((pm_up (pm_up (pm_up H3.1 9 a2.toNatClampNeg x4) 12 a2.toNatClampNeg (0 : Int32)) 13 a2.toNatClampNeg (0 : Int32)), H3.2))))))) : pm_R (d + 1) M_Pr_sleepOver [.ref 1, .ref 8, .int a2, .int a3] H Q :=
  pm_walk (n := 29) ok_Pr_sleepOver tk_Pr_sleepOver rfl (Nat.le_of_ble_eq_true rfl) (show pm_R d M_Pr_wrongByMorning [.ref 1, .ref 8, .int a2, .int a3] H (pm_i (fun x2 H1 => vp_in a2 12 ∧ (pm_R d M_Pr_rightByMorning [.ref 1, .ref 8, .int a2, .int a3] ((pm_up H1.1 10 a2.toNatClampNeg x2), H1.2) (pm_i (fun x4 H3 => vp_in a2 12 ∧ (vp_in a2 12 ∧ (vp_in a2 12 ∧ (Q none ((pm_up (pm_up (pm_up H3.1 9 a2.toNatClampNeg x4) 12 a2.toNatClampNeg (0 : Int32)) 13 a2.toNatClampNeg (0 : Int32)), H3.2))))))))) from pm_mi h (fun x2 H1 z1 => ⟨z1.1, pm_mi z1.2 (fun x4 H3 z2 => ⟨z1.1, ⟨z1.1, ⟨z1.1, z2⟩⟩⟩)⟩))
set_option maxRecDepth 100000 in
set_option maxHeartbeats 4000000 in
theorem m_Pr_sleepOver_1_2 {d : Nat} {H : pmT} {Q : pmQ} (a2 : Int32) (a3 : Int32)
    (h : pm_R d M_Pr_wrongByMorning [.ref 1, .ref 2, .int a2, .int a3] H (pm_i (fun x2 H1 => vp_in a2 12 ∧ (pm_R d M_Pr_rightByMorning [.ref 1, .ref 2, .int a2, .int a3] ((pm_up H1.1 4 a2.toNatClampNeg x2), H1.2) (pm_i (fun x4 H3 => Q none ((pm_up (pm_up (pm_up H3.1 3 a2.toNatClampNeg x4) 6 a2.toNatClampNeg (0 : Int32)) 7 a2.toNatClampNeg (0 : Int32)), H3.2))))))) : pm_R (d + 1) M_Pr_sleepOver [.ref 1, .ref 2, .int a2, .int a3] H Q :=
  pm_walk (n := 29) ok_Pr_sleepOver tk_Pr_sleepOver rfl (Nat.le_of_ble_eq_true rfl) (show pm_R d M_Pr_wrongByMorning [.ref 1, .ref 2, .int a2, .int a3] H (pm_i (fun x2 H1 => vp_in a2 12 ∧ (pm_R d M_Pr_rightByMorning [.ref 1, .ref 2, .int a2, .int a3] ((pm_up H1.1 4 a2.toNatClampNeg x2), H1.2) (pm_i (fun x4 H3 => vp_in a2 12 ∧ (vp_in a2 12 ∧ (vp_in a2 12 ∧ (Q none ((pm_up (pm_up (pm_up H3.1 3 a2.toNatClampNeg x4) 6 a2.toNatClampNeg (0 : Int32)) 7 a2.toNatClampNeg (0 : Int32)), H3.2))))))))) from pm_mi h (fun x2 H1 z1 => ⟨z1.1, pm_mi z1.2 (fun x4 H3 z2 => ⟨z1.1, ⟨z1.1, ⟨z1.1, z2⟩⟩⟩)⟩))
def T_Pr_sleepAll : List pmE := [
  (0, [], .iconst 0, 0, 0, 0),
  (1, [], .istore 3, 0, 0, 0),
  (2, [0, 1, 2, 3], .iload 3, 0, 0, 0),
  (3, [], .aload 1, 0, 0, 0),
  (4, [], .getfield 192, 0, 90, 112),
  (7, [], .if_icmp .ge 23, 0, 0, 0),
  (10, [], .aload 0, 0, 0, 0),
  (11, [], .aload 1, 0, 0, 0),
  (12, [], .iload 3, 0, 0, 0),
  (13, [], .iload 2, 0, 0, 0),
  (14, [], .invokeinterface 78 464, 0, 93, 581),
  (17, [], .iinc 3 1, 0, 0, 0),
  (20, [], .goto 2, 0, 0, 0),
  (23, [], .return_, 0, 0, 0)]
theorem tk_Pr_sleepAll : pm_okT M_Pr_sleepAll T_Pr_sleepAll = true := by decide +kernel
theorem ok_Pr_sleepAll : pm_okm M_Pr_sleepAll := pm_okm_of _ 580 77 578 579 (by decide +kernel)
set_option maxRecDepth 100000 in
set_option maxHeartbeats 4000000 in
theorem m_Pr_sleepAll_1_2 {d : Nat} {H : pmT} {Q : pmQ} (a2 : Int32)
    (h : pm_RW none (d + 1) M_Pr_sleepAll Q 2 [(0, .ref 1), (1, .ref 2), (2, .int a2), (3, .int (0 : Int32))] [] H) : pm_R (d + 1) M_Pr_sleepAll [.ref 1, .ref 2, .int a2] H Q :=
  pm_walk (n := 3) ok_Pr_sleepAll tk_Pr_sleepAll rfl (Nat.le_of_ble_eq_true rfl) (show pm_RW none (d + 1) M_Pr_sleepAll Q 2 [(0, .ref 1), (1, .ref 2), (2, .int a2), (3, .int (0 : Int32))] [] H from h)
set_option maxRecDepth 100000 in
set_option maxHeartbeats 4000000 in
theorem b_Pr_sleepAll_1_2_2 {d : Nat} {H : pmT} {Q : pmQ} (v2 : Int32) (v3 : Int32)
    (h : ((H.1 2 0) ≤ v3 → Q none H) ∧ (¬ (H.1 2 0) ≤ v3 → pm_R d M_Pr_sleepOver [.ref 1, .ref 2, .int v3, .int v2] H (pm_v (fun H1 => pm_RW none (d + 1) M_Pr_sleepAll Q 2 [(0, .ref 1), (1, .ref 2), (2, .int v2), (3, .int (v3 + (1 : Int32)))] [] H1)))) : pm_RW none (d + 1) M_Pr_sleepAll Q 2 [(0, .ref 1), (1, .ref 2), (2, .int v2), (3, .int v3)] [] H :=
  pm_body tk_Pr_sleepAll 11 2 (show ((H.1 2 0) ≤ v3 → Q none H) ∧ (¬ (H.1 2 0) ≤ v3 → pm_R d M_Pr_sleepOver [.ref 1, .ref 2, .int v3, .int v2] H (pm_v (fun H1 => pm_RW none (d + 1) M_Pr_sleepAll Q 2 [(0, .ref 1), (1, .ref 2), (2, .int v2), (3, .int (v3 + (1 : Int32)))] [] H1))) from ⟨fun q1 => (h.1 q1), fun q1 => (h.2 q1)⟩)
set_option maxRecDepth 100000 in
set_option maxHeartbeats 4000000 in
theorem m_Pr_sleepAll_1_8 {d : Nat} {H : pmT} {Q : pmQ} (a2 : Int32)
    (h : pm_RW none (d + 1) M_Pr_sleepAll Q 2 [(0, .ref 1), (1, .ref 8), (2, .int a2), (3, .int (0 : Int32))] [] H) : pm_R (d + 1) M_Pr_sleepAll [.ref 1, .ref 8, .int a2] H Q :=
  pm_walk (n := 3) ok_Pr_sleepAll tk_Pr_sleepAll rfl (Nat.le_of_ble_eq_true rfl) (show pm_RW none (d + 1) M_Pr_sleepAll Q 2 [(0, .ref 1), (1, .ref 8), (2, .int a2), (3, .int (0 : Int32))] [] H from h)
set_option maxRecDepth 100000 in
set_option maxHeartbeats 4000000 in
theorem b_Pr_sleepAll_1_8_2 {d : Nat} {H : pmT} {Q : pmQ} (v2 : Int32) (v3 : Int32)
    (h : ((H.1 8 0) ≤ v3 → Q none H) ∧ (¬ (H.1 8 0) ≤ v3 → pm_R d M_Pr_sleepOver [.ref 1, .ref 8, .int v3, .int v2] H (pm_v (fun H1 => pm_RW none (d + 1) M_Pr_sleepAll Q 2 [(0, .ref 1), (1, .ref 8), (2, .int v2), (3, .int (v3 + (1 : Int32)))] [] H1)))) : pm_RW none (d + 1) M_Pr_sleepAll Q 2 [(0, .ref 1), (1, .ref 8), (2, .int v2), (3, .int v3)] [] H :=
  pm_body tk_Pr_sleepAll 11 2 (show ((H.1 8 0) ≤ v3 → Q none H) ∧ (¬ (H.1 8 0) ≤ v3 → pm_R d M_Pr_sleepOver [.ref 1, .ref 8, .int v3, .int v2] H (pm_v (fun H1 => pm_RW none (d + 1) M_Pr_sleepAll Q 2 [(0, .ref 1), (1, .ref 8), (2, .int v2), (3, .int (v3 + (1 : Int32)))] [] H1))) from ⟨fun q1 => (h.1 q1), fun q1 => (h.2 q1)⟩)
def T_Pr_step : List pmE := [
  (0, [], .iload 2, 0, 0, 0),
  (1, [], .iconst 60, 1, 0, 0),
  (3, [], .if_icmp .ne 15, 0, 0, 0),
  (6, [], .aload 0, 0, 0, 0),
  (7, [], .aload 1, 0, 0, 0),
  (8, [], .iload 3, 0, 0, 0),
  (9, [], .invokeinterface 79 460, 0, 97, 577),
  (12, [], .iconst (-2), 1, 0, 0),
  (14, [], .ireturn, 0, 0, 0),
  (15, [], .iload 2, 0, 0, 0),
  (16, [], .iconst 20, 1, 0, 0),
  (18, [], .if_icmp .lt 25, 0, 0, 0),
  (21, [], .iconst 1, 0, 0, 0),
  (22, [], .goto 26, 0, 0, 0),
  (25, [], .iconst 0, 0, 0, 0),
  (26, [], .istore 4, 1, 0, 0),
  (28, [], .iload 2, 0, 0, 0),
  (29, [], .iconst 20, 1, 0, 0),
  (31, [], .iload 4, 1, 0, 0),
  (33, [], .imul, 0, 0, 0),
  (34, [], .isub, 0, 0, 0),
  (35, [], .istore 5, 1, 0, 0),
  (37, [], .iload 5, 1, 0, 0),
  (39, [], .iconst 0, 0, 0, 0),
  (40, [], .aload 1, 0, 0, 0),
  (41, [], .getfield 192, 0, 90, 112),
  (44, [], .iconst 1, 0, 0, 0),
  (45, [], .isub, 0, 0, 0),
  (46, [], .invokeinterface 135 13, 3, 101, 593),
  (49, [], .ifCond .eq 56, 0, 0, 0),
  (52, [], .iconst (-1), 0, 0, 0),
  (53, [], .goto 65, 0, 0, 0),
  (56, [], .aload 0, 0, 0, 0),
  (57, [], .aload 1, 0, 0, 0),
  (58, [], .iload 5, 1, 0, 0),
  (60, [], .iload 4, 1, 0, 0),
  (62, [], .invokeinterface 75 465, 0, 105, 594),
  (65, [], .ireturn, 0, 0, 0)]
theorem tk_Pr_step : pm_okT M_Pr_step T_Pr_step = true := by decide +kernel
theorem ok_Pr_step : pm_okm M_Pr_step := pm_okm_of _ 576 77 574 575 (by decide +kernel)
set_option maxRecDepth 100000 in
set_option maxHeartbeats 4000000 in
theorem m_Pr_step {d : Nat} {H : pmT} {Q : pmQ} (a2 : Int32) (a3 : Int32)
    (h : (¬ a2 = (60 : Int32) → (a2 < (20 : Int32) → ((a2 - ((20 : Int32) * (0 : Int32))) < (0 : Int32) → Q (some (.int (-1 : Int32))) H) ∧ (¬ (a2 - ((20 : Int32) * (0 : Int32))) < (0 : Int32) → ((a2 - ((20 : Int32) * (0 : Int32))) ≤ ((H.1 8 0) - (1 : Int32)) → pm_R d M_Pr_playOnce [.ref 1, .ref 8, .int (a2 - ((20 : Int32) * (0 : Int32))), .int (0 : Int32)] H (pm_i (fun x4 H3 => Q (some (.int x4)) H3))) ∧ (¬ (a2 - ((20 : Int32) * (0 : Int32))) ≤ ((H.1 8 0) - (1 : Int32)) → Q (some (.int (-1 : Int32))) H))) ∧ (¬ a2 < (20 : Int32) → ((a2 - ((20 : Int32) * (1 : Int32))) < (0 : Int32) → Q (some (.int (-1 : Int32))) H) ∧ (¬ (a2 - ((20 : Int32) * (1 : Int32))) < (0 : Int32) → ((a2 - ((20 : Int32) * (1 : Int32))) ≤ ((H.1 8 0) - (1 : Int32)) → pm_R d M_Pr_playOnce [.ref 1, .ref 8, .int (a2 - ((20 : Int32) * (1 : Int32))), .int (1 : Int32)] H (pm_i (fun x10 H9 => Q (some (.int x10)) H9))) ∧ (¬ (a2 - ((20 : Int32) * (1 : Int32))) ≤ ((H.1 8 0) - (1 : Int32)) → Q (some (.int (-1 : Int32))) H)))) ∧ (a2 = (60 : Int32) → pm_R d M_Pr_sleepAll [.ref 1, .ref 8, .int a3] H (pm_v (fun H13 => Q (some (.int (-2 : Int32))) H13)))) : pm_R (d + 1) M_Pr_step [.ref 1, .ref 8, .int a2, .int a3] H Q :=
  pm_walk (n := 29) ok_Pr_step tk_Pr_step rfl (Nat.le_of_ble_eq_true rfl) (show (¬ a2 = (60 : Int32) → (a2 < (20 : Int32) → pm_R d M_PW_outside [.int (a2 - ((20 : Int32) * (0 : Int32))), .int (0 : Int32), .int ((H.1 8 0) - (1 : Int32))] H (pm_i (fun x2 H1 => (x2 = 0 → pm_R d M_Pr_playOnce [.ref 1, .ref 8, .int (a2 - ((20 : Int32) * (0 : Int32))), .int (0 : Int32)] H1 (pm_i (fun x4 H3 => Q (some (.int x4)) H3))) ∧ (¬ x2 = 0 → Q (some (.int (-1 : Int32))) H1)))) ∧ (¬ a2 < (20 : Int32) → pm_R d M_PW_outside [.int (a2 - ((20 : Int32) * (1 : Int32))), .int (0 : Int32), .int ((H.1 8 0) - (1 : Int32))] H (pm_i (fun x6 H5 => (x6 = 0 → pm_R d M_Pr_playOnce [.ref 1, .ref 8, .int (a2 - ((20 : Int32) * (1 : Int32))), .int (1 : Int32)] H5 (pm_i (fun x8 H7 => Q (some (.int x8)) H7))) ∧ (¬ x6 = 0 → Q (some (.int (-1 : Int32))) H5))))) ∧ (a2 = (60 : Int32) → pm_R d M_Pr_sleepAll [.ref 1, .ref 8, .int a3] H (pm_v (fun H9 => Q (some (.int (-2 : Int32))) H9))) from ⟨fun q1 => ⟨fun q2 => u_PW_outside (a2 - ((20 : Int32) * (0 : Int32))) (0 : Int32) ((H.1 8 0) - (1 : Int32)) (⟨fun q3 => ⟨Or.inr rfl, ⟨fun z => absurd z (by decide), fun _ => (((h.1 q1).1 q2).1 q3)⟩⟩, fun q3 => ⟨fun q4 => ⟨Or.inl rfl, ⟨fun _ => ((((h.1 q1).1 q2).2 q3).1 q4), fun z => absurd (by decide) z⟩⟩, fun q4 => ⟨Or.inr rfl, ⟨fun z => absurd z (by decide), fun _ => ((((h.1 q1).1 q2).2 q3).2 q4)⟩⟩⟩⟩), fun q2 => u_PW_outside (a2 - ((20 : Int32) * (1 : Int32))) (0 : Int32) ((H.1 8 0) - (1 : Int32)) (⟨fun q6 => ⟨Or.inr rfl, ⟨fun z => absurd z (by decide), fun _ => (((h.1 q1).2 q2).1 q6)⟩⟩, fun q6 => ⟨fun q7 => ⟨Or.inl rfl, ⟨fun _ => ((((h.1 q1).2 q2).2 q6).1 q7), fun z => absurd (by decide) z⟩⟩, fun q7 => ⟨Or.inr rfl, ⟨fun z => absurd z (by decide), fun _ => ((((h.1 q1).2 q2).2 q6).2 q7)⟩⟩⟩⟩)⟩, fun q1 => (h.2 q1)⟩)
def T_Jn_bitCount : List pmE := [
  (0, [], .iload 0, 0, 0, 0),
  (1, [], .iload 0, 0, 0, 0),
  (2, [], .iconst 1, 0, 0, 0),
  (3, [], .iushr, 0, 0, 0),
  (4, [], .iconst 1431655765, 4, 265, 628),
  (7, [], .iand, 0, 0, 0),
  (8, [], .isub, 0, 0, 0),
  (9, [], .istore 0, 0, 0, 0),
  (10, [], .iload 0, 0, 0, 0),
  (11, [], .iconst 858993459, 4, 266, 629),
  (14, [], .iand, 0, 0, 0),
  (15, [], .iload 0, 0, 0, 0),
  (16, [], .iconst 2, 0, 0, 0),
  (17, [], .iushr, 0, 0, 0),
  (18, [], .iconst 858993459, 4, 266, 629),
  (21, [], .iand, 0, 0, 0),
  (22, [], .iadd, 0, 0, 0),
  (23, [], .istore 0, 0, 0, 0),
  (24, [], .iload 0, 0, 0, 0),
  (25, [], .iload 0, 0, 0, 0),
  (26, [], .iconst 4, 0, 0, 0),
  (27, [], .iushr, 0, 0, 0),
  (28, [], .iadd, 0, 0, 0),
  (29, [], .iconst 252645135, 4, 267, 630),
  (32, [], .iand, 0, 0, 0),
  (33, [], .istore 0, 0, 0, 0),
  (34, [], .iload 0, 0, 0, 0),
  (35, [], .iload 0, 0, 0, 0),
  (36, [], .iconst 8, 1, 0, 0),
  (38, [], .iushr, 0, 0, 0),
  (39, [], .iadd, 0, 0, 0),
  (40, [], .istore 0, 0, 0, 0),
  (41, [], .iload 0, 0, 0, 0),
  (42, [], .iload 0, 0, 0, 0),
  (43, [], .iconst 16, 1, 0, 0),
  (45, [], .iushr, 0, 0, 0),
  (46, [], .iadd, 0, 0, 0),
  (47, [], .istore 0, 0, 0, 0),
  (48, [], .iload 0, 0, 0, 0),
  (49, [], .iconst 63, 1, 0, 0),
  (51, [], .iand, 0, 0, 0),
  (52, [], .ireturn, 0, 0, 0)]
theorem tk_Jn_bitCount : pm_okT M_Jn_bitCount T_Jn_bitCount = true := by decide +kernel
theorem ok_Jn_bitCount : pm_okm M_Jn_bitCount := pm_okm_of _ 627 88 626 0 (by decide +kernel)
set_option maxRecDepth 100000 in
set_option maxHeartbeats 4000000 in
theorem m_Jn_bitCount {d : Nat} {H : pmT} {Q : pmQ} (a1 : Int32)
    (h : Q (some (.int ((((((((a1 - ((a1.toUInt32 >>> ((1 : Int32).toUInt32 &&& Int32.toUInt32 31)).toInt32 &&& (1431655765 : Int32))) &&& (858993459 : Int32)) + (((a1 - ((a1.toUInt32 >>> ((1 : Int32).toUInt32 &&& Int32.toUInt32 31)).toInt32 &&& (1431655765 : Int32))).toUInt32 >>> ((2 : Int32).toUInt32 &&& Int32.toUInt32 31)).toInt32 &&& (858993459 : Int32))) + ((((a1 - ((a1.toUInt32 >>> ((1 : Int32).toUInt32 &&& Int32.toUInt32 31)).toInt32 &&& (1431655765 : Int32))) &&& (858993459 : Int32)) + (((a1 - ((a1.toUInt32 >>> ((1 : Int32).toUInt32 &&& Int32.toUInt32 31)).toInt32 &&& (1431655765 : Int32))).toUInt32 >>> ((2 : Int32).toUInt32 &&& Int32.toUInt32 31)).toInt32 &&& (858993459 : Int32))).toUInt32 >>> ((4 : Int32).toUInt32 &&& Int32.toUInt32 31)).toInt32) &&& (252645135 : Int32)) + ((((((a1 - ((a1.toUInt32 >>> ((1 : Int32).toUInt32 &&& Int32.toUInt32 31)).toInt32 &&& (1431655765 : Int32))) &&& (858993459 : Int32)) + (((a1 - ((a1.toUInt32 >>> ((1 : Int32).toUInt32 &&& Int32.toUInt32 31)).toInt32 &&& (1431655765 : Int32))).toUInt32 >>> ((2 : Int32).toUInt32 &&& Int32.toUInt32 31)).toInt32 &&& (858993459 : Int32))) + ((((a1 - ((a1.toUInt32 >>> ((1 : Int32).toUInt32 &&& Int32.toUInt32 31)).toInt32 &&& (1431655765 : Int32))) &&& (858993459 : Int32)) + (((a1 - ((a1.toUInt32 >>> ((1 : Int32).toUInt32 &&& Int32.toUInt32 31)).toInt32 &&& (1431655765 : Int32))).toUInt32 >>> ((2 : Int32).toUInt32 &&& Int32.toUInt32 31)).toInt32 &&& (858993459 : Int32))).toUInt32 >>> ((4 : Int32).toUInt32 &&& Int32.toUInt32 31)).toInt32) &&& (252645135 : Int32)).toUInt32 >>> ((8 : Int32).toUInt32 &&& Int32.toUInt32 31)).toInt32) + (((((((a1 - ((a1.toUInt32 >>> ((1 : Int32).toUInt32 &&& Int32.toUInt32 31)).toInt32 &&& (1431655765 : Int32))) &&& (858993459 : Int32)) + (((a1 - ((a1.toUInt32 >>> ((1 : Int32).toUInt32 &&& Int32.toUInt32 31)).toInt32 &&& (1431655765 : Int32))).toUInt32 >>> ((2 : Int32).toUInt32 &&& Int32.toUInt32 31)).toInt32 &&& (858993459 : Int32))) + ((((a1 - ((a1.toUInt32 >>> ((1 : Int32).toUInt32 &&& Int32.toUInt32 31)).toInt32 &&& (1431655765 : Int32))) &&& (858993459 : Int32)) + (((a1 - ((a1.toUInt32 >>> ((1 : Int32).toUInt32 &&& Int32.toUInt32 31)).toInt32 &&& (1431655765 : Int32))).toUInt32 >>> ((2 : Int32).toUInt32 &&& Int32.toUInt32 31)).toInt32 &&& (858993459 : Int32))).toUInt32 >>> ((4 : Int32).toUInt32 &&& Int32.toUInt32 31)).toInt32) &&& (252645135 : Int32)) + ((((((a1 - ((a1.toUInt32 >>> ((1 : Int32).toUInt32 &&& Int32.toUInt32 31)).toInt32 &&& (1431655765 : Int32))) &&& (858993459 : Int32)) + (((a1 - ((a1.toUInt32 >>> ((1 : Int32).toUInt32 &&& Int32.toUInt32 31)).toInt32 &&& (1431655765 : Int32))).toUInt32 >>> ((2 : Int32).toUInt32 &&& Int32.toUInt32 31)).toInt32 &&& (858993459 : Int32))) + ((((a1 - ((a1.toUInt32 >>> ((1 : Int32).toUInt32 &&& Int32.toUInt32 31)).toInt32 &&& (1431655765 : Int32))) &&& (858993459 : Int32)) + (((a1 - ((a1.toUInt32 >>> ((1 : Int32).toUInt32 &&& Int32.toUInt32 31)).toInt32 &&& (1431655765 : Int32))).toUInt32 >>> ((2 : Int32).toUInt32 &&& Int32.toUInt32 31)).toInt32 &&& (858993459 : Int32))).toUInt32 >>> ((4 : Int32).toUInt32 &&& Int32.toUInt32 31)).toInt32) &&& (252645135 : Int32)).toUInt32 >>> ((8 : Int32).toUInt32 &&& Int32.toUInt32 31)).toInt32).toUInt32 >>> ((16 : Int32).toUInt32 &&& Int32.toUInt32 31)).toInt32) &&& (63 : Int32)))) H) : pm_R d M_Jn_bitCount [.int a1] H Q :=
  pm_walk (n := 42) ok_Jn_bitCount tk_Jn_bitCount rfl (Nat.le_of_ble_eq_true rfl) (show Q (some (.int ((((((((a1 - ((a1.toUInt32 >>> ((1 : Int32).toUInt32 &&& Int32.toUInt32 31)).toInt32 &&& (1431655765 : Int32))) &&& (858993459 : Int32)) + (((a1 - ((a1.toUInt32 >>> ((1 : Int32).toUInt32 &&& Int32.toUInt32 31)).toInt32 &&& (1431655765 : Int32))).toUInt32 >>> ((2 : Int32).toUInt32 &&& Int32.toUInt32 31)).toInt32 &&& (858993459 : Int32))) + ((((a1 - ((a1.toUInt32 >>> ((1 : Int32).toUInt32 &&& Int32.toUInt32 31)).toInt32 &&& (1431655765 : Int32))) &&& (858993459 : Int32)) + (((a1 - ((a1.toUInt32 >>> ((1 : Int32).toUInt32 &&& Int32.toUInt32 31)).toInt32 &&& (1431655765 : Int32))).toUInt32 >>> ((2 : Int32).toUInt32 &&& Int32.toUInt32 31)).toInt32 &&& (858993459 : Int32))).toUInt32 >>> ((4 : Int32).toUInt32 &&& Int32.toUInt32 31)).toInt32) &&& (252645135 : Int32)) + ((((((a1 - ((a1.toUInt32 >>> ((1 : Int32).toUInt32 &&& Int32.toUInt32 31)).toInt32 &&& (1431655765 : Int32))) &&& (858993459 : Int32)) + (((a1 - ((a1.toUInt32 >>> ((1 : Int32).toUInt32 &&& Int32.toUInt32 31)).toInt32 &&& (1431655765 : Int32))).toUInt32 >>> ((2 : Int32).toUInt32 &&& Int32.toUInt32 31)).toInt32 &&& (858993459 : Int32))) + ((((a1 - ((a1.toUInt32 >>> ((1 : Int32).toUInt32 &&& Int32.toUInt32 31)).toInt32 &&& (1431655765 : Int32))) &&& (858993459 : Int32)) + (((a1 - ((a1.toUInt32 >>> ((1 : Int32).toUInt32 &&& Int32.toUInt32 31)).toInt32 &&& (1431655765 : Int32))).toUInt32 >>> ((2 : Int32).toUInt32 &&& Int32.toUInt32 31)).toInt32 &&& (858993459 : Int32))).toUInt32 >>> ((4 : Int32).toUInt32 &&& Int32.toUInt32 31)).toInt32) &&& (252645135 : Int32)).toUInt32 >>> ((8 : Int32).toUInt32 &&& Int32.toUInt32 31)).toInt32) + (((((((a1 - ((a1.toUInt32 >>> ((1 : Int32).toUInt32 &&& Int32.toUInt32 31)).toInt32 &&& (1431655765 : Int32))) &&& (858993459 : Int32)) + (((a1 - ((a1.toUInt32 >>> ((1 : Int32).toUInt32 &&& Int32.toUInt32 31)).toInt32 &&& (1431655765 : Int32))).toUInt32 >>> ((2 : Int32).toUInt32 &&& Int32.toUInt32 31)).toInt32 &&& (858993459 : Int32))) + ((((a1 - ((a1.toUInt32 >>> ((1 : Int32).toUInt32 &&& Int32.toUInt32 31)).toInt32 &&& (1431655765 : Int32))) &&& (858993459 : Int32)) + (((a1 - ((a1.toUInt32 >>> ((1 : Int32).toUInt32 &&& Int32.toUInt32 31)).toInt32 &&& (1431655765 : Int32))).toUInt32 >>> ((2 : Int32).toUInt32 &&& Int32.toUInt32 31)).toInt32 &&& (858993459 : Int32))).toUInt32 >>> ((4 : Int32).toUInt32 &&& Int32.toUInt32 31)).toInt32) &&& (252645135 : Int32)) + ((((((a1 - ((a1.toUInt32 >>> ((1 : Int32).toUInt32 &&& Int32.toUInt32 31)).toInt32 &&& (1431655765 : Int32))) &&& (858993459 : Int32)) + (((a1 - ((a1.toUInt32 >>> ((1 : Int32).toUInt32 &&& Int32.toUInt32 31)).toInt32 &&& (1431655765 : Int32))).toUInt32 >>> ((2 : Int32).toUInt32 &&& Int32.toUInt32 31)).toInt32 &&& (858993459 : Int32))) + ((((a1 - ((a1.toUInt32 >>> ((1 : Int32).toUInt32 &&& Int32.toUInt32 31)).toInt32 &&& (1431655765 : Int32))) &&& (858993459 : Int32)) + (((a1 - ((a1.toUInt32 >>> ((1 : Int32).toUInt32 &&& Int32.toUInt32 31)).toInt32 &&& (1431655765 : Int32))).toUInt32 >>> ((2 : Int32).toUInt32 &&& Int32.toUInt32 31)).toInt32 &&& (858993459 : Int32))).toUInt32 >>> ((4 : Int32).toUInt32 &&& Int32.toUInt32 31)).toInt32) &&& (252645135 : Int32)).toUInt32 >>> ((8 : Int32).toUInt32 &&& Int32.toUInt32 31)).toInt32).toUInt32 >>> ((16 : Int32).toUInt32 &&& Int32.toUInt32 31)).toInt32) &&& (63 : Int32)))) H from h)
