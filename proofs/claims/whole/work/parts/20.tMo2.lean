/-! tables and walks, by program: 20.tMo2 -/
def T_Mo_came : List pmE := [
  (0, [], .aload 0, 0, 0, 0),
  (1, [], .iload 1, 0, 0, 0),
  (2, [], .invokeinterface 181 649, 0, 251, 1270),
  (5, [], .iconst (-1), 0, 0, 0),
  (6, [], .if_icmp .eq 13, 0, 0, 0),
  (9, [], .iload 2, 0, 0, 0),
  (10, [], .ifCond .ge 15, 0, 0, 0),
  (13, [], .iconst (-1), 0, 0, 0),
  (14, [], .ireturn, 0, 0, 0),
  (15, [], .aload 0, 0, 0, 0),
  (16, [], .iload 1, 0, 0, 0),
  (17, [], .invokeinterface 181 649, 0, 251, 1270),
  (20, [], .ifCond .ge 29, 0, 0, 0),
  (23, [], .aload 0, 0, 0, 0),
  (24, [], .iload 1, 0, 0, 0),
  (25, [], .invokeinterface 181 649, 0, 251, 1270),
  (28, [], .ireturn, 0, 0, 0),
  (29, [], .iload 2, 0, 0, 0),
  (30, [], .aload 0, 0, 0, 0),
  (31, [], .iload 1, 0, 0, 0),
  (32, [], .invokeinterface 185 649, 0, 254, 1274),
  (35, [], .if_icmp .lt 41, 0, 0, 0),
  (38, [], .iconst (-2), 1, 0, 0),
  (40, [], .ireturn, 0, 0, 0),
  (41, [], .aload 0, 0, 0, 0),
  (42, [], .iload 1, 0, 0, 0),
  (43, [], .iload 2, 0, 0, 0),
  (44, [], .invokeinterface 186 653, 0, 257, 1288),
  (47, [], .pop, 0, 0, 0),
  (48, [], .aload 0, 0, 0, 0),
  (49, [], .aload 0, 0, 0, 0),
  (50, [], .iload 1, 0, 0, 0),
  (51, [], .iload 2, 0, 0, 0),
  (52, [], .invokeinterface 182 654, 0, 241, 1278),
  (55, [], .l2i, 0, 0, 0),
  (56, [], .invokeinterface 184 649, 0, 248, 1292),
  (59, [], .ireturn, 0, 0, 0)]
theorem tk_Mo_came : pm_okT M_Mo_came T_Mo_came = true := by decide +kernel
theorem ok_Mo_came : pm_okm M_Mo_came := pm_okm_of _ 1311 85 1309 1310 (by decide +kernel)
set_option maxRecDepth 100000 in
set_option maxHeartbeats 4000000 in
theorem m_Mo_came {d : Nat} {H : pmT} {Q : pmQ} (a1 : Int32) (a2 : Int32)
    (h : ((lg_cmp a1.toInt64 (0 : Int64)) < 0 → Q (some (.int (-1 : Int32))) H) ∧ (¬ (lg_cmp a1.toInt64 (0 : Int64)) < 0 → (0 < (lg_cmp a1.toInt64 (5 : Int64)) → Q (some (.int (-1 : Int32))) H) ∧ (¬ 0 < (lg_cmp a1.toInt64 (5 : Int64)) → vp_in a1 6 ∧ ((0 ≤ (H.1 81 a1.toNatClampNeg) → (¬ (H.1 81 a1.toNatClampNeg) = (50 : Int32) → (0 ≤ a2 → Q (some (.int (-12 : Int32))) H) ∧ (¬ 0 ≤ a2 → Q (some (.int (-1 : Int32))) H)) ∧ ((H.1 81 a1.toNatClampNeg) = (50 : Int32) → (0 ≤ a2 → pm_R (d + 2) M_Mo_planMany [.ref 55, .int a1] H (pm_i (fun x704 H703 => (a2 < x704 → pm_R (d + 2) M_Mo_doesPlan [.ref 55, .int a1, .int a2] H703 (pm_i (fun x706 H705 => vp_in (((60 : Int32) * a1) + a2) 360 ∧ (pm_R (d + 2) M_Mo_does [.ref 55, .int ((H705.2.1 83 ((((60 : Int32) * a1) + a2).toNatClampNeg)).toInt32)] H705 (pm_i (fun x708 H707 => Q (some (.int x708)) H707)))))) ∧ (¬ a2 < x704 → Q (some (.int (-2 : Int32))) H703)))) ∧ (¬ 0 ≤ a2 → Q (some (.int (-1 : Int32))) H))) ∧ (¬ 0 ≤ (H.1 81 a1.toNatClampNeg) → (0 ≤ a2 → Q (some (.int (-11 : Int32))) H) ∧ (¬ 0 ≤ a2 → Q (some (.int (-1 : Int32))) H)))))) : pm_R (d + 3) M_Mo_came [.ref 55, .int a1, .int a2] H Q :=
  pm_walk (n := 29) ok_Mo_came tk_Mo_came rfl (Nat.le_of_ble_eq_true rfl) (show pm_R (d + 2) M_Mo_bytesIs [.ref 55, .int a1] H (pm_i (fun x2 H1 => (x2 = (-1 : Int32) → Q (some (.int (-1 : Int32))) H1) ∧ (¬ x2 = (-1 : Int32) → (0 ≤ a2 → pm_R (d + 2) M_Mo_bytesIs [.ref 55, .int a1] H1 (pm_i (fun x4 H3 => (0 ≤ x4 → pm_R (d + 2) M_Mo_planMany [.ref 55, .int a1] H3 (pm_i (fun x6 H5 => (a2 < x6 → pm_R (d + 2) M_Mo_doesPlan [.ref 55, .int a1, .int a2] H5 (pm_i (fun x8 H7 => pm_R (d + 2) M_Mo_itemAt [.ref 55, .int a1, .int a2] H7 (pm_l (fun x10 H9 => pm_R (d + 2) M_Mo_does [.ref 55, .int x10.toInt32] H9 (pm_i (fun x12 H11 => Q (some (.int x12)) H11))))))) ∧ (¬ a2 < x6 → Q (some (.int (-2 : Int32))) H5)))) ∧ (¬ 0 ≤ x4 → pm_R (d + 2) M_Mo_bytesIs [.ref 55, .int a1] H3 (pm_i (fun x14 H13 => Q (some (.int x14)) H13)))))) ∧ (¬ 0 ≤ a2 → Q (some (.int (-1 : Int32))) H1)))) from u_Mo_bytesIs a1 (u_Mo_isShelf a1 (u_Mo_within a1.toInt64 (0 : Int64) (5 : Int64) (⟨fun q1 => ⟨Or.inl rfl, ⟨Or.inl rfl, ⟨fun z => absurd (by decide) z, fun _ => ⟨fun _ => (h.1 q1), fun z => absurd (by decide) z⟩⟩⟩⟩, fun q1 => ⟨fun q2 => ⟨Or.inl rfl, ⟨Or.inl rfl, ⟨fun z => absurd (by decide) z, fun _ => ⟨fun _ => ((h.2 q1).1 q2), fun z => absurd (by decide) z⟩⟩⟩⟩, fun q2 => ⟨Or.inr rfl, ⟨Or.inr rfl, ⟨fun _ => ⟨((h.2 q1).2 q2).1, ⟨fun q3 => ⟨((h.2 q1).2 q2).1, ⟨fun q4 => ⟨fun z => absurd z (by decide), fun _ => ⟨fun q5 => u_Mo_bytesIs a1 (u_Mo_isShelf a1 (u_Mo_within a1.toInt64 (0 : Int64) (5 : Int64) (⟨fun z => absurd z q1, fun _ => ⟨fun z => absurd z q2, fun _ => ⟨Or.inr rfl, ⟨Or.inr rfl, ⟨fun _ => ⟨((h.2 q1).2 q2).1, ⟨fun _ => ⟨((h.2 q1).2 q2).1, ⟨fun _ => ⟨fun z => absurd z (by decide), fun _ => u_Mo_bytesIs a1 (u_Mo_isShelf a1 (u_Mo_within a1.toInt64 (0 : Int64) (5 : Int64) (⟨fun z => absurd z q1, fun _ => ⟨fun z => absurd z q2, fun _ => ⟨Or.inr rfl, ⟨Or.inr rfl, ⟨fun _ => ⟨((h.2 q1).2 q2).1, ⟨fun _ => ⟨((h.2 q1).2 q2).1, ⟨fun _ => (((((h.2 q1).2 q2).2.1 q3).1 q4).1 q5), fun z => absurd z q4⟩⟩, fun z => absurd q3 z⟩⟩, fun z => absurd z (by decide)⟩⟩⟩⟩⟩)))⟩, fun z => absurd z q4⟩⟩, fun z => absurd q3 z⟩⟩, fun z => absurd z (by decide)⟩⟩⟩⟩⟩))), fun q5 => (((((h.2 q1).2 q2).2.1 q3).1 q4).2 q5)⟩⟩, fun q4 => ⟨fun z => absurd z (by decide), fun _ => ⟨fun q6 => u_Mo_bytesIs a1 (u_Mo_isShelf a1 (u_Mo_within a1.toInt64 (0 : Int64) (5 : Int64) (⟨fun z => absurd z q1, fun _ => ⟨fun z => absurd z q2, fun _ => ⟨Or.inr rfl, ⟨Or.inr rfl, ⟨fun _ => ⟨((h.2 q1).2 q2).1, ⟨fun _ => ⟨((h.2 q1).2 q2).1, ⟨fun z => absurd q4 z, fun _ => ⟨fun _ => pm_mi (((((h.2 q1).2 q2).2.1 q3).2 q4).1 q6) (fun x704 H703 z7 => ⟨fun q8 => pm_mi (z7.1 q8) (fun x706 H705 z9 => u_Mo_itemAt a1 a2 (⟨z9.1, z9.2⟩)), fun q8 => (z7.2 q8)⟩), fun z => absurd (by decide) z⟩⟩⟩, fun z => absurd q3 z⟩⟩, fun z => absurd z (by decide)⟩⟩⟩⟩⟩))), fun q6 => (((((h.2 q1).2 q2).2.1 q3).2 q4).2 q6)⟩⟩⟩⟩, fun q3 => ⟨fun z => absurd z (by decide), fun _ => ⟨fun q11 => u_Mo_bytesIs a1 (u_Mo_isShelf a1 (u_Mo_within a1.toInt64 (0 : Int64) (5 : Int64) (⟨fun z => absurd z q1, fun _ => ⟨fun z => absurd z q2, fun _ => ⟨Or.inr rfl, ⟨Or.inr rfl, ⟨fun _ => ⟨((h.2 q1).2 q2).1, ⟨fun z => absurd z q3, fun _ => ⟨fun z => absurd z (by decide), fun _ => u_Mo_bytesIs a1 (u_Mo_isShelf a1 (u_Mo_within a1.toInt64 (0 : Int64) (5 : Int64) (⟨fun z => absurd z q1, fun _ => ⟨fun z => absurd z q2, fun _ => ⟨Or.inr rfl, ⟨Or.inr rfl, ⟨fun _ => ⟨((h.2 q1).2 q2).1, ⟨fun z => absurd z q3, fun _ => ((((h.2 q1).2 q2).2.2 q3).1 q11)⟩⟩, fun z => absurd z (by decide)⟩⟩⟩⟩⟩)))⟩⟩⟩, fun z => absurd z (by decide)⟩⟩⟩⟩⟩))), fun q11 => ((((h.2 q1).2 q2).2.2 q3).2 q11)⟩⟩⟩⟩, fun z => absurd z (by decide)⟩⟩⟩⟩⟩))))
def T_Mo_rightSet : List pmE := [
  (0, [], .iconst 0, 0, 0, 0),
  (1, [], .istore 1, 0, 0, 0),
  (2, [], .iconst 0, 0, 0, 0),
  (3, [], .istore 2, 0, 0, 0),
  (4, [0, 1, 2], .iload 2, 0, 0, 0),
  (5, [], .aload 0, 0, 0, 0),
  (6, [], .getfield 582, 0, 111, 984),
  (9, [], .if_icmp .ge 36, 0, 0, 0),
  (12, [], .iload 1, 0, 0, 0),
  (13, [], .aload 0, 0, 0, 0),
  (14, [], .iload 2, 0, 0, 0),
  (15, [], .invokeinterface 179 649, 0, 260, 1321),
  (18, [], .ifCond .eq 27, 0, 0, 0),
  (21, [], .iconst 1, 0, 0, 0),
  (22, [], .iload 2, 0, 0, 0),
  (23, [], .ishl, 0, 0, 0),
  (24, [], .goto 28, 0, 0, 0),
  (27, [], .iconst 0, 0, 0, 0),
  (28, [], .ior, 0, 0, 0),
  (29, [], .istore 1, 0, 0, 0),
  (30, [], .iinc 2 1, 0, 0, 0),
  (33, [], .goto 4, 0, 0, 0),
  (36, [], .iload 1, 0, 0, 0),
  (37, [], .ireturn, 0, 0, 0)]
theorem tk_Mo_rightSet : pm_okT M_Mo_rightSet T_Mo_rightSet = true := by decide +kernel
theorem ok_Mo_rightSet : pm_okm M_Mo_rightSet := pm_okm_of _ 1320 85 1319 54 (by decide +kernel)
set_option maxRecDepth 100000 in
set_option maxHeartbeats 4000000 in
theorem m_Mo_rightSet {d : Nat} {H : pmT} {Q : pmQ} 
    (h : pm_RW none (d + 1) M_Mo_rightSet Q 4 [(0, .ref 55), (1, .int (0 : Int32)), (2, .int (0 : Int32))] [] H) : pm_R (d + 1) M_Mo_rightSet [.ref 55] H Q :=
  pm_walk (n := 5) ok_Mo_rightSet tk_Mo_rightSet rfl (Nat.le_of_ble_eq_true rfl) (show pm_RW none (d + 1) M_Mo_rightSet Q 4 [(0, .ref 55), (1, .int (0 : Int32)), (2, .int (0 : Int32))] [] H from h)
set_option maxRecDepth 100000 in
set_option maxHeartbeats 4000000 in
theorem b_Mo_rightSet_4 {d : Nat} {H : pmT} {Q : pmQ} (v1 : Int32) (v2 : Int32)
    (h : ((H.1 55 6) ≤ v2 → Q (some (.int v1)) H) ∧ (¬ (H.1 55 6) ≤ v2 → vp_in v2 12 ∧ (((H.1 65 v2.toNatClampNeg) ≤ (H.1 66 v2.toNatClampNeg) → pm_RW none (d + 1) M_Mo_rightSet Q 4 [(0, .ref 55), (1, .int (v1 ||| (0 : Int32))), (2, .int (v2 + (1 : Int32)))] [] H) ∧ (¬ (H.1 65 v2.toNatClampNeg) ≤ (H.1 66 v2.toNatClampNeg) → pm_RW none (d + 1) M_Mo_rightSet Q 4 [(0, .ref 55), (1, .int (v1 ||| ((1 : Int32) <<< (v2 &&& 31)))), (2, .int (v2 + (1 : Int32)))] [] H)))) : pm_RW none (d + 1) M_Mo_rightSet Q 4 [(0, .ref 55), (1, .int v1), (2, .int v2)] [] H :=
  pm_body tk_Mo_rightSet 17 4 (show ((H.1 55 6) ≤ v2 → Q (some (.int v1)) H) ∧ (¬ (H.1 55 6) ≤ v2 → pm_R d M_Mo_isRight [.ref 55, .int v2] H (pm_i (fun x2 H1 => (x2 = 0 → pm_RW none (d + 1) M_Mo_rightSet Q 4 [(0, .ref 55), (1, .int (v1 ||| (0 : Int32))), (2, .int (v2 + (1 : Int32)))] [] H1) ∧ (¬ x2 = 0 → pm_RW none (d + 1) M_Mo_rightSet Q 4 [(0, .ref 55), (1, .int (v1 ||| ((1 : Int32) <<< (v2 &&& 31)))), (2, .int (v2 + (1 : Int32)))] [] H1)))) from ⟨fun q1 => (h.1 q1), fun q1 => u_Mo_isRight v2 (⟨(h.2 q1).1, ⟨(h.2 q1).1, ⟨fun q2 => ⟨Or.inl rfl, ⟨fun _ => ((h.2 q1).2.1 q2), fun z => absurd (by decide) z⟩⟩, fun q2 => ⟨Or.inr rfl, ⟨fun z => absurd z (by decide), fun _ => ((h.2 q1).2.2 q2)⟩⟩⟩⟩⟩)⟩)
def T_Mo_slip : List pmE := [
  (0, [], .iconst 0, 0, 0, 0),
  (1, [], .istore 1, 0, 0, 0),
  (2, [0, 1], .iload 1, 0, 0, 0),
  (3, [], .aload 0, 0, 0, 0),
  (4, [], .getfield 582, 0, 111, 984),
  (7, [], .if_icmp .ge 24, 0, 0, 0),
  (10, [], .aload 0, 0, 0, 0),
  (11, [], .iload 1, 0, 0, 0),
  (12, [], .invokeinterface 179 649, 0, 260, 1321),
  (15, [], .ifCond .eq 24, 0, 0, 0),
  (18, [], .iinc 1 1, 0, 0, 0),
  (21, [], .goto 2, 0, 0, 0),
  (24, [], .iload 1, 0, 0, 0),
  (25, [], .aload 0, 0, 0, 0),
  (26, [], .getfield 582, 0, 111, 984),
  (29, [], .if_icmp .ge 36, 0, 0, 0),
  (32, [], .iload 1, 0, 0, 0),
  (33, [], .goto 38, 0, 0, 0),
  (36, [], .iconst (-2), 1, 0, 0),
  (38, [], .ireturn, 0, 0, 0)]
theorem tk_Mo_slip : pm_okT M_Mo_slip T_Mo_slip = true := by decide +kernel
theorem ok_Mo_slip : pm_okm M_Mo_slip := pm_okm_of _ 1331 85 1330 56 (by decide +kernel)
set_option maxRecDepth 100000 in
set_option maxHeartbeats 4000000 in
theorem m_Mo_slip {d : Nat} {H : pmT} {Q : pmQ} 
    (h : pm_RW none (d + 1) M_Mo_slip Q 2 [(0, .ref 55), (1, .int (0 : Int32))] [] H) : pm_R (d + 1) M_Mo_slip [.ref 55] H Q :=
  pm_walk (n := 3) ok_Mo_slip tk_Mo_slip rfl (Nat.le_of_ble_eq_true rfl) (show pm_RW none (d + 1) M_Mo_slip Q 2 [(0, .ref 55), (1, .int (0 : Int32))] [] H from h)
set_option maxRecDepth 100000 in
set_option maxHeartbeats 4000000 in
theorem b_Mo_slip_2 {d : Nat} {H : pmT} {Q : pmQ} (v1 : Int32)
    (h : ((H.1 55 6) ≤ v1 → Q (some (.int (-2 : Int32))) H) ∧ (¬ (H.1 55 6) ≤ v1 → vp_in v1 12 ∧ (((H.1 65 v1.toNatClampNeg) ≤ (H.1 66 v1.toNatClampNeg) → Q (some (.int v1)) H) ∧ (¬ (H.1 65 v1.toNatClampNeg) ≤ (H.1 66 v1.toNatClampNeg) → pm_RW none (d + 1) M_Mo_slip Q 2 [(0, .ref 55), (1, .int (v1 + (1 : Int32)))] [] H)))) : pm_RW none (d + 1) M_Mo_slip Q 2 [(0, .ref 55), (1, .int v1)] [] H :=
  pm_body tk_Mo_slip 14 2 (show ((H.1 55 6) ≤ v1 → ((H.1 55 6) ≤ v1 → Q (some (.int (-2 : Int32))) H) ∧ (¬ (H.1 55 6) ≤ v1 → Q (some (.int v1)) H)) ∧ (¬ (H.1 55 6) ≤ v1 → pm_R d M_Mo_isRight [.ref 55, .int v1] H (pm_i (fun x2 H1 => (x2 = 0 → ((H1.1 55 6) ≤ v1 → Q (some (.int (-2 : Int32))) H1) ∧ (¬ (H1.1 55 6) ≤ v1 → Q (some (.int v1)) H1)) ∧ (¬ x2 = 0 → pm_RW none (d + 1) M_Mo_slip Q 2 [(0, .ref 55), (1, .int (v1 + (1 : Int32)))] [] H1)))) from ⟨fun q1 => ⟨fun _ => (h.1 q1), fun z => absurd q1 z⟩, fun q1 => u_Mo_isRight v1 (⟨(h.2 q1).1, ⟨(h.2 q1).1, ⟨fun q2 => ⟨Or.inl rfl, ⟨fun _ => ⟨fun z => absurd z q1, fun _ => ((h.2 q1).2.1 q2)⟩, fun z => absurd (by decide) z⟩⟩, fun q2 => ⟨Or.inr rfl, ⟨fun z => absurd z (by decide), fun _ => ((h.2 q1).2.2 q2)⟩⟩⟩⟩⟩)⟩)
def T_Mo_lesson : List pmE := [
  (0, [], .aload 0, 0, 0, 0),
  (1, [], .iload 1, 0, 0, 0),
  (2, [], .invokeinterface 181 649, 0, 251, 1270),
  (5, [], .iconst (-1), 0, 0, 0),
  (6, [], .if_icmp .eq 21, 0, 0, 0),
  (9, [], .iload 2, 0, 0, 0),
  (10, [], .i2l, 0, 0, 0),
  (11, [], .jsr 0, 0, 0, 0),
  (12, [], .jsr 4, 1, 263, 1316),
  (15, [], .invokeinterface 143 13, 1, 114, 1152),
  (18, [], .ifCond .ne 23, 0, 0, 0),
  (21, [], .iconst (-1), 0, 0, 0),
  (22, [], .ireturn, 0, 0, 0),
  (23, [], .aload 0, 0, 0, 0),
  (24, [], .iload 1, 0, 0, 0),
  (25, [], .invokeinterface 181 649, 0, 251, 1270),
  (28, [], .ifCond .ge 37, 0, 0, 0),
  (31, [], .aload 0, 0, 0, 0),
  (32, [], .iload 1, 0, 0, 0),
  (33, [], .invokeinterface 181 649, 0, 251, 1270),
  (36, [], .ireturn, 0, 0, 0),
  (37, [], .aload 0, 0, 0, 0),
  (38, [], .iload 1, 0, 0, 0),
  (39, [], .invokeinterface 185 649, 0, 254, 1274),
  (42, [], .istore 3, 0, 0, 0),
  (43, [], .aload 0, 0, 0, 0),
  (44, [], .iload 1, 0, 0, 0),
  (45, [], .iload 3, 0, 0, 0),
  (46, [], .invokeinterface 186 653, 0, 257, 1288),
  (49, [], .istore 4, 1, 0, 0),
  (51, [], .iload 2, 0, 0, 0),
  (52, [], .lookupswitch 105 #[(0, 84), (1, 92), (2, 97), (3, 102)], 1, 32, 0),
  (84, [], .aload 0, 0, 0, 0),
  (85, [], .invokeinterface 189 645, 0, 265, 1317),
  (88, [], .invokeinterface 145 5, 1, 268, 1325),
  (91, [], .ireturn, 0, 0, 0),
  (92, [], .aload 0, 0, 0, 0),
  (93, [], .invokeinterface 189 645, 0, 265, 1317),
  (96, [], .ireturn, 0, 0, 0),
  (97, [], .aload 0, 0, 0, 0),
  (98, [], .invokeinterface 190 645, 0, 271, 1328),
  (101, [], .ireturn, 0, 0, 0),
  (102, [], .iload 4, 1, 0, 0),
  (104, [], .ireturn, 0, 0, 0),
  (105, [], .iload 3, 0, 0, 0),
  (106, [], .ireturn, 0, 0, 0)]
theorem tk_Mo_lesson : pm_okT M_Mo_lesson T_Mo_lesson = true := by decide +kernel
theorem ok_Mo_lesson : pm_okm M_Mo_lesson := pm_okm_of _ 1315 85 1313 1314 (by decide +kernel)
set_option maxRecDepth 100000 in
set_option maxHeartbeats 4000000 in
theorem m_Mo_lesson {d : Nat} {H : pmT} {Q : pmQ} (a1 : Int32) (a2 : Int32)
    (h : ((lg_cmp a1.toInt64 (0 : Int64)) < 0 → Q (some (.int (-1 : Int32))) H) ∧ (¬ (lg_cmp a1.toInt64 (0 : Int64)) < 0 → (0 < (lg_cmp a1.toInt64 (5 : Int64)) → Q (some (.int (-1 : Int32))) H) ∧ (¬ 0 < (lg_cmp a1.toInt64 (5 : Int64)) → vp_in a1 6 ∧ ((0 ≤ (H.1 81 a1.toNatClampNeg) → (¬ (H.1 81 a1.toNatClampNeg) = (50 : Int32) → ((lg_cmp a2.toInt64 (0 : Int64)) < 0 → Q (some (.int (-1 : Int32))) H) ∧ (¬ (lg_cmp a2.toInt64 (0 : Int64)) < 0 → (0 < (lg_cmp a2.toInt64 (4 : Int64)) → Q (some (.int (-1 : Int32))) H) ∧ (¬ 0 < (lg_cmp a2.toInt64 (4 : Int64)) → Q (some (.int (-12 : Int32))) H))) ∧ ((H.1 81 a1.toNatClampNeg) = (50 : Int32) → ((lg_cmp a2.toInt64 (0 : Int64)) < 0 → Q (some (.int (-1 : Int32))) H) ∧ (¬ (lg_cmp a2.toInt64 (0 : Int64)) < 0 → (0 < (lg_cmp a2.toInt64 (4 : Int64)) → Q (some (.int (-1 : Int32))) H) ∧ (¬ 0 < (lg_cmp a2.toInt64 (4 : Int64)) → pm_R (d + 2) M_Mo_planMany [.ref 55, .int a1] H (pm_i (fun x4286 H4285 => pm_R (d + 2) M_Mo_doesPlan [.ref 55, .int a1, .int x4286] H4285 (pm_i (fun x4288 H4287 => (a2 = (0 : Int32) → pm_R (d + 2) M_Mo_rightSet [.ref 55] H4287 (pm_i (fun x4294 H4293 => pm_R (d + 2) M_Mo_bitsOf [.int x4294] H4293 (pm_i (fun x4296 H4295 => Q (some (.int x4296)) H4295))))) ∧ (¬ a2 = (0 : Int32) → (a2 = (1 : Int32) → pm_R (d + 2) M_Mo_rightSet [.ref 55] H4287 (pm_i (fun x4292 H4291 => Q (some (.int x4292)) H4291))) ∧ (¬ a2 = (1 : Int32) → (a2 = (2 : Int32) → pm_R (d + 2) M_Mo_slip [.ref 55] H4287 (pm_i (fun x4290 H4289 => Q (some (.int x4290)) H4289))) ∧ (¬ a2 = (2 : Int32) → (a2 = (3 : Int32) → Q (some (.int x4288)) H4287) ∧ (¬ a2 = (3 : Int32) → Q (some (.int x4286)) H4287)))))))))))) ∧ (¬ 0 ≤ (H.1 81 a1.toNatClampNeg) → ((lg_cmp a2.toInt64 (0 : Int64)) < 0 → Q (some (.int (-1 : Int32))) H) ∧ (¬ (lg_cmp a2.toInt64 (0 : Int64)) < 0 → (0 < (lg_cmp a2.toInt64 (4 : Int64)) → Q (some (.int (-1 : Int32))) H) ∧ (¬ 0 < (lg_cmp a2.toInt64 (4 : Int64)) → Q (some (.int (-11 : Int32))) H))))))) : pm_R (d + 3) M_Mo_lesson [.ref 55, .int a1, .int a2] H Q :=
  pm_walk (n := 30) ok_Mo_lesson tk_Mo_lesson rfl (Nat.le_of_ble_eq_true rfl) (show pm_R (d + 2) M_Mo_bytesIs [.ref 55, .int a1] H (pm_i (fun x2 H1 => (x2 = (-1 : Int32) → Q (some (.int (-1 : Int32))) H1) ∧ (¬ x2 = (-1 : Int32) → pm_R (d + 2) M_Mo_within [.long a2.toInt64, .long (0 : Int64), .long (4 : Int64)] H1 (pm_i (fun x4 H3 => (¬ x4 = 0 → pm_R (d + 2) M_Mo_bytesIs [.ref 55, .int a1] H3 (pm_i (fun x6 H5 => (0 ≤ x6 → pm_R (d + 2) M_Mo_planMany [.ref 55, .int a1] H5 (pm_i (fun x8 H7 => pm_R (d + 2) M_Mo_doesPlan [.ref 55, .int a1, .int x8] H7 (pm_i (fun x10 H9 => (a2 = (0 : Int32) → pm_R (d + 2) M_Mo_rightSet [.ref 55] H9 (pm_i (fun x16 H15 => pm_R (d + 2) M_Mo_bitsOf [.int x16] H15 (pm_i (fun x18 H17 => Q (some (.int x18)) H17))))) ∧ (¬ a2 = (0 : Int32) → (a2 = (1 : Int32) → pm_R (d + 2) M_Mo_rightSet [.ref 55] H9 (pm_i (fun x14 H13 => Q (some (.int x14)) H13))) ∧ (¬ a2 = (1 : Int32) → (a2 = (2 : Int32) → pm_R (d + 2) M_Mo_slip [.ref 55] H9 (pm_i (fun x12 H11 => Q (some (.int x12)) H11))) ∧ (¬ a2 = (2 : Int32) → (a2 = (3 : Int32) → Q (some (.int x10)) H9) ∧ (¬ a2 = (3 : Int32) → Q (some (.int x8)) H9))))))))) ∧ (¬ 0 ≤ x6 → pm_R (d + 2) M_Mo_bytesIs [.ref 55, .int a1] H5 (pm_i (fun x20 H19 => Q (some (.int x20)) H19)))))) ∧ (x4 = 0 → Q (some (.int (-1 : Int32))) H3)))))) from u_Mo_bytesIs a1 (u_Mo_isShelf a1 (u_Mo_within a1.toInt64 (0 : Int64) (5 : Int64) (⟨fun q1 => ⟨Or.inl rfl, ⟨Or.inl rfl, ⟨fun z => absurd (by decide) z, fun _ => ⟨fun _ => (h.1 q1), fun z => absurd (by decide) z⟩⟩⟩⟩, fun q1 => ⟨fun q2 => ⟨Or.inl rfl, ⟨Or.inl rfl, ⟨fun z => absurd (by decide) z, fun _ => ⟨fun _ => ((h.2 q1).1 q2), fun z => absurd (by decide) z⟩⟩⟩⟩, fun q2 => ⟨Or.inr rfl, ⟨Or.inr rfl, ⟨fun _ => ⟨((h.2 q1).2 q2).1, ⟨fun q3 => ⟨((h.2 q1).2 q2).1, ⟨fun q4 => ⟨fun z => absurd z (by decide), fun _ => u_Mo_within a2.toInt64 (0 : Int64) (4 : Int64) (⟨fun q5 => ⟨Or.inl rfl, ⟨fun z => absurd (by decide) z, fun _ => (((((h.2 q1).2 q2).2.1 q3).1 q4).1 q5)⟩⟩, fun q5 => ⟨fun q6 => ⟨Or.inl rfl, ⟨fun z => absurd (by decide) z, fun _ => ((((((h.2 q1).2 q2).2.1 q3).1 q4).2 q5).1 q6)⟩⟩, fun q6 => ⟨Or.inr rfl, ⟨fun _ => u_Mo_bytesIs a1 (u_Mo_isShelf a1 (u_Mo_within a1.toInt64 (0 : Int64) (5 : Int64) (⟨fun z => absurd z q1, fun _ => ⟨fun z => absurd z q2, fun _ => ⟨Or.inr rfl, ⟨Or.inr rfl, ⟨fun _ => ⟨((h.2 q1).2 q2).1, ⟨fun _ => ⟨((h.2 q1).2 q2).1, ⟨fun _ => ⟨fun z => absurd z (by decide), fun _ => u_Mo_bytesIs a1 (u_Mo_isShelf a1 (u_Mo_within a1.toInt64 (0 : Int64) (5 : Int64) (⟨fun z => absurd z q1, fun _ => ⟨fun z => absurd z q2, fun _ => ⟨Or.inr rfl, ⟨Or.inr rfl, ⟨fun _ => ⟨((h.2 q1).2 q2).1, ⟨fun _ => ⟨((h.2 q1).2 q2).1, ⟨fun _ => ((((((h.2 q1).2 q2).2.1 q3).1 q4).2 q5).2 q6), fun z => absurd z q4⟩⟩, fun z => absurd q3 z⟩⟩, fun z => absurd z (by decide)⟩⟩⟩⟩⟩)))⟩, fun z => absurd z q4⟩⟩, fun z => absurd q3 z⟩⟩, fun z => absurd z (by decide)⟩⟩⟩⟩⟩))), fun z => absurd z (by decide)⟩⟩⟩⟩)⟩, fun q4 => ⟨fun z => absurd z (by decide), fun _ => u_Mo_within a2.toInt64 (0 : Int64) (4 : Int64) (⟨fun q7 => ⟨Or.inl rfl, ⟨fun z => absurd (by decide) z, fun _ => (((((h.2 q1).2 q2).2.1 q3).2 q4).1 q7)⟩⟩, fun q7 => ⟨fun q8 => ⟨Or.inl rfl, ⟨fun z => absurd (by decide) z, fun _ => ((((((h.2 q1).2 q2).2.1 q3).2 q4).2 q7).1 q8)⟩⟩, fun q8 => ⟨Or.inr rfl, ⟨fun _ => u_Mo_bytesIs a1 (u_Mo_isShelf a1 (u_Mo_within a1.toInt64 (0 : Int64) (5 : Int64) (⟨fun z => absurd z q1, fun _ => ⟨fun z => absurd z q2, fun _ => ⟨Or.inr rfl, ⟨Or.inr rfl, ⟨fun _ => ⟨((h.2 q1).2 q2).1, ⟨fun _ => ⟨((h.2 q1).2 q2).1, ⟨fun z => absurd q4 z, fun _ => ⟨fun _ => pm_mi ((((((h.2 q1).2 q2).2.1 q3).2 q4).2 q7).2 q8) (fun x4286 H4285 z9 => pm_mi z9 (fun x4288 H4287 z10 => ⟨fun q11 => (z10.1 q11), fun q11 => ⟨fun q14 => ((z10.2 q11).1 q14), fun q14 => ⟨fun q16 => (((z10.2 q11).2 q14).1 q16), fun q16 => ⟨fun q18 => ((((z10.2 q11).2 q14).2 q16).1 q18), fun q18 => ((((z10.2 q11).2 q14).2 q16).2 q18)⟩⟩⟩⟩)), fun z => absurd (by decide) z⟩⟩⟩, fun z => absurd q3 z⟩⟩, fun z => absurd z (by decide)⟩⟩⟩⟩⟩))), fun z => absurd z (by decide)⟩⟩⟩⟩)⟩⟩⟩, fun q3 => ⟨fun z => absurd z (by decide), fun _ => u_Mo_within a2.toInt64 (0 : Int64) (4 : Int64) (⟨fun q19 => ⟨Or.inl rfl, ⟨fun z => absurd (by decide) z, fun _ => ((((h.2 q1).2 q2).2.2 q3).1 q19)⟩⟩, fun q19 => ⟨fun q20 => ⟨Or.inl rfl, ⟨fun z => absurd (by decide) z, fun _ => (((((h.2 q1).2 q2).2.2 q3).2 q19).1 q20)⟩⟩, fun q20 => ⟨Or.inr rfl, ⟨fun _ => u_Mo_bytesIs a1 (u_Mo_isShelf a1 (u_Mo_within a1.toInt64 (0 : Int64) (5 : Int64) (⟨fun z => absurd z q1, fun _ => ⟨fun z => absurd z q2, fun _ => ⟨Or.inr rfl, ⟨Or.inr rfl, ⟨fun _ => ⟨((h.2 q1).2 q2).1, ⟨fun z => absurd z q3, fun _ => ⟨fun z => absurd z (by decide), fun _ => u_Mo_bytesIs a1 (u_Mo_isShelf a1 (u_Mo_within a1.toInt64 (0 : Int64) (5 : Int64) (⟨fun z => absurd z q1, fun _ => ⟨fun z => absurd z q2, fun _ => ⟨Or.inr rfl, ⟨Or.inr rfl, ⟨fun _ => ⟨((h.2 q1).2 q2).1, ⟨fun z => absurd z q3, fun _ => (((((h.2 q1).2 q2).2.2 q3).2 q19).2 q20)⟩⟩, fun z => absurd z (by decide)⟩⟩⟩⟩⟩)))⟩⟩⟩, fun z => absurd z (by decide)⟩⟩⟩⟩⟩))), fun z => absurd z (by decide)⟩⟩⟩⟩)⟩⟩⟩, fun z => absurd z (by decide)⟩⟩⟩⟩⟩))))
def T_Mo_timesOf : List pmE := [
  (0, [], .iconst 0, 0, 0, 0),
  (1, [], .istore 3, 0, 0, 0),
  (2, [0, 1, 2, 3], .iload 3, 0, 0, 0),
  (3, [], .iconst 99, 1, 0, 0),
  (5, [], .if_icmp .gt 31, 0, 0, 0),
  (8, [], .aload 0, 0, 0, 0),
  (9, [], .iload 1, 0, 0, 0),
  (10, [], .invokeinterface 179 649, 0, 260, 1321),
  (13, [], .ifCond .eq 18, 0, 0, 0),
  (16, [], .iload 3, 0, 0, 0),
  (17, [], .ireturn, 0, 0, 0),
  (18, [], .aload 0, 0, 0, 0),
  (19, [], .iload 1, 0, 0, 0),
  (20, [], .iload 2, 0, 0, 0),
  (21, [], .invokeinterface 177 653, 0, 238, 1300),
  (24, [], .pop, 0, 0, 0),
  (25, [], .iinc 3 1, 0, 0, 0),
  (28, [], .goto 2, 0, 0, 0),
  (31, [], .iconst (-2), 1, 0, 0),
  (33, [], .ireturn, 0, 0, 0)]
theorem tk_Mo_timesOf : pm_okT M_Mo_timesOf T_Mo_timesOf = true := by decide +kernel
theorem ok_Mo_timesOf : pm_okm M_Mo_timesOf := pm_okm_of _ 1339 85 1338 57 (by decide +kernel)
set_option maxRecDepth 100000 in
set_option maxHeartbeats 4000000 in
theorem m_Mo_timesOf {d : Nat} {H : pmT} {Q : pmQ} (a1 : Int32) (a2 : Int32)
    (h : pm_RW none (d + 1) M_Mo_timesOf Q 2 [(0, .ref 55), (1, .int a1), (2, .int a2), (3, .int (0 : Int32))] [] H) : pm_R (d + 1) M_Mo_timesOf [.ref 55, .int a1, .int a2] H Q :=
  pm_walk (n := 3) ok_Mo_timesOf tk_Mo_timesOf rfl (Nat.le_of_ble_eq_true rfl) (show pm_RW none (d + 1) M_Mo_timesOf Q 2 [(0, .ref 55), (1, .int a1), (2, .int a2), (3, .int (0 : Int32))] [] H from h)
set_option maxRecDepth 100000 in
set_option maxHeartbeats 4000000 in
theorem b_Mo_timesOf_2 {d : Nat} {H : pmT} {Q : pmQ} (v1 : Int32) (v2 : Int32) (v3 : Int32)
    (h : ((99 : Int32) < v3 → Q (some (.int (-2 : Int32))) H) ∧ (¬ (99 : Int32) < v3 → vp_in v1 12 ∧ (((H.1 65 v1.toNatClampNeg) ≤ (H.1 66 v1.toNatClampNeg) → pm_R d M_Mo_plays [.ref 55, .int v1, .int v2] H (pm_i (fun x2 H1 => pm_RW none (d + 1) M_Mo_timesOf Q 2 [(0, .ref 55), (1, .int v1), (2, .int v2), (3, .int (v3 + (1 : Int32)))] [] H1))) ∧ (¬ (H.1 65 v1.toNatClampNeg) ≤ (H.1 66 v1.toNatClampNeg) → Q (some (.int v3)) H)))) : pm_RW none (d + 1) M_Mo_timesOf Q 2 [(0, .ref 55), (1, .int v1), (2, .int v2), (3, .int v3)] [] H :=
  pm_body tk_Mo_timesOf 14 2 (show ((99 : Int32) < v3 → Q (some (.int (-2 : Int32))) H) ∧ (¬ (99 : Int32) < v3 → pm_R d M_Mo_isRight [.ref 55, .int v1] H (pm_i (fun x2 H1 => (x2 = 0 → pm_R d M_Mo_plays [.ref 55, .int v1, .int v2] H1 (pm_i (fun x4 H3 => pm_RW none (d + 1) M_Mo_timesOf Q 2 [(0, .ref 55), (1, .int v1), (2, .int v2), (3, .int (v3 + (1 : Int32)))] [] H3))) ∧ (¬ x2 = 0 → Q (some (.int v3)) H1)))) from ⟨fun q1 => (h.1 q1), fun q1 => u_Mo_isRight v1 (⟨(h.2 q1).1, ⟨(h.2 q1).1, ⟨fun q2 => ⟨Or.inl rfl, ⟨fun _ => ((h.2 q1).2.1 q2), fun z => absurd (by decide) z⟩⟩, fun q2 => ⟨Or.inr rfl, ⟨fun z => absurd z (by decide), fun _ => ((h.2 q1).2.2 q2)⟩⟩⟩⟩⟩)⟩)
def T_Mo_times : List pmE := [
  (0, [], .aload 0, 0, 0, 0),
  (1, [], .iload 1, 0, 0, 0),
  (2, [], .i2l, 0, 0, 0),
  (3, [], .invokeinterface 150 649, 0, 136, 1177),
  (6, [], .ifCond .eq 19, 0, 0, 0),
  (9, [], .iload 2, 0, 0, 0),
  (10, [], .i2l, 0, 0, 0),
  (11, [], .jsr 0, 0, 0, 0),
  (12, [], .jsr 1, 0, 0, 0),
  (13, [], .invokeinterface 143 13, 1, 114, 1152),
  (16, [], .ifCond .ne 21, 0, 0, 0),
  (19, [], .iconst (-1), 0, 0, 0),
  (20, [], .ireturn, 0, 0, 0),
  (21, [], .aload 0, 0, 0, 0),
  (22, [], .invokeinterface 172 644, 0, 228, 1250),
  (25, [], .aload 0, 0, 0, 0),
  (26, [], .iload 1, 0, 0, 0),
  (27, [], .iload 2, 0, 0, 0),
  (28, [], .invokeinterface 192 653, 0, 274, 1336),
  (31, [], .ireturn, 0, 0, 0)]
theorem tk_Mo_times : pm_okT M_Mo_times T_Mo_times = true := by decide +kernel
theorem ok_Mo_times : pm_okm M_Mo_times := pm_okm_of _ 1335 85 1333 1334 (by decide +kernel)
set_option maxRecDepth 100000 in
set_option maxHeartbeats 4000000 in
theorem m_Mo_times {d : Nat} {H : pmT} {Q : pmQ} (a1 : Int32) (a2 : Int32)
    (h : ((lg_cmp a1.toInt64 (0 : Int64)) < 0 → Q (some (.int (-1 : Int32))) H) ∧ (¬ (lg_cmp a1.toInt64 (0 : Int64)) < 0 → (0 < (lg_cmp a1.toInt64 (((H.1 55 6) - (1 : Int32)).toInt64)) → Q (some (.int (-1 : Int32))) H) ∧ (¬ 0 < (lg_cmp a1.toInt64 (((H.1 55 6) - (1 : Int32)).toInt64)) → ((lg_cmp a2.toInt64 (0 : Int64)) < 0 → Q (some (.int (-1 : Int32))) H) ∧ (¬ (lg_cmp a2.toInt64 (0 : Int64)) < 0 → (0 < (lg_cmp a2.toInt64 (1 : Int64)) → Q (some (.int (-1 : Int32))) H) ∧ (¬ 0 < (lg_cmp a2.toInt64 (1 : Int64)) → pm_R (d + 1) M_Mo_begins1 [.ref 55] H (pm_v (fun H25 => pm_R (d + 1) M_Mo_timesOf [.ref 55, .int a1, .int a2] H25 (pm_i (fun x27 H26 => Q (some (.int x27)) H26))))))))) : pm_R (d + 2) M_Mo_times [.ref 55, .int a1, .int a2] H Q :=
  pm_walk (n := 18) ok_Mo_times tk_Mo_times rfl (Nat.le_of_ble_eq_true rfl) (show pm_R (d + 1) M_Mo_isBar [.ref 55, .long a1.toInt64] H (pm_i (fun x2 H1 => (x2 = 0 → Q (some (.int (-1 : Int32))) H1) ∧ (¬ x2 = 0 → pm_R (d + 1) M_Mo_within [.long a2.toInt64, .long (0 : Int64), .long (1 : Int64)] H1 (pm_i (fun x4 H3 => (¬ x4 = 0 → pm_R (d + 1) M_Mo_begins1 [.ref 55] H3 (pm_v (fun H5 => pm_R (d + 1) M_Mo_timesOf [.ref 55, .int a1, .int a2] H5 (pm_i (fun x7 H6 => Q (some (.int x7)) H6))))) ∧ (x4 = 0 → Q (some (.int (-1 : Int32))) H3)))))) from u_Mo_isBar a1.toInt64 (u_Mo_within a1.toInt64 (0 : Int64) (((H.1 55 6) - (1 : Int32)).toInt64) (⟨fun q1 => ⟨Or.inl rfl, ⟨Or.inl rfl, ⟨fun _ => (h.1 q1), fun z => absurd (by decide) z⟩⟩⟩, fun q1 => ⟨fun q2 => ⟨Or.inl rfl, ⟨Or.inl rfl, ⟨fun _ => ((h.2 q1).1 q2), fun z => absurd (by decide) z⟩⟩⟩, fun q2 => ⟨Or.inr rfl, ⟨Or.inr rfl, ⟨fun z => absurd z (by decide), fun _ => u_Mo_within a2.toInt64 (0 : Int64) (1 : Int64) (⟨fun q3 => ⟨Or.inl rfl, ⟨fun z => absurd (by decide) z, fun _ => (((h.2 q1).2 q2).1 q3)⟩⟩, fun q3 => ⟨fun q4 => ⟨Or.inl rfl, ⟨fun z => absurd (by decide) z, fun _ => ((((h.2 q1).2 q2).2 q3).1 q4)⟩⟩, fun q4 => ⟨Or.inr rfl, ⟨fun _ => ((((h.2 q1).2 q2).2 q3).2 q4), fun z => absurd z (by decide)⟩⟩⟩⟩)⟩⟩⟩⟩⟩)))
def T_Mo_stays : List pmE := [
  (0, [], .aload 0, 0, 0, 0),
  (1, [], .iload 1, 0, 0, 0),
  (2, [], .i2l, 0, 0, 0),
  (3, [], .invokeinterface 150 649, 0, 136, 1177),
  (6, [], .ifCond .ne 11, 0, 0, 0),
  (9, [], .iconst (-1), 0, 0, 0),
  (10, [], .ireturn, 0, 0, 0),
  (11, [], .aload 0, 0, 0, 0),
  (12, [], .invokeinterface 172 644, 0, 228, 1250),
  (15, [], .iconst (-2), 1, 0, 0),
  (17, [], .istore 2, 0, 0, 0),
  (18, [], .iconst 0, 0, 0, 0),
  (19, [], .istore 3, 0, 0, 0),
  (20, [0, 1, 2, 3], .iload 3, 0, 0, 0),
  (21, [], .iconst 99, 1, 0, 0),
  (23, [], .if_icmp .gt 47, 0, 0, 0),
  (26, [], .aload 0, 0, 0, 0),
  (27, [], .iload 1, 0, 0, 0),
  (28, [], .invokeinterface 179 649, 0, 260, 1321),
  (31, [], .ifCond .eq 47, 0, 0, 0),
  (34, [], .iload 3, 0, 0, 0),
  (35, [], .istore 2, 0, 0, 0),
  (36, [], .aload 0, 0, 0, 0),
  (37, [], .iload 1, 0, 0, 0),
  (38, [], .invokeinterface 178 648, 0, 235, 1296),
  (41, [], .iinc 3 1, 0, 0, 0),
  (44, [], .goto 20, 0, 0, 0),
  (47, [], .iload 2, 0, 0, 0),
  (48, [], .ireturn, 0, 0, 0)]
theorem tk_Mo_stays : pm_okT M_Mo_stays T_Mo_stays = true := by decide +kernel
theorem ok_Mo_stays : pm_okm M_Mo_stays := pm_okm_of _ 1343 85 1341 1342 (by decide +kernel)
set_option maxRecDepth 100000 in
set_option maxHeartbeats 4000000 in
theorem m_Mo_stays {d : Nat} {H : pmT} {Q : pmQ} (a1 : Int32)
    (h : ((lg_cmp a1.toInt64 (0 : Int64)) < 0 → Q (some (.int (-1 : Int32))) H) ∧ (¬ (lg_cmp a1.toInt64 (0 : Int64)) < 0 → (0 < (lg_cmp a1.toInt64 (((H.1 55 6) - (1 : Int32)).toInt64)) → Q (some (.int (-1 : Int32))) H) ∧ (¬ 0 < (lg_cmp a1.toInt64 (((H.1 55 6) - (1 : Int32)).toInt64)) → pm_R (d + 1) M_Mo_begins1 [.ref 55] H (pm_v (fun H3 => pm_RW none (d + 2) M_Mo_stays Q 20 [(0, .ref 55), (1, .int a1), (2, .int (-2 : Int32)), (3, .int (0 : Int32))] [] H3))))) : pm_R (d + 2) M_Mo_stays [.ref 55, .int a1] H Q :=
  pm_walk (n := 12) ok_Mo_stays tk_Mo_stays rfl (Nat.le_of_ble_eq_true rfl) (show pm_R (d + 1) M_Mo_isBar [.ref 55, .long a1.toInt64] H (pm_i (fun x2 H1 => (¬ x2 = 0 → pm_R (d + 1) M_Mo_begins1 [.ref 55] H1 (pm_v (fun H3 => pm_RW none (d + 2) M_Mo_stays Q 20 [(0, .ref 55), (1, .int a1), (2, .int (-2 : Int32)), (3, .int (0 : Int32))] [] H3))) ∧ (x2 = 0 → Q (some (.int (-1 : Int32))) H1))) from u_Mo_isBar a1.toInt64 (u_Mo_within a1.toInt64 (0 : Int64) (((H.1 55 6) - (1 : Int32)).toInt64) (⟨fun q1 => ⟨Or.inl rfl, ⟨Or.inl rfl, ⟨fun z => absurd (by decide) z, fun _ => (h.1 q1)⟩⟩⟩, fun q1 => ⟨fun q2 => ⟨Or.inl rfl, ⟨Or.inl rfl, ⟨fun z => absurd (by decide) z, fun _ => ((h.2 q1).1 q2)⟩⟩⟩, fun q2 => ⟨Or.inr rfl, ⟨Or.inr rfl, ⟨fun _ => ((h.2 q1).2 q2), fun z => absurd z (by decide)⟩⟩⟩⟩⟩)))
set_option maxRecDepth 100000 in
set_option maxHeartbeats 4000000 in
theorem b_Mo_stays_20 {d : Nat} {H : pmT} {Q : pmQ} (v1 : Int32) (v2 : Int32) (v3 : Int32)
    (h : ((99 : Int32) < v3 → Q (some (.int v2)) H) ∧ (¬ (99 : Int32) < v3 → vp_in v1 12 ∧ (((H.1 65 v1.toNatClampNeg) ≤ (H.1 66 v1.toNatClampNeg) → Q (some (.int v2)) H) ∧ (¬ (H.1 65 v1.toNatClampNeg) ≤ (H.1 66 v1.toNatClampNeg) → pm_R (d + 1) M_Mo_nightOf [.ref 55, .int v1] H (pm_v (fun H2 => pm_RW none (d + 2) M_Mo_stays Q 20 [(0, .ref 55), (1, .int v1), (2, .int v3), (3, .int (v3 + (1 : Int32)))] [] H2)))))) : pm_RW none (d + 2) M_Mo_stays Q 20 [(0, .ref 55), (1, .int v1), (2, .int v2), (3, .int v3)] [] H :=
  pm_body tk_Mo_stays 14 20 (show ((99 : Int32) < v3 → Q (some (.int v2)) H) ∧ (¬ (99 : Int32) < v3 → pm_R (d + 1) M_Mo_isRight [.ref 55, .int v1] H (pm_i (fun x2 H1 => (x2 = 0 → Q (some (.int v2)) H1) ∧ (¬ x2 = 0 → pm_R (d + 1) M_Mo_nightOf [.ref 55, .int v1] H1 (pm_v (fun H3 => pm_RW none (d + 2) M_Mo_stays Q 20 [(0, .ref 55), (1, .int v1), (2, .int v3), (3, .int (v3 + (1 : Int32)))] [] H3)))))) from ⟨fun q1 => (h.1 q1), fun q1 => u_Mo_isRight v1 (⟨(h.2 q1).1, ⟨(h.2 q1).1, ⟨fun q2 => ⟨Or.inl rfl, ⟨fun _ => ((h.2 q1).2.1 q2), fun z => absurd (by decide) z⟩⟩, fun q2 => ⟨Or.inr rfl, ⟨fun z => absurd z (by decide), fun _ => ((h.2 q1).2.2 q2)⟩⟩⟩⟩⟩)⟩)
def T_Mo_findsFewest : List pmE := [
  (0, [], .aload 0, 0, 0, 0),
  (1, [], .invokeinterface 172 644, 0, 228, 1250),
  (4, [], .iconst 0, 0, 0, 0),
  (5, [], .istore 1, 0, 0, 0),
  (6, [0, 1], .iload 1, 0, 0, 0),
  (7, [], .aload 0, 0, 0, 0),
  (8, [], .getfield 582, 0, 111, 984),
  (11, [], .if_icmp .ge 94, 0, 0, 0),
  (14, [], .aload 0, 0, 0, 0),
  (15, [], .getfield 600, 0, 51, 1002),
  (18, [], .iload 1, 0, 0, 0),
  (19, [], .iconst (-1), 0, 0, 0),
  (20, [], .iastore, 0, 0, 0),
  (21, [], .iconst 60, 1, 0, 0),
  (23, [], .istore 2, 0, 0, 0),
  (24, [0, 1, 2], .iload 2, 0, 0, 0),
  (25, [], .ifCond .lt 88, 0, 0, 0),
  (28, [], .aload 0, 0, 0, 0),
  (29, [], .iload 1, 0, 0, 0),
  (30, [], .invokeinterface 173 648, 0, 209, 1254),
  (33, [], .iconst 0, 0, 0, 0),
  (34, [], .istore 3, 0, 0, 0),
  (35, [0, 1, 2, 3], .iload 3, 0, 0, 0),
  (36, [], .iload 2, 0, 0, 0),
  (37, [], .if_icmp .ge 53, 0, 0, 0),
  (40, [], .aload 0, 0, 0, 0),
  (41, [], .iload 1, 0, 0, 0),
  (42, [], .iconst 1, 0, 0, 0),
  (43, [], .invokeinterface 177 653, 0, 238, 1300),
  (46, [], .pop, 0, 0, 0),
  (47, [], .iinc 3 1, 0, 0, 0),
  (50, [], .goto 35, 0, 0, 0),
  (53, [], .aload 0, 0, 0, 0),
  (54, [], .iload 1, 0, 0, 0),
  (55, [], .invokeinterface 178 648, 0, 235, 1296),
  (58, [], .aload 0, 0, 0, 0),
  (59, [], .getfield 600, 0, 51, 1002),
  (62, [], .iload 1, 0, 0, 0),
  (63, [], .aload 0, 0, 0, 0),
  (64, [], .iload 1, 0, 0, 0),
  (65, [], .invokeinterface 179 649, 0, 260, 1321),
  (68, [], .ifCond .eq 75, 0, 0, 0),
  (71, [], .iload 2, 0, 0, 0),
  (72, [], .goto 81, 0, 0, 0),
  (75, [], .aload 0, 0, 0, 0),
  (76, [], .getfield 600, 0, 51, 1002),
  (79, [], .iload 1, 0, 0, 0),
  (80, [], .iaload, 0, 0, 0),
  (81, [], .iastore, 0, 0, 0),
  (82, [], .iinc 2 (-1), 0, 0, 0),
  (85, [], .goto 24, 0, 0, 0),
  (88, [], .iinc 1 1, 0, 0, 0),
  (91, [], .goto 6, 0, 0, 0),
  (94, [], .return_, 0, 0, 0)]
theorem tk_Mo_findsFewest : pm_okT M_Mo_findsFewest T_Mo_findsFewest = true := by decide +kernel
theorem ok_Mo_findsFewest : pm_okm M_Mo_findsFewest := pm_okm_of _ 1351 85 1350 58 (by decide +kernel)
set_option maxRecDepth 100000 in
set_option maxHeartbeats 4000000 in
theorem m_Mo_findsFewest {d : Nat} {H : pmT} {Q : pmQ} 
    (h : pm_R d M_Mo_begins1 [.ref 55] H (pm_v (fun H1 => pm_RW none (d + 1) M_Mo_findsFewest Q 6 [(0, .ref 55), (1, .int (0 : Int32))] [] H1))) : pm_R (d + 1) M_Mo_findsFewest [.ref 55] H Q :=
  pm_walk (n := 5) ok_Mo_findsFewest tk_Mo_findsFewest rfl (Nat.le_of_ble_eq_true rfl) (show pm_R d M_Mo_begins1 [.ref 55] H (pm_v (fun H1 => pm_RW none (d + 1) M_Mo_findsFewest Q 6 [(0, .ref 55), (1, .int (0 : Int32))] [] H1)) from h)
set_option maxRecDepth 100000 in
set_option maxHeartbeats 4000000 in
theorem b_Mo_findsFewest_6 {d : Nat} {H : pmT} {Q : pmQ} (v1 : Int32)
    (h : ((H.1 55 6) ≤ v1 → Q none H) ∧ (¬ (H.1 55 6) ≤ v1 → vp_in v1 12 ∧ (pm_RW none (d + 1) M_Mo_findsFewest Q 24 [(0, .ref 55), (1, .int v1), (2, .int (60 : Int32))] [] ((pm_up H.1 69 v1.toNatClampNeg (-1 : Int32)), H.2)))) : pm_RW none (d + 1) M_Mo_findsFewest Q 6 [(0, .ref 55), (1, .int v1)] [] H :=
  pm_body tk_Mo_findsFewest 11 6 (show ((H.1 55 6) ≤ v1 → Q none H) ∧ (¬ (H.1 55 6) ≤ v1 → vp_in v1 12 ∧ (pm_RW none (d + 1) M_Mo_findsFewest Q 24 [(0, .ref 55), (1, .int v1), (2, .int (60 : Int32))] [] ((pm_up H.1 69 v1.toNatClampNeg (-1 : Int32)), H.2))) from ⟨fun q1 => (h.1 q1), fun q1 => ⟨(h.2 q1).1, (h.2 q1).2⟩⟩)
set_option maxRecDepth 100000 in
set_option maxHeartbeats 4000000 in
theorem b_Mo_findsFewest_24 {d : Nat} {H : pmT} {Q : pmQ} (v1 : Int32) (v2 : Int32)
    (h : (v2 < 0 → pm_RW none (d + 1) M_Mo_findsFewest Q 6 [(0, .ref 55), (1, .int (v1 + (1 : Int32)))] [] H) ∧ (¬ v2 < 0 → vp_in v1 41 ∧ (vp_in v1 12 ∧ (vp_in ((12 : Int32) + v1) 41 ∧ (pm_RW none (d + 1) M_Mo_findsFewest Q 35 [(0, .ref 55), (1, .int v1), (2, .int v2), (3, .int (0 : Int32))] [] ((pm_up (pm_up (pm_up (pm_up H.1 65 v1.toNatClampNeg (H.1 56 v1.toNatClampNeg)) 66 v1.toNatClampNeg (H.1 56 (((12 : Int32) + v1).toNatClampNeg))) 67 v1.toNatClampNeg (H.1 60 v1.toNatClampNeg)) 68 v1.toNatClampNeg (H.1 61 v1.toNatClampNeg)), H.2)))))) : pm_RW none (d + 1) M_Mo_findsFewest Q 24 [(0, .ref 55), (1, .int v1), (2, .int v2)] [] H :=
  pm_body tk_Mo_findsFewest 7 24 (show (v2 < 0 → pm_RW none (d + 1) M_Mo_findsFewest Q 6 [(0, .ref 55), (1, .int (v1 + (1 : Int32)))] [] H) ∧ (¬ v2 < 0 → pm_R d M_Mo_beginsBar [.ref 55, .int v1] H (pm_v (fun H1 => pm_RW none (d + 1) M_Mo_findsFewest Q 35 [(0, .ref 55), (1, .int v1), (2, .int v2), (3, .int (0 : Int32))] [] H1))) from ⟨fun q1 => (h.1 q1), fun q1 => u_Mo_beginsBar v1 (⟨(h.2 q1).1, ⟨(h.2 q1).2.1, ⟨(h.2 q1).2.2.1, ⟨(h.2 q1).2.1, ⟨(h.2 q1).2.1, ⟨(h.2 q1).2.1, ⟨(h.2 q1).2.1, ⟨(h.2 q1).2.1, (h.2 q1).2.2.2⟩⟩⟩⟩⟩⟩⟩⟩)⟩)
set_option maxRecDepth 100000 in
set_option maxHeartbeats 4000000 in
theorem b_Mo_findsFewest_35 {d : Nat} {H : pmT} {Q : pmQ} (v1 : Int32) (v2 : Int32) (v3 : Int32)
    (h : (v2 ≤ v3 → pm_R d M_Mo_nightOf [.ref 55, .int v1] H (pm_v (fun H1 => vp_in v1 12 ∧ (((H1.1 65 v1.toNatClampNeg) ≤ (H1.1 66 v1.toNatClampNeg) → pm_RW none (d + 1) M_Mo_findsFewest Q 24 [(0, .ref 55), (1, .int v1), (2, .int (v2 + (-1 : Int32)))] [] ((pm_up H1.1 69 v1.toNatClampNeg (H1.1 69 v1.toNatClampNeg)), H1.2)) ∧ (¬ (H1.1 65 v1.toNatClampNeg) ≤ (H1.1 66 v1.toNatClampNeg) → pm_RW none (d + 1) M_Mo_findsFewest Q 24 [(0, .ref 55), (1, .int v1), (2, .int (v2 + (-1 : Int32)))] [] ((pm_up H1.1 69 v1.toNatClampNeg v2), H1.2)))))) ∧ (¬ v2 ≤ v3 → pm_R d M_Mo_plays [.ref 55, .int v1, .int (1 : Int32)] H (pm_i (fun x3 H2 => pm_RW none (d + 1) M_Mo_findsFewest Q 35 [(0, .ref 55), (1, .int v1), (2, .int v2), (3, .int (v3 + (1 : Int32)))] [] H2)))) : pm_RW none (d + 1) M_Mo_findsFewest Q 35 [(0, .ref 55), (1, .int v1), (2, .int v2), (3, .int v3)] [] H :=
  pm_body tk_Mo_findsFewest 20 35 (show (v2 ≤ v3 → pm_R d M_Mo_nightOf [.ref 55, .int v1] H (pm_v (fun H1 => pm_R d M_Mo_isRight [.ref 55, .int v1] H1 (pm_i (fun x3 H2 => (x3 = 0 → vp_in v1 12 ∧ (vp_in v1 12 ∧ (pm_RW none (d + 1) M_Mo_findsFewest Q 24 [(0, .ref 55), (1, .int v1), (2, .int (v2 + (-1 : Int32)))] [] ((pm_up H2.1 69 v1.toNatClampNeg (H2.1 69 v1.toNatClampNeg)), H2.2)))) ∧ (¬ x3 = 0 → vp_in v1 12 ∧ (pm_RW none (d + 1) M_Mo_findsFewest Q 24 [(0, .ref 55), (1, .int v1), (2, .int (v2 + (-1 : Int32)))] [] ((pm_up H2.1 69 v1.toNatClampNeg v2), H2.2)))))))) ∧ (¬ v2 ≤ v3 → pm_R d M_Mo_plays [.ref 55, .int v1, .int (1 : Int32)] H (pm_i (fun x5 H4 => pm_RW none (d + 1) M_Mo_findsFewest Q 35 [(0, .ref 55), (1, .int v1), (2, .int v2), (3, .int (v3 + (1 : Int32)))] [] H4))) from ⟨fun q1 => pm_mv' (h.1 q1) (fun H1 z2 => u_Mo_isRight v1 (⟨z2.1, ⟨z2.1, ⟨fun q3 => ⟨Or.inl rfl, ⟨fun _ => ⟨z2.1, ⟨z2.1, (z2.2.1 q3)⟩⟩, fun z => absurd (by decide) z⟩⟩, fun q3 => ⟨Or.inr rfl, ⟨fun z => absurd z (by decide), fun _ => ⟨z2.1, (z2.2.2 q3)⟩⟩⟩⟩⟩⟩)), fun q1 => (h.2 q1)⟩)
def T_Mo_takes1 : List pmE := [
  (0, [], .iconst 0, 0, 0, 0),
  (1, [], .istore 2, 0, 0, 0),
  (2, [], .iconst 0, 0, 0, 0),
  (3, [], .istore 3, 0, 0, 0),
  (4, [0, 1, 2, 3], .iload 3, 0, 0, 0),
  (5, [], .aload 0, 0, 0, 0),
  (6, [], .getfield 582, 0, 111, 984),
  (9, [], .if_icmp .ge 46, 0, 0, 0),
  (12, [], .iload 1, 0, 0, 0),
  (13, [], .iload 3, 0, 0, 0),
  (14, [], .invokeinterface 144 9, 1, 277, 1356),
  (17, [], .ifCond .eq 40, 0, 0, 0),
  (20, [], .aload 0, 0, 0, 0),
  (21, [], .getfield 600, 0, 51, 1002),
  (24, [], .iload 3, 0, 0, 0),
  (25, [], .iaload, 0, 0, 0),
  (26, [], .ifCond .ge 31, 0, 0, 0),
  (29, [], .iconst (-1), 0, 0, 0),
  (30, [], .ireturn, 0, 0, 0),
  (31, [], .iload 2, 0, 0, 0),
  (32, [], .aload 0, 0, 0, 0),
  (33, [], .getfield 600, 0, 51, 1002),
  (36, [], .iload 3, 0, 0, 0),
  (37, [], .iaload, 0, 0, 0),
  (38, [], .iadd, 0, 0, 0),
  (39, [], .istore 2, 0, 0, 0),
  (40, [], .iinc 3 1, 0, 0, 0),
  (43, [], .goto 4, 0, 0, 0),
  (46, [], .iload 2, 0, 0, 0),
  (47, [], .ireturn, 0, 0, 0)]
theorem tk_Mo_takes1 : pm_okT M_Mo_takes1 T_Mo_takes1 = true := by decide +kernel
theorem ok_Mo_takes1 : pm_okm M_Mo_takes1 := pm_okm_of _ 1355 85 1354 59 (by decide +kernel)
set_option maxRecDepth 100000 in
set_option maxHeartbeats 4000000 in
theorem m_Mo_takes1 {d : Nat} {H : pmT} {Q : pmQ} (a1 : Int32)
    (h : pm_RW none (d + 1) M_Mo_takes1 Q 4 [(0, .ref 55), (1, .int a1), (2, .int (0 : Int32)), (3, .int (0 : Int32))] [] H) : pm_R (d + 1) M_Mo_takes1 [.ref 55, .int a1] H Q :=
  pm_walk (n := 5) ok_Mo_takes1 tk_Mo_takes1 rfl (Nat.le_of_ble_eq_true rfl) (show pm_RW none (d + 1) M_Mo_takes1 Q 4 [(0, .ref 55), (1, .int a1), (2, .int (0 : Int32)), (3, .int (0 : Int32))] [] H from h)
set_option maxRecDepth 100000 in
set_option maxHeartbeats 4000000 in
theorem b_Mo_takes1_4 {d : Nat} {H : pmT} {Q : pmQ} (v1 : Int32) (v2 : Int32) (v3 : Int32)
    (h : ((H.1 55 6) ≤ v3 → Q (some (.int v2)) H) ∧ (¬ (H.1 55 6) ≤ v3 → (¬ ((v1 >>> (v3 &&& 31)) &&& (1 : Int32)) = (1 : Int32) → pm_RW none (d + 1) M_Mo_takes1 Q 4 [(0, .ref 55), (1, .int v1), (2, .int v2), (3, .int (v3 + (1 : Int32)))] [] H) ∧ (((v1 >>> (v3 &&& 31)) &&& (1 : Int32)) = (1 : Int32) → vp_in v3 12 ∧ ((0 ≤ (H.1 69 v3.toNatClampNeg) → pm_RW none (d + 1) M_Mo_takes1 Q 4 [(0, .ref 55), (1, .int v1), (2, .int (v2 + (H.1 69 v3.toNatClampNeg))), (3, .int (v3 + (1 : Int32)))] [] H) ∧ (¬ 0 ≤ (H.1 69 v3.toNatClampNeg) → Q (some (.int (-1 : Int32))) H))))) : pm_RW none (d + 1) M_Mo_takes1 Q 4 [(0, .ref 55), (1, .int v1), (2, .int v2), (3, .int v3)] [] H :=
  pm_body tk_Mo_takes1 22 4 (show ((H.1 55 6) ≤ v3 → Q (some (.int v2)) H) ∧ (¬ (H.1 55 6) ≤ v3 → pm_R d M_Mo_isIn [.int v1, .int v3] H (pm_i (fun x2 H1 => (x2 = 0 → pm_RW none (d + 1) M_Mo_takes1 Q 4 [(0, .ref 55), (1, .int v1), (2, .int v2), (3, .int (v3 + (1 : Int32)))] [] H1) ∧ (¬ x2 = 0 → vp_in v3 12 ∧ ((0 ≤ (H1.1 69 v3.toNatClampNeg) → vp_in v3 12 ∧ (pm_RW none (d + 1) M_Mo_takes1 Q 4 [(0, .ref 55), (1, .int v1), (2, .int (v2 + (H1.1 69 v3.toNatClampNeg))), (3, .int (v3 + (1 : Int32)))] [] H1)) ∧ (¬ 0 ≤ (H1.1 69 v3.toNatClampNeg) → Q (some (.int (-1 : Int32))) H1)))))) from ⟨fun q1 => (h.1 q1), fun q1 => u_Mo_isIn v1 v3 (⟨fun q2 => ⟨Or.inl rfl, ⟨fun _ => ((h.2 q1).1 q2), fun z => absurd (by decide) z⟩⟩, fun q2 => ⟨Or.inr rfl, ⟨fun z => absurd z (by decide), fun _ => ⟨((h.2 q1).2 q2).1, ⟨fun q3 => ⟨((h.2 q1).2 q2).1, (((h.2 q1).2 q2).2.1 q3)⟩, fun q3 => (((h.2 q1).2 q2).2.2 q3)⟩⟩⟩⟩⟩)⟩)
def T_Mo_with : List pmE := [
  (0, [], .iload 1, 0, 0, 0),
  (1, [], .i2l, 0, 0, 0),
  (2, [], .jsr 0, 0, 0, 0),
  (3, [], .jsr 60, 1, 231, 1286),
  (6, [], .invokeinterface 143 13, 1, 114, 1152),
  (9, [], .ifCond .eq 24, 0, 0, 0),
  (12, [], .iload 2, 0, 0, 0),
  (13, [], .i2l, 0, 0, 0),
  (14, [], .jsr 0, 0, 0, 0),
  (15, [], .jsr 2, 1, 134, 1176),
  (18, [], .invokeinterface 143 13, 1, 114, 1152),
  (21, [], .ifCond .ne 26, 0, 0, 0),
  (24, [], .iconst (-1), 0, 0, 0),
  (25, [], .ireturn, 0, 0, 0),
  (26, [], .aload 0, 0, 0, 0),
  (27, [], .invokeinterface 195 644, 0, 280, 1348),
  (30, [], .iconst 0, 0, 0, 0),
  (31, [], .istore 3, 0, 0, 0),
  (32, [], .iconst 1, 0, 0, 0),
  (33, [], .istore 4, 1, 0, 0),
  (35, [0, 1, 2, 3, 4], .iload 4, 1, 0, 0),
  (37, [], .iconst 1, 0, 0, 0),
  (38, [], .aload 0, 0, 0, 0),
  (39, [], .getfield 582, 0, 111, 984),
  (42, [], .ishl, 0, 0, 0),
  (43, [], .if_icmp .ge 110, 0, 0, 0),
  (46, [], .aload 0, 0, 0, 0),
  (47, [], .iload 4, 1, 0, 0),
  (49, [], .invokeinterface 196 649, 0, 283, 1352),
  (52, [], .istore 5, 1, 0, 0),
  (54, [], .iload 5, 1, 0, 0),
  (56, [], .ifCond .lt 104, 0, 0, 0),
  (59, [], .iload 5, 1, 0, 0),
  (61, [], .iload 1, 0, 0, 0),
  (62, [], .if_icmp .gt 104, 0, 0, 0),
  (65, [], .iload 4, 1, 0, 0),
  (67, [], .invokeinterface 145 5, 1, 268, 1325),
  (70, [], .iload 3, 0, 0, 0),
  (71, [], .invokeinterface 145 5, 1, 268, 1325),
  (74, [], .isub, 0, 0, 0),
  (75, [], .istore 6, 1, 0, 0),
  (77, [], .iload 6, 1, 0, 0),
  (79, [], .ifCond .gt 97, 0, 0, 0),
  (82, [], .iload 6, 1, 0, 0),
  (84, [], .ifCond .ne 102, 0, 0, 0),
  (87, [], .iload 5, 1, 0, 0),
  (89, [], .aload 0, 0, 0, 0),
  (90, [], .iload 3, 0, 0, 0),
  (91, [], .invokeinterface 196 649, 0, 283, 1352),
  (94, [], .if_icmp .ge 102, 0, 0, 0),
  (97, [], .iload 4, 1, 0, 0),
  (99, [], .goto 103, 0, 0, 0),
  (102, [], .iload 3, 0, 0, 0),
  (103, [], .istore 3, 0, 0, 0),
  (104, [], .iinc 4 1, 0, 0, 0),
  (107, [], .goto 35, 0, 0, 0),
  (110, [], .iload 2, 0, 0, 0),
  (111, [], .ifCond .ne 121, 0, 0, 0),
  (114, [], .iload 3, 0, 0, 0),
  (115, [], .invokeinterface 145 5, 1, 268, 1325),
  (118, [], .goto 135, 0, 0, 0),
  (121, [], .iload 2, 0, 0, 0),
  (122, [], .iconst 1, 0, 0, 0),
  (123, [], .if_icmp .ne 130, 0, 0, 0),
  (126, [], .iload 3, 0, 0, 0),
  (127, [], .goto 135, 0, 0, 0),
  (130, [], .aload 0, 0, 0, 0),
  (131, [], .iload 3, 0, 0, 0),
  (132, [], .invokeinterface 196 649, 0, 283, 1352),
  (135, [], .ireturn, 0, 0, 0)]
theorem tk_Mo_with : pm_okT M_Mo_with T_Mo_with = true := by decide +kernel
theorem ok_Mo_with : pm_okm M_Mo_with := pm_okm_of _ 1347 85 1345 1346 (by decide +kernel)
set_option maxRecDepth 100000 in
set_option maxHeartbeats 4000000 in
theorem m_Mo_with {d : Nat} {H : pmT} {Q : pmQ} (a1 : Int32) (a2 : Int32)
    (h : ((lg_cmp a1.toInt64 (0 : Int64)) < 0 → Q (some (.int (-1 : Int32))) H) ∧ (¬ (lg_cmp a1.toInt64 (0 : Int64)) < 0 → (0 < (lg_cmp a1.toInt64 (60 : Int64)) → Q (some (.int (-1 : Int32))) H) ∧ (¬ 0 < (lg_cmp a1.toInt64 (60 : Int64)) → ((lg_cmp a2.toInt64 (0 : Int64)) < 0 → Q (some (.int (-1 : Int32))) H) ∧ (¬ (lg_cmp a2.toInt64 (0 : Int64)) < 0 → (0 < (lg_cmp a2.toInt64 (2 : Int64)) → Q (some (.int (-1 : Int32))) H) ∧ (¬ 0 < (lg_cmp a2.toInt64 (2 : Int64)) → pm_R d M_Mo_findsFewest [.ref 55] H (pm_v (fun H9 => pm_RW none (d + 1) M_Mo_with Q 35 [(0, .ref 55), (1, .int a1), (2, .int a2), (3, .int (0 : Int32)), (4, .int (1 : Int32))] [] H9))))))) : pm_R (d + 1) M_Mo_with [.ref 55, .int a1, .int a2] H Q :=
  pm_walk (n := 19) ok_Mo_with tk_Mo_with rfl (Nat.le_of_ble_eq_true rfl) (show pm_R d M_Mo_within [.long a1.toInt64, .long (0 : Int64), .long (60 : Int64)] H (pm_i (fun x2 H1 => (x2 = 0 → Q (some (.int (-1 : Int32))) H1) ∧ (¬ x2 = 0 → pm_R d M_Mo_within [.long a2.toInt64, .long (0 : Int64), .long (2 : Int64)] H1 (pm_i (fun x4 H3 => (¬ x4 = 0 → pm_R d M_Mo_findsFewest [.ref 55] H3 (pm_v (fun H5 => pm_RW none (d + 1) M_Mo_with Q 35 [(0, .ref 55), (1, .int a1), (2, .int a2), (3, .int (0 : Int32)), (4, .int (1 : Int32))] [] H5))) ∧ (x4 = 0 → Q (some (.int (-1 : Int32))) H3)))))) from u_Mo_within a1.toInt64 (0 : Int64) (60 : Int64) (⟨fun q1 => ⟨Or.inl rfl, ⟨fun _ => (h.1 q1), fun z => absurd (by decide) z⟩⟩, fun q1 => ⟨fun q2 => ⟨Or.inl rfl, ⟨fun _ => ((h.2 q1).1 q2), fun z => absurd (by decide) z⟩⟩, fun q2 => ⟨Or.inr rfl, ⟨fun z => absurd z (by decide), fun _ => u_Mo_within a2.toInt64 (0 : Int64) (2 : Int64) (⟨fun q3 => ⟨Or.inl rfl, ⟨fun z => absurd (by decide) z, fun _ => (((h.2 q1).2 q2).1 q3)⟩⟩, fun q3 => ⟨fun q4 => ⟨Or.inl rfl, ⟨fun z => absurd (by decide) z, fun _ => ((((h.2 q1).2 q2).2 q3).1 q4)⟩⟩, fun q4 => ⟨Or.inr rfl, ⟨fun _ => ((((h.2 q1).2 q2).2 q3).2 q4), fun z => absurd z (by decide)⟩⟩⟩⟩)⟩⟩⟩⟩))
set_option maxRecDepth 100000 in
set_option maxHeartbeats 4000000 in
theorem b_Mo_with_35 {d : Nat} {H : pmT} {Q : pmQ} (v1 : Int32) (v2 : Int32) (v3 : Int32) (v4 : Int32)
    (h : (((1 : Int32) <<< ((H.1 55 6) &&& 31)) ≤ v4 → (¬ v2 = 0 → (¬ v2 = (1 : Int32) → pm_R d M_Mo_takes1 [.ref 55, .int v3] H (pm_i (fun x2 H1 => Q (some (.int x2)) H1))) ∧ (v2 = (1 : Int32) → Q (some (.int v3)) H)) ∧ (v2 = 0 → pm_R d M_Mo_bitsOf [.int v3] H (pm_i (fun x4 H3 => Q (some (.int x4)) H3)))) ∧ (¬ ((1 : Int32) <<< ((H.1 55 6) &&& 31)) ≤ v4 → pm_R d M_Mo_takes1 [.ref 55, .int v4] H (pm_i (fun x6 H5 => (x6 < 0 → pm_RW none (d + 1) M_Mo_with Q 35 [(0, .ref 55), (1, .int v1), (2, .int v2), (3, .int v3), (4, .int (v4 + (1 : Int32)))] [] H5) ∧ (¬ x6 < 0 → (v1 < x6 → pm_RW none (d + 1) M_Mo_with Q 35 [(0, .ref 55), (1, .int v1), (2, .int v2), (3, .int v3), (4, .int (v4 + (1 : Int32)))] [] H5) ∧ (¬ v1 < x6 → pm_R d M_Mo_bitsOf [.int v4] H5 (pm_i (fun x8 H7 => pm_R d M_Mo_bitsOf [.int v3] H7 (pm_i (fun x10 H9 => (0 < (x8 - x10) → pm_RW none (d + 1) M_Mo_with Q 35 [(0, .ref 55), (1, .int v1), (2, .int v2), (3, .int v4), (4, .int (v4 + (1 : Int32)))] [] H9) ∧ (¬ 0 < (x8 - x10) → (¬ (x8 - x10) = 0 → pm_RW none (d + 1) M_Mo_with Q 35 [(0, .ref 55), (1, .int v1), (2, .int v2), (3, .int v3), (4, .int (v4 + (1 : Int32)))] [] H9) ∧ ((x8 - x10) = 0 → pm_R d M_Mo_takes1 [.ref 55, .int v3] H9 (pm_i (fun x12 H11 => (x12 ≤ x6 → pm_RW none (d + 1) M_Mo_with Q 35 [(0, .ref 55), (1, .int v1), (2, .int v2), (3, .int v3), (4, .int (v4 + (1 : Int32)))] [] H11) ∧ (¬ x12 ≤ x6 → pm_RW none (d + 1) M_Mo_with Q 35 [(0, .ref 55), (1, .int v1), (2, .int v2), (3, .int v4), (4, .int (v4 + (1 : Int32)))] [] H11))))))))))))))) : pm_RW none (d + 1) M_Mo_with Q 35 [(0, .ref 55), (1, .int v1), (2, .int v2), (3, .int v3), (4, .int v4)] [] H :=
  pm_body tk_Mo_with 35 35 (show (((1 : Int32) <<< ((H.1 55 6) &&& 31)) ≤ v4 → (¬ v2 = 0 → (¬ v2 = (1 : Int32) → pm_R d M_Mo_takes1 [.ref 55, .int v3] H (pm_i (fun x2 H1 => Q (some (.int x2)) H1))) ∧ (v2 = (1 : Int32) → Q (some (.int v3)) H)) ∧ (v2 = 0 → pm_R d M_Mo_bitsOf [.int v3] H (pm_i (fun x4 H3 => Q (some (.int x4)) H3)))) ∧ (¬ ((1 : Int32) <<< ((H.1 55 6) &&& 31)) ≤ v4 → pm_R d M_Mo_takes1 [.ref 55, .int v4] H (pm_i (fun x6 H5 => (x6 < 0 → pm_RW none (d + 1) M_Mo_with Q 35 [(0, .ref 55), (1, .int v1), (2, .int v2), (3, .int v3), (4, .int (v4 + (1 : Int32)))] [] H5) ∧ (¬ x6 < 0 → (v1 < x6 → pm_RW none (d + 1) M_Mo_with Q 35 [(0, .ref 55), (1, .int v1), (2, .int v2), (3, .int v3), (4, .int (v4 + (1 : Int32)))] [] H5) ∧ (¬ v1 < x6 → pm_R d M_Mo_bitsOf [.int v4] H5 (pm_i (fun x8 H7 => pm_R d M_Mo_bitsOf [.int v3] H7 (pm_i (fun x10 H9 => (0 < (x8 - x10) → pm_RW none (d + 1) M_Mo_with Q 35 [(0, .ref 55), (1, .int v1), (2, .int v2), (3, .int v4), (4, .int (v4 + (1 : Int32)))] [] H9) ∧ (¬ 0 < (x8 - x10) → (¬ (x8 - x10) = 0 → pm_RW none (d + 1) M_Mo_with Q 35 [(0, .ref 55), (1, .int v1), (2, .int v2), (3, .int v3), (4, .int (v4 + (1 : Int32)))] [] H9) ∧ ((x8 - x10) = 0 → pm_R d M_Mo_takes1 [.ref 55, .int v3] H9 (pm_i (fun x12 H11 => (x12 ≤ x6 → pm_RW none (d + 1) M_Mo_with Q 35 [(0, .ref 55), (1, .int v1), (2, .int v2), (3, .int v3), (4, .int (v4 + (1 : Int32)))] [] H11) ∧ (¬ x12 ≤ x6 → pm_RW none (d + 1) M_Mo_with Q 35 [(0, .ref 55), (1, .int v1), (2, .int v2), (3, .int v4), (4, .int (v4 + (1 : Int32)))] [] H11)))))))))))))) from ⟨fun q1 => ⟨fun q2 => ⟨fun q3 => (((h.1 q1).1 q2).1 q3), fun q3 => (((h.1 q1).1 q2).2 q3)⟩, fun q2 => ((h.1 q1).2 q2)⟩, fun q1 => pm_mi (h.2 q1) (fun x6 H5 z6 => ⟨fun q7 => (z6.1 q7), fun q7 => ⟨fun q8 => ((z6.2 q7).1 q8), fun q8 => pm_mi ((z6.2 q7).2 q8) (fun x8 H7 z9 => pm_mi z9 (fun x10 H9 z10 => ⟨fun q11 => (z10.1 q11), fun q11 => ⟨fun q12 => ((z10.2 q11).1 q12), fun q12 => pm_mi ((z10.2 q11).2 q12) (fun x12 H11 z13 => ⟨fun q14 => (z13.1 q14), fun q14 => (z13.2 q14)⟩)⟩⟩))⟩⟩)⟩)
def T_Mo_spreads : List pmE := [
  (0, [], .iload 2, 0, 0, 0),
  (1, [], .ifCond .ne 142, 0, 0, 0),
  (4, [], .aload 0, 0, 0, 0),
  (5, [], .getfield 601, 0, 54, 1003),
  (8, [], .iconst 0, 0, 0, 0),
  (9, [], .iload 3, 0, 0, 0),
  (10, [], .iastore, 0, 0, 0),
  (11, [], .aload 0, 0, 0, 0),
  (12, [], .invokeinterface 172 644, 0, 228, 1250),
  (15, [], .iconst 0, 0, 0, 0),
  (16, [], .istore 5, 1, 0, 0),
  (18, [0, 1, 4, 5], .iload 5, 1, 0, 0),
  (20, [], .iload 4, 1, 0, 0),
  (22, [], .if_icmp .ge 64, 0, 0, 0),
  (25, [], .iconst 0, 0, 0, 0),
  (26, [], .istore 6, 1, 0, 0),
  (28, [0, 1, 4, 5, 6], .iload 6, 1, 0, 0),
  (30, [], .aload 0, 0, 0, 0),
  (31, [], .getfield 601, 0, 54, 1003),
  (34, [], .iload 5, 1, 0, 0),
  (36, [], .iaload, 0, 0, 0),
  (37, [], .if_icmp .ge 53, 0, 0, 0),
  (40, [], .aload 0, 0, 0, 0),
  (41, [], .iload 1, 0, 0, 0),
  (42, [], .iconst 1, 0, 0, 0),
  (43, [], .invokeinterface 177 653, 0, 238, 1300),
  (46, [], .pop, 0, 0, 0),
  (47, [], .iinc 6 1, 0, 0, 0),
  (50, [], .goto 28, 0, 0, 0),
  (53, [], .aload 0, 0, 0, 0),
  (54, [], .iload 1, 0, 0, 0),
  (55, [], .invokeinterface 178 648, 0, 235, 1296),
  (58, [], .iinc 5 1, 0, 0, 0),
  (61, [], .goto 18, 0, 0, 0),
  (64, [], .aload 0, 0, 0, 0),
  (65, [], .getfield 603, 0, 286, 1005),
  (68, [], .iconst (-2000000000), 4, 289, 1364),
  (71, [], .if_icmp .eq 94, 0, 0, 0),
  (74, [], .aload 0, 0, 0, 0),
  (75, [], .getfield 595, 0, 39, 997),
  (78, [], .iload 1, 0, 0, 0),
  (79, [], .iaload, 0, 0, 0),
  (80, [], .aload 0, 0, 0, 0),
  (81, [], .getfield 596, 0, 42, 998),
  (84, [], .iload 1, 0, 0, 0),
  (85, [], .iaload, 0, 0, 0),
  (86, [], .isub, 0, 0, 0),
  (87, [], .aload 0, 0, 0, 0),
  (88, [], .getfield 603, 0, 286, 1005),
  (91, [], .if_icmp .le 141, 0, 0, 0),
  (94, [], .aload 0, 0, 0, 0),
  (95, [], .aload 0, 0, 0, 0),
  (96, [], .getfield 595, 0, 39, 997),
  (99, [], .iload 1, 0, 0, 0),
  (100, [], .iaload, 0, 0, 0),
  (101, [], .aload 0, 0, 0, 0),
  (102, [], .getfield 596, 0, 42, 998),
  (105, [], .iload 1, 0, 0, 0),
  (106, [], .iaload, 0, 0, 0),
  (107, [], .isub, 0, 0, 0),
  (108, [], .putfield 603, 0, 286, 1005),
  (111, [], .iconst 0, 0, 0, 0),
  (112, [], .istore 5, 1, 0, 0),
  (114, [0, 4, 5], .iload 5, 1, 0, 0),
  (116, [], .iload 4, 1, 0, 0),
  (118, [], .if_icmp .ge 141, 0, 0, 0),
  (121, [], .aload 0, 0, 0, 0),
  (122, [], .getfield 602, 0, 57, 1004),
  (125, [], .iload 5, 1, 0, 0),
  (127, [], .aload 0, 0, 0, 0),
  (128, [], .getfield 601, 0, 54, 1003),
  (131, [], .iload 5, 1, 0, 0),
  (133, [], .iaload, 0, 0, 0),
  (134, [], .iastore, 0, 0, 0),
  (135, [], .iinc 5 1, 0, 0, 0),
  (138, [], .goto 114, 0, 0, 0),
  (141, [], .return_, 0, 0, 0),
  (142, [], .iload 3, 0, 0, 0),
  (143, [], .istore 5, 1, 0, 0),
  (145, [0, 1, 2, 3, 4, 5], .iload 5, 1, 0, 0),
  (147, [], .ifCond .lt 178, 0, 0, 0),
  (150, [], .aload 0, 0, 0, 0),
  (151, [], .getfield 601, 0, 54, 1003),
  (154, [], .iload 2, 0, 0, 0),
  (155, [], .iload 5, 1, 0, 0),
  (157, [], .iastore, 0, 0, 0),
  (158, [], .aload 0, 0, 0, 0),
  (159, [], .iload 1, 0, 0, 0),
  (160, [], .iload 2, 0, 0, 0),
  (161, [], .iconst 1, 0, 0, 0),
  (162, [], .isub, 0, 0, 0),
  (163, [], .iload 3, 0, 0, 0),
  (164, [], .iload 5, 1, 0, 0),
  (166, [], .isub, 0, 0, 0),
  (167, [], .iload 4, 1, 0, 0),
  (169, [], .invokeinterface 198 660, 0, 290, 1365),
  (172, [], .iinc 5 (-1), 0, 0, 0),
  (175, [], .goto 145, 0, 0, 0),
  (178, [], .return_, 0, 0, 0)]
theorem tk_Mo_spreads : pm_okT M_Mo_spreads T_Mo_spreads = true := by decide +kernel
theorem ok_Mo_spreads : pm_okm M_Mo_spreads := pm_okm_of _ 1368 85 1367 60 (by decide +kernel)
set_option maxRecDepth 100000 in
set_option maxHeartbeats 4000000 in
theorem m_Mo_spreads {d : Nat} {H : pmT} {Q : pmQ} (a1 : Int32) (a2 : Int32) (a3 : Int32) (a4 : Int32)
    (h : (¬ a2 = 0 → pm_RW none (d + 1) M_Mo_spreads Q 145 [(0, .ref 55), (1, .int a1), (2, .int a2), (3, .int a3), (4, .int a4), (5, .int a3)] [] H) ∧ (a2 = 0 → pm_R d M_Mo_begins1 [.ref 55] ((pm_up H.1 70 0 a3), H.2) (pm_v (fun H1 => pm_RW none (d + 1) M_Mo_spreads Q 18 [(0, .ref 55), (1, .int a1), (4, .int a4), (5, .int (0 : Int32))] [] H1)))) : pm_R (d + 1) M_Mo_spreads [.ref 55, .int a1, .int a2, .int a3, .int a4] H Q :=
  pm_walk (n := 12) ok_Mo_spreads tk_Mo_spreads rfl (Nat.le_of_ble_eq_true rfl) (show (¬ a2 = 0 → pm_RW none (d + 1) M_Mo_spreads Q 145 [(0, .ref 55), (1, .int a1), (2, .int a2), (3, .int a3), (4, .int a4), (5, .int a3)] [] H) ∧ (a2 = 0 → vp_in (0 : Int32) 5 ∧ (pm_R d M_Mo_begins1 [.ref 55] ((pm_up H.1 70 0 a3), H.2) (pm_v (fun H1 => pm_RW none (d + 1) M_Mo_spreads Q 18 [(0, .ref 55), (1, .int a1), (4, .int a4), (5, .int (0 : Int32))] [] H1)))) from ⟨fun q1 => (h.1 q1), fun q1 => ⟨(pm_ik rfl), (h.2 q1)⟩⟩)
set_option maxRecDepth 100000 in
set_option maxHeartbeats 4000000 in
theorem b_Mo_spreads_18 {d : Nat} {H : pmT} {Q : pmQ} (v1 : Int32) (v4 : Int32) (v5 : Int32)
    (h : (v4 ≤ v5 → ((H.1 55 27) = (-2000000000 : Int32) → vp_in v1 12 ∧ (pm_RW none (d + 1) M_Mo_spreads Q 114 [(0, .ref 55), (4, .int v4), (5, .int (0 : Int32))] [] ((pm_up H.1 55 27 ((H.1 65 v1.toNatClampNeg) - (H.1 66 v1.toNatClampNeg))), H.2))) ∧ (¬ (H.1 55 27) = (-2000000000 : Int32) → vp_in v1 12 ∧ ((((H.1 65 v1.toNatClampNeg) - (H.1 66 v1.toNatClampNeg)) ≤ (H.1 55 27) → Q none H) ∧ (¬ ((H.1 65 v1.toNatClampNeg) - (H.1 66 v1.toNatClampNeg)) ≤ (H.1 55 27) → pm_RW none (d + 1) M_Mo_spreads Q 114 [(0, .ref 55), (4, .int v4), (5, .int (0 : Int32))] [] ((pm_up H.1 55 27 ((H.1 65 v1.toNatClampNeg) - (H.1 66 v1.toNatClampNeg))), H.2))))) ∧ (¬ v4 ≤ v5 → pm_RW none (d + 1) M_Mo_spreads Q 28 [(0, .ref 55), (1, .int v1), (4, .int v4), (5, .int v5), (6, .int (0 : Int32))] [] H)) : pm_RW none (d + 1) M_Mo_spreads Q 18 [(0, .ref 55), (1, .int v1), (4, .int v4), (5, .int v5)] [] H :=
  pm_body tk_Mo_spreads 32 18 (show (v4 ≤ v5 → ((H.1 55 27) = (-2000000000 : Int32) → vp_in v1 12 ∧ (vp_in v1 12 ∧ (pm_RW none (d + 1) M_Mo_spreads Q 114 [(0, .ref 55), (4, .int v4), (5, .int (0 : Int32))] [] ((pm_up H.1 55 27 ((H.1 65 v1.toNatClampNeg) - (H.1 66 v1.toNatClampNeg))), H.2)))) ∧ (¬ (H.1 55 27) = (-2000000000 : Int32) → vp_in v1 12 ∧ (vp_in v1 12 ∧ ((((H.1 65 v1.toNatClampNeg) - (H.1 66 v1.toNatClampNeg)) ≤ (H.1 55 27) → Q none H) ∧ (¬ ((H.1 65 v1.toNatClampNeg) - (H.1 66 v1.toNatClampNeg)) ≤ (H.1 55 27) → vp_in v1 12 ∧ (vp_in v1 12 ∧ (pm_RW none (d + 1) M_Mo_spreads Q 114 [(0, .ref 55), (4, .int v4), (5, .int (0 : Int32))] [] ((pm_up H.1 55 27 ((H.1 65 v1.toNatClampNeg) - (H.1 66 v1.toNatClampNeg))), H.2)))))))) ∧ (¬ v4 ≤ v5 → pm_RW none (d + 1) M_Mo_spreads Q 28 [(0, .ref 55), (1, .int v1), (4, .int v4), (5, .int v5), (6, .int (0 : Int32))] [] H) from ⟨fun q1 => ⟨fun q2 => ⟨((h.1 q1).1 q2).1, ⟨((h.1 q1).1 q2).1, ((h.1 q1).1 q2).2⟩⟩, fun q2 => ⟨((h.1 q1).2 q2).1, ⟨((h.1 q1).2 q2).1, ⟨fun q3 => (((h.1 q1).2 q2).2.1 q3), fun q3 => ⟨((h.1 q1).2 q2).1, ⟨((h.1 q1).2 q2).1, (((h.1 q1).2 q2).2.2 q3)⟩⟩⟩⟩⟩⟩, fun q1 => (h.2 q1)⟩)
set_option maxRecDepth 100000 in
set_option maxHeartbeats 4000000 in
theorem b_Mo_spreads_28 {d : Nat} {H : pmT} {Q : pmQ} (v1 : Int32) (v4 : Int32) (v5 : Int32) (v6 : Int32)
    (h : vp_in v5 5 ∧ (((H.1 70 v5.toNatClampNeg) ≤ v6 → pm_R d M_Mo_nightOf [.ref 55, .int v1] H (pm_v (fun H1 => pm_RW none (d + 1) M_Mo_spreads Q 18 [(0, .ref 55), (1, .int v1), (4, .int v4), (5, .int (v5 + (1 : Int32)))] [] H1))) ∧ (¬ (H.1 70 v5.toNatClampNeg) ≤ v6 → pm_R d M_Mo_plays [.ref 55, .int v1, .int (1 : Int32)] H (pm_i (fun x3 H2 => pm_RW none (d + 1) M_Mo_spreads Q 28 [(0, .ref 55), (1, .int v1), (4, .int v4), (5, .int v5), (6, .int (v6 + (1 : Int32)))] [] H2))))) : pm_RW none (d + 1) M_Mo_spreads Q 28 [(0, .ref 55), (1, .int v1), (4, .int v4), (5, .int v5), (6, .int v6)] [] H :=
  pm_body tk_Mo_spreads 13 28 (show vp_in v5 5 ∧ (((H.1 70 v5.toNatClampNeg) ≤ v6 → pm_R d M_Mo_nightOf [.ref 55, .int v1] H (pm_v (fun H1 => pm_RW none (d + 1) M_Mo_spreads Q 18 [(0, .ref 55), (1, .int v1), (4, .int v4), (5, .int (v5 + (1 : Int32)))] [] H1))) ∧ (¬ (H.1 70 v5.toNatClampNeg) ≤ v6 → pm_R d M_Mo_plays [.ref 55, .int v1, .int (1 : Int32)] H (pm_i (fun x3 H2 => pm_RW none (d + 1) M_Mo_spreads Q 28 [(0, .ref 55), (1, .int v1), (4, .int v4), (5, .int v5), (6, .int (v6 + (1 : Int32)))] [] H2)))) from ⟨h.1, ⟨fun q1 => (h.2.1 q1), fun q1 => (h.2.2 q1)⟩⟩)
set_option maxRecDepth 100000 in
set_option maxHeartbeats 4000000 in
theorem b_Mo_spreads_114 {d : Nat} {H : pmT} {Q : pmQ} (v4 : Int32) (v5 : Int32)
    (h : (v4 ≤ v5 → Q none H) ∧ (¬ v4 ≤ v5 → vp_in v5 5 ∧ (pm_RW none (d + 1) M_Mo_spreads Q 114 [(0, .ref 55), (4, .int v4), (5, .int (v5 + (1 : Int32)))] [] ((pm_up H.1 71 v5.toNatClampNeg (H.1 70 v5.toNatClampNeg)), H.2)))) : pm_RW none (d + 1) M_Mo_spreads Q 114 [(0, .ref 55), (4, .int v4), (5, .int v5)] [] H :=
  pm_body tk_Mo_spreads 13 114 (show (v4 ≤ v5 → Q none H) ∧ (¬ v4 ≤ v5 → vp_in v5 5 ∧ (vp_in v5 5 ∧ (pm_RW none (d + 1) M_Mo_spreads Q 114 [(0, .ref 55), (4, .int v4), (5, .int (v5 + (1 : Int32)))] [] ((pm_up H.1 71 v5.toNatClampNeg (H.1 70 v5.toNatClampNeg)), H.2)))) from ⟨fun q1 => (h.1 q1), fun q1 => ⟨(h.2 q1).1, ⟨(h.2 q1).1, (h.2 q1).2⟩⟩⟩)
set_option maxRecDepth 100000 in
set_option maxHeartbeats 4000000 in
theorem b_Mo_spreads_145 {d : Nat} {H : pmT} {Q : pmQ} (v1 : Int32) (v2 : Int32) (v3 : Int32) (v4 : Int32) (v5 : Int32)
    (h : (v5 < 0 → Q none H) ∧ (¬ v5 < 0 → vp_in v2 5 ∧ (pm_R d M_Mo_spreads [.ref 55, .int v1, .int (v2 - (1 : Int32)), .int (v3 - v5), .int v4] ((pm_up H.1 70 v2.toNatClampNeg v5), H.2) (pm_v (fun H1 => pm_RW none (d + 1) M_Mo_spreads Q 145 [(0, .ref 55), (1, .int v1), (2, .int v2), (3, .int v3), (4, .int v4), (5, .int (v5 + (-1 : Int32)))] [] H1))))) : pm_RW none (d + 1) M_Mo_spreads Q 145 [(0, .ref 55), (1, .int v1), (2, .int v2), (3, .int v3), (4, .int v4), (5, .int v5)] [] H :=
  pm_body tk_Mo_spreads 19 145 (show (v5 < 0 → Q none H) ∧ (¬ v5 < 0 → vp_in v2 5 ∧ (pm_R d M_Mo_spreads [.ref 55, .int v1, .int (v2 - (1 : Int32)), .int (v3 - v5), .int v4] ((pm_up H.1 70 v2.toNatClampNeg v5), H.2) (pm_v (fun H1 => pm_RW none (d + 1) M_Mo_spreads Q 145 [(0, .ref 55), (1, .int v1), (2, .int v2), (3, .int v3), (4, .int v4), (5, .int (v5 + (-1 : Int32)))] [] H1)))) from ⟨fun q1 => (h.1 q1), fun q1 => ⟨(h.2 q1).1, (h.2 q1).2⟩⟩)
def T_Mo_spread : List pmE := [
  (0, [], .aload 0, 0, 0, 0),
  (1, [], .iload 1, 0, 0, 0),
  (2, [], .i2l, 0, 0, 0),
  (3, [], .invokeinterface 150 649, 0, 136, 1177),
  (6, [], .ifCond .eq 55, 0, 0, 0),
  (9, [], .iload 2, 0, 0, 0),
  (10, [], .ifCond .lt 55, 0, 0, 0),
  (13, [], .iload 2, 0, 0, 0),
  (14, [], .iconst 10, 1, 0, 0),
  (16, [], .idiv, 0, 0, 0),
  (17, [], .iconst 12, 1, 0, 0),
  (19, [], .if_icmp .gt 55, 0, 0, 0),
  (22, [], .iload 2, 0, 0, 0),
  (23, [], .iconst 10, 1, 0, 0),
  (25, [], .irem, 0, 0, 0),
  (26, [], .i2l, 0, 0, 0),
  (27, [], .jsr 1, 0, 0, 0),
  (28, [], .jsr 5, 1, 294, 1166),
  (31, [], .invokeinterface 143 13, 1, 114, 1152),
  (34, [], .ifCond .eq 55, 0, 0, 0),
  (37, [], .iload 3, 0, 0, 0),
  (38, [], .i2l, 0, 0, 0),
  (39, [], .jsr (-1), 1, 296, 1363),
  (42, [], .iload 2, 0, 0, 0),
  (43, [], .iconst 10, 1, 0, 0),
  (45, [], .irem, 0, 0, 0),
  (46, [], .iconst 1, 0, 0, 0),
  (47, [], .isub, 0, 0, 0),
  (48, [], .i2l, 0, 0, 0),
  (49, [], .invokeinterface 143 13, 1, 114, 1152),
  (52, [], .ifCond .ne 59, 0, 0, 0),
  (55, [], .iconst (-2000000000), 4, 289, 1364),
  (58, [], .ireturn, 0, 0, 0),
  (59, [], .aload 0, 0, 0, 0),
  (60, [], .iconst (-2000000000), 4, 289, 1364),
  (63, [], .putfield 603, 0, 286, 1005),
  (66, [], .aload 0, 0, 0, 0),
  (67, [], .iload 1, 0, 0, 0),
  (68, [], .iload 2, 0, 0, 0),
  (69, [], .iconst 10, 1, 0, 0),
  (71, [], .irem, 0, 0, 0),
  (72, [], .iconst 1, 0, 0, 0),
  (73, [], .isub, 0, 0, 0),
  (74, [], .iload 2, 0, 0, 0),
  (75, [], .iconst 10, 1, 0, 0),
  (77, [], .idiv, 0, 0, 0),
  (78, [], .iload 2, 0, 0, 0),
  (79, [], .iconst 10, 1, 0, 0),
  (81, [], .irem, 0, 0, 0),
  (82, [], .invokeinterface 198 660, 0, 290, 1365),
  (85, [], .iload 3, 0, 0, 0),
  (86, [], .ifCond .ge 96, 0, 0, 0),
  (89, [], .aload 0, 0, 0, 0),
  (90, [], .getfield 603, 0, 286, 1005),
  (93, [], .goto 102, 0, 0, 0),
  (96, [], .aload 0, 0, 0, 0),
  (97, [], .getfield 602, 0, 57, 1004),
  (100, [], .iload 3, 0, 0, 0),
  (101, [], .iaload, 0, 0, 0),
  (102, [], .ireturn, 0, 0, 0)]
theorem tk_Mo_spread : pm_okT M_Mo_spread T_Mo_spread = true := by decide +kernel
theorem ok_Mo_spread : pm_okm M_Mo_spread := pm_okm_of _ 1362 85 1360 1361 (by decide +kernel)
set_option maxRecDepth 100000 in
set_option maxHeartbeats 4000000 in
theorem m_Mo_spread {d : Nat} {H : pmT} {Q : pmQ} (a1 : Int32) (a2 : Int32) (a3 : Int32)
    (h : ((lg_cmp a1.toInt64 (0 : Int64)) < 0 → Q (some (.int (-2000000000 : Int32))) H) ∧ (¬ (lg_cmp a1.toInt64 (0 : Int64)) < 0 → (0 < (lg_cmp a1.toInt64 (((H.1 55 6) - (1 : Int32)).toInt64)) → Q (some (.int (-2000000000 : Int32))) H) ∧ (¬ 0 < (lg_cmp a1.toInt64 (((H.1 55 6) - (1 : Int32)).toInt64)) → (a2 < 0 → Q (some (.int (-2000000000 : Int32))) H) ∧ (¬ a2 < 0 → ((12 : Int32) < (a2 / (10 : Int32)) → Q (some (.int (-2000000000 : Int32))) H) ∧ (¬ (12 : Int32) < (a2 / (10 : Int32)) → ((lg_cmp ((a2 - a2 / (10 : Int32) * (10 : Int32)).toInt64) (1 : Int64)) < 0 → Q (some (.int (-2000000000 : Int32))) H) ∧ (¬ (lg_cmp ((a2 - a2 / (10 : Int32) * (10 : Int32)).toInt64) (1 : Int64)) < 0 → (0 < (lg_cmp ((a2 - a2 / (10 : Int32) * (10 : Int32)).toInt64) (5 : Int64)) → Q (some (.int (-2000000000 : Int32))) H) ∧ (¬ 0 < (lg_cmp ((a2 - a2 / (10 : Int32) * (10 : Int32)).toInt64) (5 : Int64)) → ((lg_cmp a3.toInt64 (-1 : Int64)) < 0 → Q (some (.int (-2000000000 : Int32))) H) ∧ (¬ (lg_cmp a3.toInt64 (-1 : Int64)) < 0 → (0 < (lg_cmp a3.toInt64 (((a2 - a2 / (10 : Int32) * (10 : Int32)) - (1 : Int32)).toInt64)) → Q (some (.int (-2000000000 : Int32))) H) ∧ (¬ 0 < (lg_cmp a3.toInt64 (((a2 - a2 / (10 : Int32) * (10 : Int32)) - (1 : Int32)).toInt64)) → pm_R (d + 1) M_Mo_spreads [.ref 55, .int a1, .int ((a2 - a2 / (10 : Int32) * (10 : Int32)) - (1 : Int32)), .int (a2 / (10 : Int32)), .int (a2 - a2 / (10 : Int32) * (10 : Int32))] ((pm_up H.1 55 27 (-2000000000 : Int32)), H.2) (pm_v (fun H27 => (0 ≤ a3 → vp_in a3 5 ∧ (Q (some (.int (H27.1 71 a3.toNatClampNeg))) H27)) ∧ (¬ 0 ≤ a3 → Q (some (.int (H27.1 55 27))) H27)))))))))))) : pm_R (d + 2) M_Mo_spread [.ref 55, .int a1, .int a2, .int a3] H Q :=
  pm_walk (n := 55) ok_Mo_spread tk_Mo_spread rfl (Nat.le_of_ble_eq_true rfl) (show pm_R (d + 1) M_Mo_isBar [.ref 55, .long a1.toInt64] H (pm_i (fun x2 H1 => (x2 = 0 → Q (some (.int (-2000000000 : Int32))) H1) ∧ (¬ x2 = 0 → (a2 < 0 → Q (some (.int (-2000000000 : Int32))) H1) ∧ (¬ a2 < 0 → ¬ (10 : Int32) = 0 ∧ (((12 : Int32) < (a2 / (10 : Int32)) → Q (some (.int (-2000000000 : Int32))) H1) ∧ (¬ (12 : Int32) < (a2 / (10 : Int32)) → ¬ (10 : Int32) = 0 ∧ (pm_R (d + 1) M_Mo_within [.long ((a2 - a2 / (10 : Int32) * (10 : Int32)).toInt64), .long (1 : Int64), .long (5 : Int64)] H1 (pm_i (fun x4 H3 => (x4 = 0 → Q (some (.int (-2000000000 : Int32))) H3) ∧ (¬ x4 = 0 → ¬ (10 : Int32) = 0 ∧ (pm_R (d + 1) M_Mo_within [.long a3.toInt64, .long (-1 : Int64), .long (((a2 - a2 / (10 : Int32) * (10 : Int32)) - (1 : Int32)).toInt64)] H3 (pm_i (fun x6 H5 => (¬ x6 = 0 → ¬ (10 : Int32) = 0 ∧ (¬ (10 : Int32) = 0 ∧ (¬ (10 : Int32) = 0 ∧ (pm_R (d + 1) M_Mo_spreads [.ref 55, .int a1, .int ((a2 - a2 / (10 : Int32) * (10 : Int32)) - (1 : Int32)), .int (a2 / (10 : Int32)), .int (a2 - a2 / (10 : Int32) * (10 : Int32))] ((pm_up H5.1 55 27 (-2000000000 : Int32)), H5.2) (pm_v (fun H7 => (0 ≤ a3 → vp_in a3 5 ∧ (Q (some (.int (H7.1 71 a3.toNatClampNeg))) H7)) ∧ (¬ 0 ≤ a3 → Q (some (.int (H7.1 55 27))) H7))))))) ∧ (x6 = 0 → Q (some (.int (-2000000000 : Int32))) H5)))))))))))))) from u_Mo_isBar a1.toInt64 (u_Mo_within a1.toInt64 (0 : Int64) (((H.1 55 6) - (1 : Int32)).toInt64) (⟨fun q1 => ⟨Or.inl rfl, ⟨Or.inl rfl, ⟨fun _ => (h.1 q1), fun z => absurd (by decide) z⟩⟩⟩, fun q1 => ⟨fun q2 => ⟨Or.inl rfl, ⟨Or.inl rfl, ⟨fun _ => ((h.2 q1).1 q2), fun z => absurd (by decide) z⟩⟩⟩, fun q2 => ⟨Or.inr rfl, ⟨Or.inr rfl, ⟨fun z => absurd z (by decide), fun _ => ⟨fun q3 => (((h.2 q1).2 q2).1 q3), fun q3 => ⟨(by decide), ⟨fun q4 => ((((h.2 q1).2 q2).2 q3).1 q4), fun q4 => ⟨(by decide), u_Mo_within ((a2 - a2 / (10 : Int32) * (10 : Int32)).toInt64) (1 : Int64) (5 : Int64) (⟨fun q5 => ⟨Or.inl rfl, ⟨fun _ => (((((h.2 q1).2 q2).2 q3).2 q4).1 q5), fun z => absurd (by decide) z⟩⟩, fun q5 => ⟨fun q6 => ⟨Or.inl rfl, ⟨fun _ => ((((((h.2 q1).2 q2).2 q3).2 q4).2 q5).1 q6), fun z => absurd (by decide) z⟩⟩, fun q6 => ⟨Or.inr rfl, ⟨fun z => absurd z (by decide), fun _ => ⟨(by decide), u_Mo_within a3.toInt64 (-1 : Int64) (((a2 - a2 / (10 : Int32) * (10 : Int32)) - (1 : Int32)).toInt64) (⟨fun q7 => ⟨Or.inl rfl, ⟨fun z => absurd (by decide) z, fun _ => (((((((h.2 q1).2 q2).2 q3).2 q4).2 q5).2 q6).1 q7)⟩⟩, fun q7 => ⟨fun q8 => ⟨Or.inl rfl, ⟨fun z => absurd (by decide) z, fun _ => ((((((((h.2 q1).2 q2).2 q3).2 q4).2 q5).2 q6).2 q7).1 q8)⟩⟩, fun q8 => ⟨Or.inr rfl, ⟨fun _ => ⟨(by decide), ⟨(by decide), ⟨(by decide), pm_mv' ((((((((h.2 q1).2 q2).2 q3).2 q4).2 q5).2 q6).2 q7).2 q8) (fun H27 z9 => ⟨fun q10 => ⟨(z9.1 q10).1, (z9.1 q10).2⟩, fun q10 => (z9.2 q10)⟩)⟩⟩⟩, fun z => absurd z (by decide)⟩⟩⟩⟩)⟩⟩⟩⟩⟩)⟩⟩⟩⟩⟩⟩⟩⟩⟩)))
def T_Mo_stop : List pmE := [
  (0, [], .aload 0, 0, 0, 0),
  (1, [], .iload 1, 0, 0, 0),
  (2, [], .invokeinterface 181 649, 0, 251, 1270),
  (5, [], .ifCond .ge 14, 0, 0, 0),
  (8, [], .aload 0, 0, 0, 0),
  (9, [], .iload 1, 0, 0, 0),
  (10, [], .invokeinterface 181 649, 0, 251, 1270),
  (13, [], .ireturn, 0, 0, 0),
  (14, [], .aload 0, 0, 0, 0),
  (15, [], .iload 1, 0, 0, 0),
  (16, [], .invokeinterface 185 649, 0, 254, 1274),
  (19, [], .istore 2, 0, 0, 0),
  (20, [], .aload 0, 0, 0, 0),
  (21, [], .iload 1, 0, 0, 0),
  (22, [], .iload 2, 0, 0, 0),
  (23, [], .invokeinterface 186 653, 0, 257, 1288),
  (26, [], .pop, 0, 0, 0),
  (27, [], .aload 0, 0, 0, 0),
  (28, [], .invokeinterface 189 645, 0, 265, 1317),
  (31, [], .invokeinterface 145 5, 1, 268, 1325),
  (34, [], .istore 3, 0, 0, 0),
  (35, [], .iconst 0, 0, 0, 0),
  (36, [], .istore 4, 1, 0, 0),
  (38, [0, 1, 2, 3, 4], .iload 4, 1, 0, 0),
  (40, [], .iload 2, 0, 0, 0),
  (41, [], .if_icmp .ge 72, 0, 0, 0),
  (44, [], .aload 0, 0, 0, 0),
  (45, [], .iload 1, 0, 0, 0),
  (46, [], .iload 4, 1, 0, 0),
  (48, [], .invokeinterface 186 653, 0, 257, 1288),
  (51, [], .pop, 0, 0, 0),
  (52, [], .aload 0, 0, 0, 0),
  (53, [], .invokeinterface 189 645, 0, 265, 1317),
  (56, [], .invokeinterface 145 5, 1, 268, 1325),
  (59, [], .iload 3, 0, 0, 0),
  (60, [], .if_icmp .lt 66, 0, 0, 0),
  (63, [], .iload 4, 1, 0, 0),
  (65, [], .ireturn, 0, 0, 0),
  (66, [], .iinc 4 1, 0, 0, 0),
  (69, [], .goto 38, 0, 0, 0),
  (72, [], .iload 2, 0, 0, 0),
  (73, [], .ireturn, 0, 0, 0)]
theorem tk_Mo_stop : pm_okT M_Mo_stop T_Mo_stop = true := by decide +kernel
theorem ok_Mo_stop : pm_okm M_Mo_stop := pm_okm_of _ 1372 85 1370 1371 (by decide +kernel)
set_option maxRecDepth 100000 in
set_option maxHeartbeats 4000000 in
theorem m_Mo_stop {d : Nat} {H : pmT} {Q : pmQ} (a1 : Int32)
    (h : ((lg_cmp a1.toInt64 (0 : Int64)) < 0 → Q (some (.int (-1 : Int32))) H) ∧ (¬ (lg_cmp a1.toInt64 (0 : Int64)) < 0 → (0 < (lg_cmp a1.toInt64 (5 : Int64)) → Q (some (.int (-1 : Int32))) H) ∧ (¬ 0 < (lg_cmp a1.toInt64 (5 : Int64)) → vp_in a1 6 ∧ ((0 ≤ (H.1 81 a1.toNatClampNeg) → (¬ (H.1 81 a1.toNatClampNeg) = (50 : Int32) → Q (some (.int (-12 : Int32))) H) ∧ ((H.1 81 a1.toNatClampNeg) = (50 : Int32) → pm_R (d + 2) M_Mo_planMany [.ref 55, .int a1] H (pm_i (fun x74 H73 => pm_R (d + 2) M_Mo_doesPlan [.ref 55, .int a1, .int x74] H73 (pm_i (fun x76 H75 => pm_R (d + 2) M_Mo_rightSet [.ref 55] H75 (pm_i (fun x78 H77 => pm_R (d + 2) M_Mo_bitsOf [.int x78] H77 (pm_i (fun x80 H79 => pm_RW none (d + 3) M_Mo_stop Q 38 [(0, .ref 55), (1, .int a1), (2, .int x74), (3, .int x80), (4, .int (0 : Int32))] [] H79)))))))))) ∧ (¬ 0 ≤ (H.1 81 a1.toNatClampNeg) → Q (some (.int (-11 : Int32))) H))))) : pm_R (d + 3) M_Mo_stop [.ref 55, .int a1] H Q :=
  pm_walk (n := 20) ok_Mo_stop tk_Mo_stop rfl (Nat.le_of_ble_eq_true rfl) (show pm_R (d + 2) M_Mo_bytesIs [.ref 55, .int a1] H (pm_i (fun x2 H1 => (0 ≤ x2 → pm_R (d + 2) M_Mo_planMany [.ref 55, .int a1] H1 (pm_i (fun x4 H3 => pm_R (d + 2) M_Mo_doesPlan [.ref 55, .int a1, .int x4] H3 (pm_i (fun x6 H5 => pm_R (d + 2) M_Mo_rightSet [.ref 55] H5 (pm_i (fun x8 H7 => pm_R (d + 2) M_Mo_bitsOf [.int x8] H7 (pm_i (fun x10 H9 => pm_RW none (d + 3) M_Mo_stop Q 38 [(0, .ref 55), (1, .int a1), (2, .int x4), (3, .int x10), (4, .int (0 : Int32))] [] H9))))))))) ∧ (¬ 0 ≤ x2 → pm_R (d + 2) M_Mo_bytesIs [.ref 55, .int a1] H1 (pm_i (fun x12 H11 => Q (some (.int x12)) H11))))) from u_Mo_bytesIs a1 (u_Mo_isShelf a1 (u_Mo_within a1.toInt64 (0 : Int64) (5 : Int64) (⟨fun q1 => ⟨Or.inl rfl, ⟨Or.inl rfl, ⟨fun z => absurd (by decide) z, fun _ => ⟨fun z => absurd z (by decide), fun _ => u_Mo_bytesIs a1 (u_Mo_isShelf a1 (u_Mo_within a1.toInt64 (0 : Int64) (5 : Int64) (⟨fun _ => ⟨Or.inl rfl, ⟨Or.inl rfl, ⟨fun z => absurd (by decide) z, fun _ => (h.1 q1)⟩⟩⟩, fun z => absurd q1 z⟩)))⟩⟩⟩⟩, fun q1 => ⟨fun q2 => ⟨Or.inl rfl, ⟨Or.inl rfl, ⟨fun z => absurd (by decide) z, fun _ => ⟨fun z => absurd z (by decide), fun _ => u_Mo_bytesIs a1 (u_Mo_isShelf a1 (u_Mo_within a1.toInt64 (0 : Int64) (5 : Int64) (⟨fun z => absurd z q1, fun _ => ⟨fun _ => ⟨Or.inl rfl, ⟨Or.inl rfl, ⟨fun z => absurd (by decide) z, fun _ => ((h.2 q1).1 q2)⟩⟩⟩, fun z => absurd q2 z⟩⟩)))⟩⟩⟩⟩, fun q2 => ⟨Or.inr rfl, ⟨Or.inr rfl, ⟨fun _ => ⟨((h.2 q1).2 q2).1, ⟨fun q3 => ⟨((h.2 q1).2 q2).1, ⟨fun q4 => ⟨fun z => absurd z (by decide), fun _ => u_Mo_bytesIs a1 (u_Mo_isShelf a1 (u_Mo_within a1.toInt64 (0 : Int64) (5 : Int64) (⟨fun z => absurd z q1, fun _ => ⟨fun z => absurd z q2, fun _ => ⟨Or.inr rfl, ⟨Or.inr rfl, ⟨fun _ => ⟨((h.2 q1).2 q2).1, ⟨fun _ => ⟨((h.2 q1).2 q2).1, ⟨fun _ => ((((h.2 q1).2 q2).2.1 q3).1 q4), fun z => absurd z q4⟩⟩, fun z => absurd q3 z⟩⟩, fun z => absurd z (by decide)⟩⟩⟩⟩⟩)))⟩, fun q4 => ⟨fun _ => ((((h.2 q1).2 q2).2.1 q3).2 q4), fun z => absurd (by decide) z⟩⟩⟩, fun q3 => ⟨fun z => absurd z (by decide), fun _ => u_Mo_bytesIs a1 (u_Mo_isShelf a1 (u_Mo_within a1.toInt64 (0 : Int64) (5 : Int64) (⟨fun z => absurd z q1, fun _ => ⟨fun z => absurd z q2, fun _ => ⟨Or.inr rfl, ⟨Or.inr rfl, ⟨fun _ => ⟨((h.2 q1).2 q2).1, ⟨fun z => absurd z q3, fun _ => (((h.2 q1).2 q2).2.2 q3)⟩⟩, fun z => absurd z (by decide)⟩⟩⟩⟩⟩)))⟩⟩⟩, fun z => absurd z (by decide)⟩⟩⟩⟩⟩))))
set_option maxRecDepth 100000 in
set_option maxHeartbeats 4000000 in
theorem b_Mo_stop_38 {d : Nat} {H : pmT} {Q : pmQ} (v1 : Int32) (v2 : Int32) (v3 : Int32) (v4 : Int32)
    (h : (v2 ≤ v4 → Q (some (.int v2)) H) ∧ (¬ v2 ≤ v4 → pm_R (d + 2) M_Mo_doesPlan [.ref 55, .int v1, .int v4] H (pm_i (fun x2 H1 => pm_R (d + 2) M_Mo_rightSet [.ref 55] H1 (pm_i (fun x4 H3 => pm_R (d + 2) M_Mo_bitsOf [.int x4] H3 (pm_i (fun x6 H5 => (x6 < v3 → pm_RW none (d + 3) M_Mo_stop Q 38 [(0, .ref 55), (1, .int v1), (2, .int v2), (3, .int v3), (4, .int (v4 + (1 : Int32)))] [] H5) ∧ (¬ x6 < v3 → Q (some (.int v4)) H5))))))))) : pm_RW none (d + 3) M_Mo_stop Q 38 [(0, .ref 55), (1, .int v1), (2, .int v2), (3, .int v3), (4, .int v4)] [] H :=
  pm_body tk_Mo_stop 15 38 (show (v2 ≤ v4 → Q (some (.int v2)) H) ∧ (¬ v2 ≤ v4 → pm_R (d + 2) M_Mo_doesPlan [.ref 55, .int v1, .int v4] H (pm_i (fun x2 H1 => pm_R (d + 2) M_Mo_rightSet [.ref 55] H1 (pm_i (fun x4 H3 => pm_R (d + 2) M_Mo_bitsOf [.int x4] H3 (pm_i (fun x6 H5 => (x6 < v3 → pm_RW none (d + 3) M_Mo_stop Q 38 [(0, .ref 55), (1, .int v1), (2, .int v2), (3, .int v3), (4, .int (v4 + (1 : Int32)))] [] H5) ∧ (¬ x6 < v3 → Q (some (.int v4)) H5)))))))) from ⟨fun q1 => (h.1 q1), fun q1 => pm_mi (h.2 q1) (fun x2 H1 z2 => pm_mi z2 (fun x4 H3 z3 => pm_mi z3 (fun x6 H5 z4 => ⟨fun q5 => (z4.1 q5), fun q5 => (z4.2 q5)⟩)))⟩)
def T_Mo_finger : List pmE := [
  (0, [], .aload 0, 0, 0, 0),
  (1, [], .iload 1, 0, 0, 0),
  (2, [], .i2l, 0, 0, 0),
  (3, [], .invokeinterface 150 649, 0, 136, 1177),
  (6, [], .ifCond .eq 19, 0, 0, 0),
  (9, [], .iload 2, 0, 0, 0),
  (10, [], .i2l, 0, 0, 0),
  (11, [], .jsr 0, 0, 0, 0),
  (12, [], .jsr 1, 0, 0, 0),
  (13, [], .invokeinterface 143 13, 1, 114, 1152),
  (16, [], .ifCond .ne 23, 0, 0, 0),
  (19, [], .iconst (-2000000000), 4, 289, 1364),
  (22, [], .ireturn, 0, 0, 0),
  (23, [], .aload 0, 0, 0, 0),
  (24, [], .invokeinterface 172 644, 0, 228, 1250),
  (27, [], .aload 0, 0, 0, 0),
  (28, [], .iload 1, 0, 0, 0),
  (29, [], .iconst 0, 0, 0, 0),
  (30, [], .invokeinterface 192 653, 0, 274, 1336),
  (33, [], .istore 3, 0, 0, 0),
  (34, [], .aload 0, 0, 0, 0),
  (35, [], .invokeinterface 172 644, 0, 228, 1250),
  (38, [], .aload 0, 0, 0, 0),
  (39, [], .getfield 595, 0, 39, 997),
  (42, [], .iload 1, 0, 0, 0),
  (43, [], .iconst 0, 0, 0, 0),
  (44, [], .iastore, 0, 0, 0),
  (45, [], .aload 0, 0, 0, 0),
  (46, [], .getfield 596, 0, 42, 998),
  (49, [], .iload 1, 0, 0, 0),
  (50, [], .iconst 0, 0, 0, 0),
  (51, [], .iastore, 0, 0, 0),
  (52, [], .aload 0, 0, 0, 0),
  (53, [], .iload 1, 0, 0, 0),
  (54, [], .iconst 0, 0, 0, 0),
  (55, [], .invokeinterface 192 653, 0, 274, 1336),
  (58, [], .istore 4, 1, 0, 0),
  (60, [], .iload 3, 0, 0, 0),
  (61, [], .ifCond .ge 70, 0, 0, 0),
  (64, [], .iconst 1000, 2, 0, 0),
  (67, [], .goto 71, 0, 0, 0),
  (70, [], .iload 3, 0, 0, 0),
  (71, [], .aload 0, 0, 0, 0),
  (72, [], .getfield 576, 0, 11, 978),
  (75, [], .iconst 40, 1, 0, 0),
  (77, [], .iaload, 0, 0, 0),
  (78, [], .isub, 0, 0, 0),
  (79, [], .iload 4, 1, 0, 0),
  (81, [], .ifCond .ge 90, 0, 0, 0),
  (84, [], .iconst 1000, 2, 0, 0),
  (87, [], .goto 92, 0, 0, 0),
  (90, [], .iload 4, 1, 0, 0),
  (92, [], .isub, 0, 0, 0),
  (93, [], .istore 5, 1, 0, 0),
  (95, [], .iload 2, 0, 0, 0),
  (96, [], .iconst 1, 0, 0, 0),
  (97, [], .if_icmp .ne 105, 0, 0, 0),
  (100, [], .iload 5, 1, 0, 0),
  (102, [], .goto 115, 0, 0, 0),
  (105, [], .iload 5, 1, 0, 0),
  (107, [], .ifCond .le 114, 0, 0, 0),
  (110, [], .iconst 1, 0, 0, 0),
  (111, [], .goto 115, 0, 0, 0),
  (114, [], .iconst 0, 0, 0, 0),
  (115, [], .ireturn, 0, 0, 0)]
theorem tk_Mo_finger : pm_okT M_Mo_finger T_Mo_finger = true := by decide +kernel
theorem ok_Mo_finger : pm_okm M_Mo_finger := pm_okm_of _ 1376 85 1374 1375 (by decide +kernel)
set_option maxRecDepth 100000 in
set_option maxHeartbeats 4000000 in
theorem m_Mo_finger {d : Nat} {H : pmT} {Q : pmQ} (a1 : Int32) (a2 : Int32)
    (h : ((lg_cmp a1.toInt64 (0 : Int64)) < 0 → Q (some (.int (-2000000000 : Int32))) H) ∧ (¬ (lg_cmp a1.toInt64 (0 : Int64)) < 0 → (0 < (lg_cmp a1.toInt64 (((H.1 55 6) - (1 : Int32)).toInt64)) → Q (some (.int (-2000000000 : Int32))) H) ∧ (¬ 0 < (lg_cmp a1.toInt64 (((H.1 55 6) - (1 : Int32)).toInt64)) → ((lg_cmp a2.toInt64 (0 : Int64)) < 0 → Q (some (.int (-2000000000 : Int32))) H) ∧ (¬ (lg_cmp a2.toInt64 (0 : Int64)) < 0 → (0 < (lg_cmp a2.toInt64 (1 : Int64)) → Q (some (.int (-2000000000 : Int32))) H) ∧ (¬ 0 < (lg_cmp a2.toInt64 (1 : Int64)) → pm_R (d + 1) M_Mo_begins1 [.ref 55] H (pm_v (fun H49 => pm_R (d + 1) M_Mo_timesOf [.ref 55, .int a1, .int (0 : Int32)] H49 (pm_i (fun x51 H50 => pm_R (d + 1) M_Mo_begins1 [.ref 55] H50 (pm_v (fun H52 => vp_in a1 12 ∧ (pm_R (d + 1) M_Mo_timesOf [.ref 55, .int a1, .int (0 : Int32)] ((pm_up (pm_up H52.1 65 a1.toNatClampNeg (0 : Int32)) 66 a1.toNatClampNeg (0 : Int32)), H52.2) (pm_i (fun x54 H53 => (0 ≤ x51 → (0 ≤ x54 → (¬ a2 = (1 : Int32) → (((x51 - (H53.1 56 40)) - x54) ≤ 0 → Q (some (.int (0 : Int32))) H53) ∧ (¬ ((x51 - (H53.1 56 40)) - x54) ≤ 0 → Q (some (.int (1 : Int32))) H53)) ∧ (a2 = (1 : Int32) → Q (some (.int ((x51 - (H53.1 56 40)) - x54))) H53)) ∧ (¬ 0 ≤ x54 → (¬ a2 = (1 : Int32) → (((x51 - (H53.1 56 40)) - (1000 : Int32)) ≤ 0 → Q (some (.int (0 : Int32))) H53) ∧ (¬ ((x51 - (H53.1 56 40)) - (1000 : Int32)) ≤ 0 → Q (some (.int (1 : Int32))) H53)) ∧ (a2 = (1 : Int32) → Q (some (.int ((x51 - (H53.1 56 40)) - (1000 : Int32)))) H53))) ∧ (¬ 0 ≤ x51 → (0 ≤ x54 → (¬ a2 = (1 : Int32) → ((((1000 : Int32) - (H53.1 56 40)) - x54) ≤ 0 → Q (some (.int (0 : Int32))) H53) ∧ (¬ (((1000 : Int32) - (H53.1 56 40)) - x54) ≤ 0 → Q (some (.int (1 : Int32))) H53)) ∧ (a2 = (1 : Int32) → Q (some (.int (((1000 : Int32) - (H53.1 56 40)) - x54))) H53)) ∧ (¬ 0 ≤ x54 → (¬ a2 = (1 : Int32) → ((((1000 : Int32) - (H53.1 56 40)) - (1000 : Int32)) ≤ 0 → Q (some (.int (0 : Int32))) H53) ∧ (¬ (((1000 : Int32) - (H53.1 56 40)) - (1000 : Int32)) ≤ 0 → Q (some (.int (1 : Int32))) H53)) ∧ (a2 = (1 : Int32) → Q (some (.int (((1000 : Int32) - (H53.1 56 40)) - (1000 : Int32)))) H53))))))))))))))))) : pm_R (d + 2) M_Mo_finger [.ref 55, .int a1, .int a2] H Q :=
  pm_walk (n := 58) ok_Mo_finger tk_Mo_finger rfl (Nat.le_of_ble_eq_true rfl) (show pm_R (d + 1) M_Mo_isBar [.ref 55, .long a1.toInt64] H (pm_i (fun x2 H1 => (x2 = 0 → Q (some (.int (-2000000000 : Int32))) H1) ∧ (¬ x2 = 0 → pm_R (d + 1) M_Mo_within [.long a2.toInt64, .long (0 : Int64), .long (1 : Int64)] H1 (pm_i (fun x4 H3 => (¬ x4 = 0 → pm_R (d + 1) M_Mo_begins1 [.ref 55] H3 (pm_v (fun H5 => pm_R (d + 1) M_Mo_timesOf [.ref 55, .int a1, .int (0 : Int32)] H5 (pm_i (fun x7 H6 => pm_R (d + 1) M_Mo_begins1 [.ref 55] H6 (pm_v (fun H8 => vp_in a1 12 ∧ (vp_in a1 12 ∧ (pm_R (d + 1) M_Mo_timesOf [.ref 55, .int a1, .int (0 : Int32)] ((pm_up (pm_up H8.1 65 a1.toNatClampNeg (0 : Int32)) 66 a1.toNatClampNeg (0 : Int32)), H8.2) (pm_i (fun x10 H9 => (0 ≤ x7 → vp_in (40 : Int32) 41 ∧ ((0 ≤ x10 → (¬ a2 = (1 : Int32) → (((x7 - (H9.1 56 40)) - x10) ≤ 0 → Q (some (.int (0 : Int32))) H9) ∧ (¬ ((x7 - (H9.1 56 40)) - x10) ≤ 0 → Q (some (.int (1 : Int32))) H9)) ∧ (a2 = (1 : Int32) → Q (some (.int ((x7 - (H9.1 56 40)) - x10))) H9)) ∧ (¬ 0 ≤ x10 → (¬ a2 = (1 : Int32) → (((x7 - (H9.1 56 40)) - (1000 : Int32)) ≤ 0 → Q (some (.int (0 : Int32))) H9) ∧ (¬ ((x7 - (H9.1 56 40)) - (1000 : Int32)) ≤ 0 → Q (some (.int (1 : Int32))) H9)) ∧ (a2 = (1 : Int32) → Q (some (.int ((x7 - (H9.1 56 40)) - (1000 : Int32)))) H9)))) ∧ (¬ 0 ≤ x7 → vp_in (40 : Int32) 41 ∧ ((0 ≤ x10 → (¬ a2 = (1 : Int32) → ((((1000 : Int32) - (H9.1 56 40)) - x10) ≤ 0 → Q (some (.int (0 : Int32))) H9) ∧ (¬ (((1000 : Int32) - (H9.1 56 40)) - x10) ≤ 0 → Q (some (.int (1 : Int32))) H9)) ∧ (a2 = (1 : Int32) → Q (some (.int (((1000 : Int32) - (H9.1 56 40)) - x10))) H9)) ∧ (¬ 0 ≤ x10 → (¬ a2 = (1 : Int32) → ((((1000 : Int32) - (H9.1 56 40)) - (1000 : Int32)) ≤ 0 → Q (some (.int (0 : Int32))) H9) ∧ (¬ (((1000 : Int32) - (H9.1 56 40)) - (1000 : Int32)) ≤ 0 → Q (some (.int (1 : Int32))) H9)) ∧ (a2 = (1 : Int32) → Q (some (.int (((1000 : Int32) - (H9.1 56 40)) - (1000 : Int32)))) H9))))))))))))))) ∧ (x4 = 0 → Q (some (.int (-2000000000 : Int32))) H3)))))) from u_Mo_isBar a1.toInt64 (u_Mo_within a1.toInt64 (0 : Int64) (((H.1 55 6) - (1 : Int32)).toInt64) (⟨fun q1 => ⟨Or.inl rfl, ⟨Or.inl rfl, ⟨fun _ => (h.1 q1), fun z => absurd (by decide) z⟩⟩⟩, fun q1 => ⟨fun q2 => ⟨Or.inl rfl, ⟨Or.inl rfl, ⟨fun _ => ((h.2 q1).1 q2), fun z => absurd (by decide) z⟩⟩⟩, fun q2 => ⟨Or.inr rfl, ⟨Or.inr rfl, ⟨fun z => absurd z (by decide), fun _ => u_Mo_within a2.toInt64 (0 : Int64) (1 : Int64) (⟨fun q3 => ⟨Or.inl rfl, ⟨fun z => absurd (by decide) z, fun _ => (((h.2 q1).2 q2).1 q3)⟩⟩, fun q3 => ⟨fun q4 => ⟨Or.inl rfl, ⟨fun z => absurd (by decide) z, fun _ => ((((h.2 q1).2 q2).2 q3).1 q4)⟩⟩, fun q4 => ⟨Or.inr rfl, ⟨fun _ => pm_mv' ((((h.2 q1).2 q2).2 q3).2 q4) (fun H49 z5 => pm_mi z5 (fun x51 H50 z6 => pm_mv' z6 (fun H52 z7 => ⟨z7.1, ⟨z7.1, pm_mi z7.2 (fun x54 H53 z8 => ⟨fun q9 => ⟨(pm_ik rfl), ⟨fun q10 => ⟨fun q11 => ⟨fun q12 => ((((z8.1 q9).1 q10).1 q11).1 q12), fun q12 => ((((z8.1 q9).1 q10).1 q11).2 q12)⟩, fun q11 => (((z8.1 q9).1 q10).2 q11)⟩, fun q10 => ⟨fun q13 => ⟨fun q14 => ((((z8.1 q9).2 q10).1 q13).1 q14), fun q14 => ((((z8.1 q9).2 q10).1 q13).2 q14)⟩, fun q13 => (((z8.1 q9).2 q10).2 q13)⟩⟩⟩, fun q9 => ⟨(pm_ik rfl), ⟨fun q15 => ⟨fun q16 => ⟨fun q17 => ((((z8.2 q9).1 q15).1 q16).1 q17), fun q17 => ((((z8.2 q9).1 q15).1 q16).2 q17)⟩, fun q16 => (((z8.2 q9).1 q15).2 q16)⟩, fun q15 => ⟨fun q18 => ⟨fun q19 => ((((z8.2 q9).2 q15).1 q18).1 q19), fun q19 => ((((z8.2 q9).2 q15).1 q18).2 q19)⟩, fun q18 => (((z8.2 q9).2 q15).2 q18)⟩⟩⟩⟩)⟩⟩))), fun z => absurd z (by decide)⟩⟩⟩⟩)⟩⟩⟩⟩⟩)))
def T_Mo_whole : List pmE := [
  (0, [], .iload 1, 0, 0, 0),
  (1, [], .i2l, 0, 0, 0),
  (2, [], .jsr 0, 0, 0, 0),
  (3, [], .jsr 1, 0, 0, 0),
  (4, [], .invokeinterface 143 13, 1, 114, 1152),
  (7, [], .ifCond .ne 12, 0, 0, 0),
  (10, [], .iconst (-1), 0, 0, 0),
  (11, [], .ireturn, 0, 0, 0),
  (12, [], .aload 0, 0, 0, 0),
  (13, [], .invokeinterface 172 644, 0, 228, 1250),
  (16, [], .iload 1, 0, 0, 0),
  (17, [], .iconst 1, 0, 0, 0),
  (18, [], .if_icmp .ne 62, 0, 0, 0),
  (21, [], .iconst 0, 0, 0, 0),
  (22, [], .istore 2, 0, 0, 0),
  (23, [], .iconst 0, 0, 0, 0),
  (24, [], .istore 3, 0, 0, 0),
  (25, [0, 2, 3], .iload 3, 0, 0, 0),
  (26, [], .aload 0, 0, 0, 0),
  (27, [], .getfield 582, 0, 111, 984),
  (30, [], .if_icmp .ge 60, 0, 0, 0),
  (33, [], .aload 0, 0, 0, 0),
  (34, [], .iload 3, 0, 0, 0),
  (35, [], .iconst 0, 0, 0, 0),
  (36, [], .invokeinterface 192 653, 0, 274, 1336),
  (39, [], .istore 4, 1, 0, 0),
  (41, [], .iload 4, 1, 0, 0),
  (43, [], .ifCond .ge 49, 0, 0, 0),
  (46, [], .iconst (-2), 1, 0, 0),
  (48, [], .ireturn, 0, 0, 0),
  (49, [], .iload 2, 0, 0, 0),
  (50, [], .iload 4, 1, 0, 0),
  (52, [], .iadd, 0, 0, 0),
  (53, [], .istore 2, 0, 0, 0),
  (54, [], .iinc 3 1, 0, 0, 0),
  (57, [], .goto 25, 0, 0, 0),
  (60, [], .iload 2, 0, 0, 0),
  (61, [], .ireturn, 0, 0, 0),
  (62, [], .iconst 0, 0, 0, 0),
  (63, [], .istore 2, 0, 0, 0),
  (64, [0, 2], .iload 2, 0, 0, 0),
  (65, [], .iconst 60, 1, 0, 0),
  (67, [], .if_icmp .gt 119, 0, 0, 0),
  (70, [], .aload 0, 0, 0, 0),
  (71, [], .invokeinterface 190 645, 0, 271, 1328),
  (74, [], .iconst (-2), 1, 0, 0),
  (76, [], .if_icmp .ne 81, 0, 0, 0),
  (79, [], .iload 2, 0, 0, 0),
  (80, [], .ireturn, 0, 0, 0),
  (81, [], .iconst 1, 0, 0, 0),
  (82, [], .istore 3, 0, 0, 0),
  (83, [], .iconst 0, 0, 0, 0),
  (84, [], .istore 4, 1, 0, 0),
  (86, [0, 2, 3, 4], .iload 4, 1, 0, 0),
  (88, [], .aload 0, 0, 0, 0),
  (89, [], .getfield 582, 0, 111, 984),
  (92, [], .if_icmp .ge 113, 0, 0, 0),
  (95, [], .iload 3, 0, 0, 0),
  (96, [], .ifCond .eq 113, 0, 0, 0),
  (99, [], .aload 0, 0, 0, 0),
  (100, [], .iload 4, 1, 0, 0),
  (102, [], .iconst 0, 0, 0, 0),
  (103, [], .invokeinterface 177 653, 0, 238, 1300),
  (106, [], .istore 3, 0, 0, 0),
  (107, [], .iinc 4 1, 0, 0, 0),
  (110, [], .goto 86, 0, 0, 0),
  (113, [], .iinc 2 1, 0, 0, 0),
  (116, [], .goto 64, 0, 0, 0),
  (119, [], .iconst (-2), 1, 0, 0),
  (121, [], .ireturn, 0, 0, 0)]
theorem tk_Mo_whole : pm_okT M_Mo_whole T_Mo_whole = true := by decide +kernel
theorem ok_Mo_whole : pm_okm M_Mo_whole := pm_okm_of _ 1380 85 1378 1379 (by decide +kernel)
set_option maxRecDepth 100000 in
set_option maxHeartbeats 4000000 in
theorem m_Mo_whole {d : Nat} {H : pmT} {Q : pmQ} (a1 : Int32)
    (h : ((lg_cmp a1.toInt64 (0 : Int64)) < 0 → Q (some (.int (-1 : Int32))) H) ∧ (¬ (lg_cmp a1.toInt64 (0 : Int64)) < 0 → (0 < (lg_cmp a1.toInt64 (1 : Int64)) → Q (some (.int (-1 : Int32))) H) ∧ (¬ 0 < (lg_cmp a1.toInt64 (1 : Int64)) → pm_R d M_Mo_begins1 [.ref 55] H (pm_v (fun H3 => (¬ a1 = (1 : Int32) → pm_RW none (d + 1) M_Mo_whole Q 64 [(0, .ref 55), (2, .int (0 : Int32))] [] H3) ∧ (a1 = (1 : Int32) → pm_RW none (d + 1) M_Mo_whole Q 25 [(0, .ref 55), (2, .int (0 : Int32)), (3, .int (0 : Int32))] [] H3)))))) : pm_R (d + 1) M_Mo_whole [.ref 55, .int a1] H Q :=
  pm_walk (n := 16) ok_Mo_whole tk_Mo_whole rfl (Nat.le_of_ble_eq_true rfl) (show pm_R d M_Mo_within [.long a1.toInt64, .long (0 : Int64), .long (1 : Int64)] H (pm_i (fun x2 H1 => (¬ x2 = 0 → pm_R d M_Mo_begins1 [.ref 55] H1 (pm_v (fun H3 => (¬ a1 = (1 : Int32) → pm_RW none (d + 1) M_Mo_whole Q 64 [(0, .ref 55), (2, .int (0 : Int32))] [] H3) ∧ (a1 = (1 : Int32) → pm_RW none (d + 1) M_Mo_whole Q 25 [(0, .ref 55), (2, .int (0 : Int32)), (3, .int (0 : Int32))] [] H3)))) ∧ (x2 = 0 → Q (some (.int (-1 : Int32))) H1))) from u_Mo_within a1.toInt64 (0 : Int64) (1 : Int64) (⟨fun q1 => ⟨Or.inl rfl, ⟨fun z => absurd (by decide) z, fun _ => (h.1 q1)⟩⟩, fun q1 => ⟨fun q2 => ⟨Or.inl rfl, ⟨fun z => absurd (by decide) z, fun _ => ((h.2 q1).1 q2)⟩⟩, fun q2 => ⟨Or.inr rfl, ⟨fun _ => pm_mv' ((h.2 q1).2 q2) (fun H3 z3 => ⟨fun q4 => (z3.1 q4), fun q4 => (z3.2 q4)⟩), fun z => absurd z (by decide)⟩⟩⟩⟩))
set_option maxRecDepth 100000 in
set_option maxHeartbeats 4000000 in
theorem b_Mo_whole_25 {d : Nat} {H : pmT} {Q : pmQ} (v2 : Int32) (v3 : Int32)
    (h : ((H.1 55 6) ≤ v3 → Q (some (.int v2)) H) ∧ (¬ (H.1 55 6) ≤ v3 → pm_R d M_Mo_timesOf [.ref 55, .int v3, .int (0 : Int32)] H (pm_i (fun x2 H1 => (0 ≤ x2 → pm_RW none (d + 1) M_Mo_whole Q 25 [(0, .ref 55), (2, .int (v2 + x2)), (3, .int (v3 + (1 : Int32)))] [] H1) ∧ (¬ 0 ≤ x2 → Q (some (.int (-2 : Int32))) H1))))) : pm_RW none (d + 1) M_Mo_whole Q 25 [(0, .ref 55), (2, .int v2), (3, .int v3)] [] H :=
  pm_body tk_Mo_whole 17 25 (show ((H.1 55 6) ≤ v3 → Q (some (.int v2)) H) ∧ (¬ (H.1 55 6) ≤ v3 → pm_R d M_Mo_timesOf [.ref 55, .int v3, .int (0 : Int32)] H (pm_i (fun x2 H1 => (0 ≤ x2 → pm_RW none (d + 1) M_Mo_whole Q 25 [(0, .ref 55), (2, .int (v2 + x2)), (3, .int (v3 + (1 : Int32)))] [] H1) ∧ (¬ 0 ≤ x2 → Q (some (.int (-2 : Int32))) H1)))) from ⟨fun q1 => (h.1 q1), fun q1 => pm_mi (h.2 q1) (fun x2 H1 z2 => ⟨fun q3 => (z2.1 q3), fun q3 => (z2.2 q3)⟩)⟩)
set_option maxRecDepth 100000 in
set_option maxHeartbeats 4000000 in
theorem b_Mo_whole_64 {d : Nat} {H : pmT} {Q : pmQ} (v2 : Int32)
    (h : ((60 : Int32) < v2 → Q (some (.int (-2 : Int32))) H) ∧ (¬ (60 : Int32) < v2 → pm_R d M_Mo_slip [.ref 55] H (pm_i (fun x2 H1 => (¬ x2 = (-2 : Int32) → pm_RW none (d + 1) M_Mo_whole Q 86 [(0, .ref 55), (2, .int v2), (3, .int (1 : Int32)), (4, .int (0 : Int32))] [] H1) ∧ (x2 = (-2 : Int32) → Q (some (.int v2)) H1))))) : pm_RW none (d + 1) M_Mo_whole Q 64 [(0, .ref 55), (2, .int v2)] [] H :=
  pm_body tk_Mo_whole 11 64 (show ((60 : Int32) < v2 → Q (some (.int (-2 : Int32))) H) ∧ (¬ (60 : Int32) < v2 → pm_R d M_Mo_slip [.ref 55] H (pm_i (fun x2 H1 => (¬ x2 = (-2 : Int32) → pm_RW none (d + 1) M_Mo_whole Q 86 [(0, .ref 55), (2, .int v2), (3, .int (1 : Int32)), (4, .int (0 : Int32))] [] H1) ∧ (x2 = (-2 : Int32) → Q (some (.int v2)) H1)))) from ⟨fun q1 => (h.1 q1), fun q1 => pm_mi (h.2 q1) (fun x2 H1 z2 => ⟨fun q3 => (z2.1 q3), fun q3 => (z2.2 q3)⟩)⟩)
set_option maxRecDepth 100000 in
set_option maxHeartbeats 4000000 in
theorem b_Mo_whole_86 {d : Nat} {H : pmT} {Q : pmQ} (v2 : Int32) (v3 : Int32) (v4 : Int32)
    (h : ((H.1 55 6) ≤ v4 → pm_RW none (d + 1) M_Mo_whole Q 64 [(0, .ref 55), (2, .int (v2 + (1 : Int32)))] [] H) ∧ (¬ (H.1 55 6) ≤ v4 → (v3 = 0 → pm_RW none (d + 1) M_Mo_whole Q 64 [(0, .ref 55), (2, .int (v2 + (1 : Int32)))] [] H) ∧ (¬ v3 = 0 → pm_R d M_Mo_plays [.ref 55, .int v4, .int (0 : Int32)] H (pm_i (fun x2 H1 => pm_RW none (d + 1) M_Mo_whole Q 86 [(0, .ref 55), (2, .int v2), (3, .int x2), (4, .int (v4 + (1 : Int32)))] [] H1))))) : pm_RW none (d + 1) M_Mo_whole Q 86 [(0, .ref 55), (2, .int v2), (3, .int v3), (4, .int v4)] [] H :=
  pm_body tk_Mo_whole 13 86 (show ((H.1 55 6) ≤ v4 → pm_RW none (d + 1) M_Mo_whole Q 64 [(0, .ref 55), (2, .int (v2 + (1 : Int32)))] [] H) ∧ (¬ (H.1 55 6) ≤ v4 → (v3 = 0 → pm_RW none (d + 1) M_Mo_whole Q 64 [(0, .ref 55), (2, .int (v2 + (1 : Int32)))] [] H) ∧ (¬ v3 = 0 → pm_R d M_Mo_plays [.ref 55, .int v4, .int (0 : Int32)] H (pm_i (fun x2 H1 => pm_RW none (d + 1) M_Mo_whole Q 86 [(0, .ref 55), (2, .int v2), (3, .int x2), (4, .int (v4 + (1 : Int32)))] [] H1)))) from ⟨fun q1 => (h.1 q1), fun q1 => ⟨fun q2 => ((h.2 q1).1 q2), fun q2 => ((h.2 q1).2 q2)⟩⟩)
def T_Mo_commonOf : List pmE := [
  (0, [], .lload 0, 0, 0, 0),
  (1, [], .lstore 4, 1, 0, 0),
  (3, [], .lload 2, 0, 0, 0),
  (4, [], .lstore 6, 1, 0, 0),
  (6, [4, 6], .lload 6, 1, 0, 0),
  (8, [], .jsr 0, 0, 0, 0),
  (9, [], .lcmp, 0, 0, 0),
  (10, [], .ifCond .eq 31, 0, 0, 0),
  (13, [], .lload 4, 1, 0, 0),
  (15, [], .lload 6, 1, 0, 0),
  (17, [], .lrem, 0, 0, 0),
  (18, [], .lstore 8, 1, 0, 0),
  (20, [], .lload 6, 1, 0, 0),
  (22, [], .lstore 4, 1, 0, 0),
  (24, [], .lload 8, 1, 0, 0),
  (26, [], .lstore 6, 1, 0, 0),
  (28, [], .goto 6, 0, 0, 0),
  (31, [], .lload 4, 1, 0, 0),
  (33, [], .lreturn, 0, 0, 0)]
theorem tk_Mo_commonOf : pm_okT M_Mo_commonOf T_Mo_commonOf = true := by decide +kernel
theorem ok_Mo_commonOf : pm_okm M_Mo_commonOf := pm_okm_of _ 1388 85 1387 0 (by decide +kernel)
set_option maxRecDepth 100000 in
set_option maxHeartbeats 4000000 in
theorem m_Mo_commonOf {d : Nat} {H : pmT} {Q : pmQ} (a1 : Int64) (a2 : Int64)
    (h : pm_RW none d M_Mo_commonOf Q 6 [(4, .long a1), (6, .long a2)] [] H) : pm_R d M_Mo_commonOf [.long a1, .long a2] H Q :=
  pm_walk (n := 5) ok_Mo_commonOf tk_Mo_commonOf rfl (Nat.le_of_ble_eq_true rfl) (show pm_RW none d M_Mo_commonOf Q 6 [(4, .long a1), (6, .long a2)] [] H from h)
set_option maxRecDepth 100000 in
set_option maxHeartbeats 4000000 in
theorem b_Mo_commonOf_6 {d : Nat} {H : pmT} {Q : pmQ} (v4 : Int64) (v6 : Int64)
    (h : ((lg_cmp v6 (0 : Int64)) = 0 → Q (some (.long v4)) H) ∧ (¬ (lg_cmp v6 (0 : Int64)) = 0 → ¬ v6 = 0 ∧ (pm_RW none d M_Mo_commonOf Q 6 [(4, .long v6), (6, .long (v4 - v4 / v6 * v6))] [] H))) : pm_RW none d M_Mo_commonOf Q 6 [(4, .long v4), (6, .long v6)] [] H :=
  pm_body tk_Mo_commonOf 13 6 (show ((lg_cmp v6 (0 : Int64)) = 0 → Q (some (.long v4)) H) ∧ (¬ (lg_cmp v6 (0 : Int64)) = 0 → ¬ v6 = 0 ∧ (pm_RW none d M_Mo_commonOf Q 6 [(4, .long v6), (6, .long (v4 - v4 / v6 * v6))] [] H)) from ⟨fun q1 => (h.1 q1), fun q1 => ⟨(h.2 q1).1, (h.2 q1).2⟩⟩)
def T_Mo_odds : List pmE := [
  (0, [], .aload 0, 0, 0, 0),
  (1, [], .iload 1, 0, 0, 0),
  (2, [], .i2l, 0, 0, 0),
  (3, [], .invokeinterface 150 649, 0, 136, 1177),
  (6, [], .ifCond .eq 19, 0, 0, 0),
  (9, [], .iload 2, 0, 0, 0),
  (10, [], .i2l, 0, 0, 0),
  (11, [], .jsr 0, 0, 0, 0),
  (12, [], .jsr 1, 0, 0, 0),
  (13, [], .invokeinterface 143 13, 1, 114, 1152),
  (16, [], .ifCond .ne 23, 0, 0, 0),
  (19, [], .jsr (-9223372036854775808), 1, 298, 1385),
  (22, [], .lreturn, 0, 0, 0),
  (23, [], .aload 0, 0, 0, 0),
  (24, [], .getfield 576, 0, 11, 978),
  (27, [], .iload 1, 0, 0, 0),
  (28, [], .iaload, 0, 0, 0),
  (29, [], .i2l, 0, 0, 0),
  (30, [], .lstore 3, 0, 0, 0),
  (31, [], .lload 3, 0, 0, 0),
  (32, [], .aload 0, 0, 0, 0),
  (33, [], .getfield 576, 0, 11, 978),
  (36, [], .iconst 12, 1, 0, 0),
  (38, [], .iload 1, 0, 0, 0),
  (39, [], .iadd, 0, 0, 0),
  (40, [], .iaload, 0, 0, 0),
  (41, [], .i2l, 0, 0, 0),
  (42, [], .ladd, 0, 0, 0),
  (43, [], .lstore 5, 1, 0, 0),
  (45, [], .lload 5, 1, 0, 0),
  (47, [], .jsr 0, 0, 0, 0),
  (48, [], .lcmp, 0, 0, 0),
  (49, [], .ifCond .ne 57, 0, 0, 0),
  (52, [], .iload 2, 0, 0, 0),
  (53, [], .i2l, 0, 0, 0),
  (54, [], .jsr 1, 0, 0, 0),
  (55, [], .ladd, 0, 0, 0),
  (56, [], .lreturn, 0, 0, 0),
  (57, [], .lload 3, 0, 0, 0),
  (58, [], .jsr 0, 0, 0, 0),
  (59, [], .lcmp, 0, 0, 0),
  (60, [], .ifCond .ne 66, 0, 0, 0),
  (63, [], .iload 2, 0, 0, 0),
  (64, [], .i2l, 0, 0, 0),
  (65, [], .lreturn, 0, 0, 0),
  (66, [], .lload 5, 1, 0, 0),
  (68, [], .lload 3, 0, 0, 0),
  (69, [], .invokeinterface 203 10, 1, 300, 1386),
  (72, [], .lstore 7, 1, 0, 0),
  (74, [], .iload 2, 0, 0, 0),
  (75, [], .ifCond .ne 85, 0, 0, 0),
  (78, [], .lload 3, 0, 0, 0),
  (79, [], .lload 7, 1, 0, 0),
  (81, [], .ldiv, 0, 0, 0),
  (82, [], .goto 90, 0, 0, 0),
  (85, [], .lload 5, 1, 0, 0),
  (87, [], .lload 7, 1, 0, 0),
  (89, [], .ldiv, 0, 0, 0),
  (90, [], .lreturn, 0, 0, 0)]
theorem tk_Mo_odds : pm_okT M_Mo_odds T_Mo_odds = true := by decide +kernel
theorem ok_Mo_odds : pm_okm M_Mo_odds := pm_okm_of _ 1384 85 1382 1383 (by decide +kernel)
set_option maxRecDepth 100000 in
set_option maxHeartbeats 4000000 in
theorem m_Mo_odds {d : Nat} {H : pmT} {Q : pmQ} (a1 : Int32) (a2 : Int32)
    (h : ((lg_cmp a1.toInt64 (0 : Int64)) < 0 → Q (some (.long (-9223372036854775808 : Int64))) H) ∧ (¬ (lg_cmp a1.toInt64 (0 : Int64)) < 0 → (0 < (lg_cmp a1.toInt64 (((H.1 55 6) - (1 : Int32)).toInt64)) → Q (some (.long (-9223372036854775808 : Int64))) H) ∧ (¬ 0 < (lg_cmp a1.toInt64 (((H.1 55 6) - (1 : Int32)).toInt64)) → ((lg_cmp a2.toInt64 (0 : Int64)) < 0 → Q (some (.long (-9223372036854775808 : Int64))) H) ∧ (¬ (lg_cmp a2.toInt64 (0 : Int64)) < 0 → (0 < (lg_cmp a2.toInt64 (1 : Int64)) → Q (some (.long (-9223372036854775808 : Int64))) H) ∧ (¬ 0 < (lg_cmp a2.toInt64 (1 : Int64)) → vp_in a1 41 ∧ (vp_in ((12 : Int32) + a1) 41 ∧ ((¬ (lg_cmp ((H.1 56 a1.toNatClampNeg).toInt64 + (H.1 56 (((12 : Int32) + a1).toNatClampNeg)).toInt64) (0 : Int64)) = 0 → (¬ (lg_cmp ((H.1 56 a1.toNatClampNeg).toInt64) (0 : Int64)) = 0 → pm_R (d + 1) M_Mo_commonOf [.long ((H.1 56 a1.toNatClampNeg).toInt64 + (H.1 56 (((12 : Int32) + a1).toNatClampNeg)).toInt64), .long ((H.1 56 a1.toNatClampNeg).toInt64)] H (pm_l (fun x18 H17 => (¬ a2 = 0 → ¬ x18 = 0 ∧ (Q (some (.long (((H.1 56 a1.toNatClampNeg).toInt64 + (H.1 56 (((12 : Int32) + a1).toNatClampNeg)).toInt64) / x18))) H17)) ∧ (a2 = 0 → ¬ x18 = 0 ∧ (Q (some (.long ((H.1 56 a1.toNatClampNeg).toInt64 / x18))) H17))))) ∧ ((lg_cmp ((H.1 56 a1.toNatClampNeg).toInt64) (0 : Int64)) = 0 → Q (some (.long a2.toInt64)) H)) ∧ ((lg_cmp ((H.1 56 a1.toNatClampNeg).toInt64 + (H.1 56 (((12 : Int32) + a1).toNatClampNeg)).toInt64) (0 : Int64)) = 0 → Q (some (.long (a2.toInt64 + (1 : Int64)))) H)))))))) : pm_R (d + 2) M_Mo_odds [.ref 55, .int a1, .int a2] H Q :=
  pm_walk (n := 46) ok_Mo_odds tk_Mo_odds rfl (Nat.le_of_ble_eq_true rfl) (show pm_R (d + 1) M_Mo_isBar [.ref 55, .long a1.toInt64] H (pm_i (fun x2 H1 => (x2 = 0 → Q (some (.long (-9223372036854775808 : Int64))) H1) ∧ (¬ x2 = 0 → pm_R (d + 1) M_Mo_within [.long a2.toInt64, .long (0 : Int64), .long (1 : Int64)] H1 (pm_i (fun x4 H3 => (¬ x4 = 0 → vp_in a1 41 ∧ (vp_in ((12 : Int32) + a1) 41 ∧ ((¬ (lg_cmp ((H3.1 56 a1.toNatClampNeg).toInt64 + (H3.1 56 (((12 : Int32) + a1).toNatClampNeg)).toInt64) (0 : Int64)) = 0 → (¬ (lg_cmp ((H3.1 56 a1.toNatClampNeg).toInt64) (0 : Int64)) = 0 → pm_R (d + 1) M_Mo_commonOf [.long ((H3.1 56 a1.toNatClampNeg).toInt64 + (H3.1 56 (((12 : Int32) + a1).toNatClampNeg)).toInt64), .long ((H3.1 56 a1.toNatClampNeg).toInt64)] H3 (pm_l (fun x6 H5 => (¬ a2 = 0 → ¬ x6 = 0 ∧ (Q (some (.long (((H3.1 56 a1.toNatClampNeg).toInt64 + (H3.1 56 (((12 : Int32) + a1).toNatClampNeg)).toInt64) / x6))) H5)) ∧ (a2 = 0 → ¬ x6 = 0 ∧ (Q (some (.long ((H3.1 56 a1.toNatClampNeg).toInt64 / x6))) H5))))) ∧ ((lg_cmp ((H3.1 56 a1.toNatClampNeg).toInt64) (0 : Int64)) = 0 → Q (some (.long a2.toInt64)) H3)) ∧ ((lg_cmp ((H3.1 56 a1.toNatClampNeg).toInt64 + (H3.1 56 (((12 : Int32) + a1).toNatClampNeg)).toInt64) (0 : Int64)) = 0 → Q (some (.long (a2.toInt64 + (1 : Int64)))) H3)))) ∧ (x4 = 0 → Q (some (.long (-9223372036854775808 : Int64))) H3)))))) from u_Mo_isBar a1.toInt64 (u_Mo_within a1.toInt64 (0 : Int64) (((H.1 55 6) - (1 : Int32)).toInt64) (⟨fun q1 => ⟨Or.inl rfl, ⟨Or.inl rfl, ⟨fun _ => (h.1 q1), fun z => absurd (by decide) z⟩⟩⟩, fun q1 => ⟨fun q2 => ⟨Or.inl rfl, ⟨Or.inl rfl, ⟨fun _ => ((h.2 q1).1 q2), fun z => absurd (by decide) z⟩⟩⟩, fun q2 => ⟨Or.inr rfl, ⟨Or.inr rfl, ⟨fun z => absurd z (by decide), fun _ => u_Mo_within a2.toInt64 (0 : Int64) (1 : Int64) (⟨fun q3 => ⟨Or.inl rfl, ⟨fun z => absurd (by decide) z, fun _ => (((h.2 q1).2 q2).1 q3)⟩⟩, fun q3 => ⟨fun q4 => ⟨Or.inl rfl, ⟨fun z => absurd (by decide) z, fun _ => ((((h.2 q1).2 q2).2 q3).1 q4)⟩⟩, fun q4 => ⟨Or.inr rfl, ⟨fun _ => ⟨((((h.2 q1).2 q2).2 q3).2 q4).1, ⟨((((h.2 q1).2 q2).2 q3).2 q4).2.1, ⟨fun q5 => ⟨fun q6 => pm_ml' ((((((h.2 q1).2 q2).2 q3).2 q4).2.2.1 q5).1 q6) (fun x18 H17 z7 => ⟨fun q8 => ⟨(z7.1 q8).1, (z7.1 q8).2⟩, fun q8 => ⟨(z7.2 q8).1, (z7.2 q8).2⟩⟩), fun q6 => ((((((h.2 q1).2 q2).2 q3).2 q4).2.2.1 q5).2 q6)⟩, fun q5 => (((((h.2 q1).2 q2).2 q3).2 q4).2.2.2 q5)⟩⟩⟩, fun z => absurd z (by decide)⟩⟩⟩⟩)⟩⟩⟩⟩⟩)))
def T_Mo_all : List pmE := [
  (0, [], .jsr 1000000, 1, 304, 1393),
  (3, [], .lstore 1, 0, 0, 0),
  (4, [], .iconst 0, 0, 0, 0),
  (5, [], .istore 3, 0, 0, 0),
  (6, [0, 1, 3], .iload 3, 0, 0, 0),
  (7, [], .aload 0, 0, 0, 0),
  (8, [], .getfield 582, 0, 111, 984),
  (11, [], .if_icmp .ge 65, 0, 0, 0),
  (14, [], .aload 0, 0, 0, 0),
  (15, [], .getfield 576, 0, 11, 978),
  (18, [], .iload 3, 0, 0, 0),
  (19, [], .iaload, 0, 0, 0),
  (20, [], .aload 0, 0, 0, 0),
  (21, [], .getfield 576, 0, 11, 978),
  (24, [], .iconst 12, 1, 0, 0),
  (26, [], .iload 3, 0, 0, 0),
  (27, [], .iadd, 0, 0, 0),
  (28, [], .iaload, 0, 0, 0),
  (29, [], .iadd, 0, 0, 0),
  (30, [], .istore 4, 1, 0, 0),
  (32, [], .iload 4, 1, 0, 0),
  (34, [], .ifCond .ne 45, 0, 0, 0),
  (37, [], .lload 1, 0, 0, 0),
  (38, [], .jsr 2, 1, 134, 1176),
  (41, [], .ldiv, 0, 0, 0),
  (42, [], .goto 58, 0, 0, 0),
  (45, [], .lload 1, 0, 0, 0),
  (46, [], .aload 0, 0, 0, 0),
  (47, [], .getfield 576, 0, 11, 978),
  (50, [], .iload 3, 0, 0, 0),
  (51, [], .iaload, 0, 0, 0),
  (52, [], .i2l, 0, 0, 0),
  (53, [], .lmul, 0, 0, 0),
  (54, [], .iload 4, 1, 0, 0),
  (56, [], .i2l, 0, 0, 0),
  (57, [], .ldiv, 0, 0, 0),
  (58, [], .lstore 1, 0, 0, 0),
  (59, [], .iinc 3 1, 0, 0, 0),
  (62, [], .goto 6, 0, 0, 0),
  (65, [], .lload 1, 0, 0, 0),
  (66, [], .l2i, 0, 0, 0),
  (67, [], .ireturn, 0, 0, 0)]
theorem tk_Mo_all : pm_okT M_Mo_all T_Mo_all = true := by decide +kernel
theorem ok_Mo_all : pm_okm M_Mo_all := pm_okm_of _ 1392 85 1390 1391 (by decide +kernel)
set_option maxRecDepth 100000 in
set_option maxHeartbeats 4000000 in
theorem m_Mo_all {d : Nat} {H : pmT} {Q : pmQ} 
    (h : pm_RW none d M_Mo_all Q 6 [(0, .ref 55), (1, .long (1000000 : Int64)), (3, .int (0 : Int32))] [] H) : pm_R d M_Mo_all [.ref 55] H Q :=
  pm_walk (n := 5) ok_Mo_all tk_Mo_all rfl (Nat.le_of_ble_eq_true rfl) (show pm_RW none d M_Mo_all Q 6 [(0, .ref 55), (1, .long (1000000 : Int64)), (3, .int (0 : Int32))] [] H from h)
set_option maxRecDepth 100000 in
set_option maxHeartbeats 4000000 in
theorem b_Mo_all_6 {d : Nat} {H : pmT} {Q : pmQ} (v1 : Int64) (v3 : Int32)
    (h : ((H.1 55 6) ≤ v3 → Q (some (.int v1.toInt32)) H) ∧ (¬ (H.1 55 6) ≤ v3 → vp_in v3 41 ∧ (vp_in ((12 : Int32) + v3) 41 ∧ ((¬ ((H.1 56 v3.toNatClampNeg) + (H.1 56 (((12 : Int32) + v3).toNatClampNeg))) = 0 → ¬ ((H.1 56 v3.toNatClampNeg) + (H.1 56 (((12 : Int32) + v3).toNatClampNeg))).toInt64 = 0 ∧ (pm_RW none d M_Mo_all Q 6 [(0, .ref 55), (1, .long ((v1 * (H.1 56 v3.toNatClampNeg).toInt64) / ((H.1 56 v3.toNatClampNeg) + (H.1 56 (((12 : Int32) + v3).toNatClampNeg))).toInt64)), (3, .int (v3 + (1 : Int32)))] [] H)) ∧ (((H.1 56 v3.toNatClampNeg) + (H.1 56 (((12 : Int32) + v3).toNatClampNeg))) = 0 → pm_RW none d M_Mo_all Q 6 [(0, .ref 55), (1, .long (v1 / (2 : Int64))), (3, .int (v3 + (1 : Int32)))] [] H))))) : pm_RW none d M_Mo_all Q 6 [(0, .ref 55), (1, .long v1), (3, .int v3)] [] H :=
  pm_body tk_Mo_all 31 6 (show ((H.1 55 6) ≤ v3 → Q (some (.int v1.toInt32)) H) ∧ (¬ (H.1 55 6) ≤ v3 → vp_in v3 41 ∧ (vp_in ((12 : Int32) + v3) 41 ∧ ((¬ ((H.1 56 v3.toNatClampNeg) + (H.1 56 (((12 : Int32) + v3).toNatClampNeg))) = 0 → vp_in v3 41 ∧ (¬ ((H.1 56 v3.toNatClampNeg) + (H.1 56 (((12 : Int32) + v3).toNatClampNeg))).toInt64 = 0 ∧ (pm_RW none d M_Mo_all Q 6 [(0, .ref 55), (1, .long ((v1 * (H.1 56 v3.toNatClampNeg).toInt64) / ((H.1 56 v3.toNatClampNeg) + (H.1 56 (((12 : Int32) + v3).toNatClampNeg))).toInt64)), (3, .int (v3 + (1 : Int32)))] [] H))) ∧ (((H.1 56 v3.toNatClampNeg) + (H.1 56 (((12 : Int32) + v3).toNatClampNeg))) = 0 → ¬ (2 : Int64) = 0 ∧ (pm_RW none d M_Mo_all Q 6 [(0, .ref 55), (1, .long (v1 / (2 : Int64))), (3, .int (v3 + (1 : Int32)))] [] H))))) from ⟨fun q1 => (h.1 q1), fun q1 => ⟨(h.2 q1).1, ⟨(h.2 q1).2.1, ⟨fun q2 => ⟨(h.2 q1).1, ⟨((h.2 q1).2.2.1 q2).1, ((h.2 q1).2.2.1 q2).2⟩⟩, fun q2 => ⟨(by decide), ((h.2 q1).2.2.2 q2)⟩⟩⟩⟩⟩)
def T_Mo_firstFalse : List pmE := [
  (0, [], .iconst 0, 0, 0, 0),
  (1, [], .istore 2, 0, 0, 0),
  (2, [0, 1, 2], .iconst 2, 0, 0, 0),
  (3, [], .iload 2, 0, 0, 0),
  (4, [], .imul, 0, 0, 0),
  (5, [], .aload 0, 0, 0, 0),
  (6, [], .getfield 625, 0, 91, 1027),
  (9, [], .iload 1, 0, 0, 0),
  (10, [], .iaload, 0, 0, 0),
  (11, [], .if_icmp .ge 107, 0, 0, 0),
  (14, [], .aload 0, 0, 0, 0),
  (15, [], .aload 0, 0, 0, 0),
  (16, [], .iload 1, 0, 0, 0),
  (17, [], .iconst 2, 0, 0, 0),
  (18, [], .iload 2, 0, 0, 0),
  (19, [], .imul, 0, 0, 0),
  (20, [], .invokeinterface 182 654, 0, 241, 1278),
  (23, [], .invokeinterface 183 649, 0, 245, 1282),
  (26, [], .ifCond .ne 31, 0, 0, 0),
  (29, [], .iload 2, 0, 0, 0),
  (30, [], .ireturn, 0, 0, 0),
  (31, [], .aload 0, 0, 0, 0),
  (32, [], .aload 0, 0, 0, 0),
  (33, [], .iload 1, 0, 0, 0),
  (34, [], .iconst 2, 0, 0, 0),
  (35, [], .iload 2, 0, 0, 0),
  (36, [], .imul, 0, 0, 0),
  (37, [], .invokeinterface 182 654, 0, 241, 1278),
  (40, [], .l2i, 0, 0, 0),
  (41, [], .invokeinterface 184 649, 0, 248, 1292),
  (44, [], .istore 3, 0, 0, 0),
  (45, [], .iconst 2, 0, 0, 0),
  (46, [], .iload 2, 0, 0, 0),
  (47, [], .imul, 0, 0, 0),
  (48, [], .iconst 1, 0, 0, 0),
  (49, [], .iadd, 0, 0, 0),
  (50, [], .aload 0, 0, 0, 0),
  (51, [], .getfield 625, 0, 91, 1027),
  (54, [], .iload 1, 0, 0, 0),
  (55, [], .iaload, 0, 0, 0),
  (56, [], .if_icmp .ge 72, 0, 0, 0),
  (59, [], .aload 0, 0, 0, 0),
  (60, [], .iload 1, 0, 0, 0),
  (61, [], .iconst 2, 0, 0, 0),
  (62, [], .iload 2, 0, 0, 0),
  (63, [], .imul, 0, 0, 0),
  (64, [], .iconst 1, 0, 0, 0),
  (65, [], .iadd, 0, 0, 0),
  (66, [], .invokeinterface 182 654, 0, 241, 1278),
  (69, [], .goto 75, 0, 0, 0),
  (72, [], .jsr (-1), 1, 296, 1363),
  (75, [], .lstore 4, 1, 0, 0),
  (77, [], .iload 3, 0, 0, 0),
  (78, [], .ifCond .lt 101, 0, 0, 0),
  (81, [], .lload 4, 1, 0, 0),
  (83, [], .jsr 0, 0, 0, 0),
  (84, [], .jsr 1, 0, 0, 0),
  (85, [], .invokeinterface 143 13, 1, 114, 1152),
  (88, [], .ifCond .eq 101, 0, 0, 0),
  (91, [], .lload 4, 1, 0, 0),
  (93, [], .iload 3, 0, 0, 0),
  (94, [], .i2l, 0, 0, 0),
  (95, [], .lcmp, 0, 0, 0),
  (96, [], .ifCond .eq 101, 0, 0, 0),
  (99, [], .iload 2, 0, 0, 0),
  (100, [], .ireturn, 0, 0, 0),
  (101, [], .iinc 2 1, 0, 0, 0),
  (104, [], .goto 2, 0, 0, 0),
  (107, [], .iconst (-2), 1, 0, 0),
  (109, [], .ireturn, 0, 0, 0)]
theorem tk_Mo_firstFalse : pm_okT M_Mo_firstFalse T_Mo_firstFalse = true := by decide +kernel
theorem ok_Mo_firstFalse : pm_okm M_Mo_firstFalse := pm_okm_of _ 1401 85 1400 61 (by decide +kernel)
set_option maxRecDepth 100000 in
set_option maxHeartbeats 4000000 in
theorem m_Mo_firstFalse {d : Nat} {H : pmT} {Q : pmQ} (a1 : Int32)
    (h : pm_RW none (d + 1) M_Mo_firstFalse Q 2 [(0, .ref 55), (1, .int a1), (2, .int (0 : Int32))] [] H) : pm_R (d + 1) M_Mo_firstFalse [.ref 55, .int a1] H Q :=
  pm_walk (n := 3) ok_Mo_firstFalse tk_Mo_firstFalse rfl (Nat.le_of_ble_eq_true rfl) (show pm_RW none (d + 1) M_Mo_firstFalse Q 2 [(0, .ref 55), (1, .int a1), (2, .int (0 : Int32))] [] H from h)
set_option maxRecDepth 100000 in
set_option maxHeartbeats 4000000 in
theorem b_Mo_firstFalse_2 {d : Nat} {H : pmT} {Q : pmQ} (v1 : Int32) (v2 : Int32)
    (h : vp_in v1 6 ∧ (((H.1 82 v1.toNatClampNeg) ≤ ((2 : Int32) * v2) → Q (some (.int (-2 : Int32))) H) ∧ (¬ (H.1 82 v1.toNatClampNeg) ≤ ((2 : Int32) * v2) → vp_in (((60 : Int32) * v1) + ((2 : Int32) * v2)) 360 ∧ (pm_R d M_Mo_isPlan [.ref 55, .long (H.2.1 83 ((((60 : Int32) * v1) + ((2 : Int32) * v2)).toNatClampNeg))] H (pm_i (fun x2 H1 => (¬ x2 = 0 → pm_R d M_Mo_does [.ref 55, .int ((H1.2.1 83 ((((60 : Int32) * v1) + ((2 : Int32) * v2)).toNatClampNeg)).toInt32)] H1 (pm_i (fun x4 H3 => ((H3.1 82 v1.toNatClampNeg) ≤ (((2 : Int32) * v2) + (1 : Int32)) → (x4 < 0 → pm_RW none (d + 1) M_Mo_firstFalse Q 2 [(0, .ref 55), (1, .int v1), (2, .int (v2 + (1 : Int32)))] [] H3) ∧ (¬ x4 < 0 → ((lg_cmp (-1 : Int64) (0 : Int64)) < 0 → pm_RW none (d + 1) M_Mo_firstFalse Q 2 [(0, .ref 55), (1, .int v1), (2, .int (v2 + (1 : Int32)))] [] H3) ∧ (¬ (lg_cmp (-1 : Int64) (0 : Int64)) < 0 → (0 < (lg_cmp (-1 : Int64) (1 : Int64)) → pm_RW none (d + 1) M_Mo_firstFalse Q 2 [(0, .ref 55), (1, .int v1), (2, .int (v2 + (1 : Int32)))] [] H3) ∧ (¬ 0 < (lg_cmp (-1 : Int64) (1 : Int64)) → ((lg_cmp (-1 : Int64) x4.toInt64) = 0 → pm_RW none (d + 1) M_Mo_firstFalse Q 2 [(0, .ref 55), (1, .int v1), (2, .int (v2 + (1 : Int32)))] [] H3) ∧ (¬ (lg_cmp (-1 : Int64) x4.toInt64) = 0 → Q (some (.int v2)) H3))))) ∧ (¬ (H3.1 82 v1.toNatClampNeg) ≤ (((2 : Int32) * v2) + (1 : Int32)) → vp_in (((60 : Int32) * v1) + (((2 : Int32) * v2) + (1 : Int32))) 360 ∧ ((x4 < 0 → pm_RW none (d + 1) M_Mo_firstFalse Q 2 [(0, .ref 55), (1, .int v1), (2, .int (v2 + (1 : Int32)))] [] H3) ∧ (¬ x4 < 0 → ((lg_cmp (H3.2.1 83 ((((60 : Int32) * v1) + (((2 : Int32) * v2) + (1 : Int32))).toNatClampNeg)) (0 : Int64)) < 0 → pm_RW none (d + 1) M_Mo_firstFalse Q 2 [(0, .ref 55), (1, .int v1), (2, .int (v2 + (1 : Int32)))] [] H3) ∧ (¬ (lg_cmp (H3.2.1 83 ((((60 : Int32) * v1) + (((2 : Int32) * v2) + (1 : Int32))).toNatClampNeg)) (0 : Int64)) < 0 → (0 < (lg_cmp (H3.2.1 83 ((((60 : Int32) * v1) + (((2 : Int32) * v2) + (1 : Int32))).toNatClampNeg)) (1 : Int64)) → pm_RW none (d + 1) M_Mo_firstFalse Q 2 [(0, .ref 55), (1, .int v1), (2, .int (v2 + (1 : Int32)))] [] H3) ∧ (¬ 0 < (lg_cmp (H3.2.1 83 ((((60 : Int32) * v1) + (((2 : Int32) * v2) + (1 : Int32))).toNatClampNeg)) (1 : Int64)) → ((lg_cmp (H3.2.1 83 ((((60 : Int32) * v1) + (((2 : Int32) * v2) + (1 : Int32))).toNatClampNeg)) x4.toInt64) = 0 → pm_RW none (d + 1) M_Mo_firstFalse Q 2 [(0, .ref 55), (1, .int v1), (2, .int (v2 + (1 : Int32)))] [] H3) ∧ (¬ (lg_cmp (H3.2.1 83 ((((60 : Int32) * v1) + (((2 : Int32) * v2) + (1 : Int32))).toNatClampNeg)) x4.toInt64) = 0 → Q (some (.int v2)) H3))))))))) ∧ (x2 = 0 → Q (some (.int v2)) H1))))))) : pm_RW none (d + 1) M_Mo_firstFalse Q 2 [(0, .ref 55), (1, .int v1), (2, .int v2)] [] H :=
  pm_body tk_Mo_firstFalse 61 2 (show vp_in v1 6 ∧ (((H.1 82 v1.toNatClampNeg) ≤ ((2 : Int32) * v2) → Q (some (.int (-2 : Int32))) H) ∧ (¬ (H.1 82 v1.toNatClampNeg) ≤ ((2 : Int32) * v2) → pm_R d M_Mo_itemAt [.ref 55, .int v1, .int ((2 : Int32) * v2)] H (pm_l (fun x2 H1 => pm_R d M_Mo_isPlan [.ref 55, .long x2] H1 (pm_i (fun x4 H3 => (¬ x4 = 0 → pm_R d M_Mo_itemAt [.ref 55, .int v1, .int ((2 : Int32) * v2)] H3 (pm_l (fun x6 H5 => pm_R d M_Mo_does [.ref 55, .int x6.toInt32] H5 (pm_i (fun x8 H7 => vp_in v1 6 ∧ (((H7.1 82 v1.toNatClampNeg) ≤ (((2 : Int32) * v2) + (1 : Int32)) → (x8 < 0 → pm_RW none (d + 1) M_Mo_firstFalse Q 2 [(0, .ref 55), (1, .int v1), (2, .int (v2 + (1 : Int32)))] [] H7) ∧ (¬ x8 < 0 → pm_R d M_Mo_within [.long (-1 : Int64), .long (0 : Int64), .long (1 : Int64)] H7 (pm_i (fun x10 H9 => (x10 = 0 → pm_RW none (d + 1) M_Mo_firstFalse Q 2 [(0, .ref 55), (1, .int v1), (2, .int (v2 + (1 : Int32)))] [] H9) ∧ (¬ x10 = 0 → ((lg_cmp (-1 : Int64) x8.toInt64) = 0 → pm_RW none (d + 1) M_Mo_firstFalse Q 2 [(0, .ref 55), (1, .int v1), (2, .int (v2 + (1 : Int32)))] [] H9) ∧ (¬ (lg_cmp (-1 : Int64) x8.toInt64) = 0 → Q (some (.int v2)) H9)))))) ∧ (¬ (H7.1 82 v1.toNatClampNeg) ≤ (((2 : Int32) * v2) + (1 : Int32)) → pm_R d M_Mo_itemAt [.ref 55, .int v1, .int (((2 : Int32) * v2) + (1 : Int32))] H7 (pm_l (fun x12 H11 => (x8 < 0 → pm_RW none (d + 1) M_Mo_firstFalse Q 2 [(0, .ref 55), (1, .int v1), (2, .int (v2 + (1 : Int32)))] [] H11) ∧ (¬ x8 < 0 → pm_R d M_Mo_within [.long x12, .long (0 : Int64), .long (1 : Int64)] H11 (pm_i (fun x14 H13 => (x14 = 0 → pm_RW none (d + 1) M_Mo_firstFalse Q 2 [(0, .ref 55), (1, .int v1), (2, .int (v2 + (1 : Int32)))] [] H13) ∧ (¬ x14 = 0 → ((lg_cmp x12 x8.toInt64) = 0 → pm_RW none (d + 1) M_Mo_firstFalse Q 2 [(0, .ref 55), (1, .int v1), (2, .int (v2 + (1 : Int32)))] [] H13) ∧ (¬ (lg_cmp x12 x8.toInt64) = 0 → Q (some (.int v2)) H13)))))))))))))) ∧ (x4 = 0 → Q (some (.int v2)) H3))))))) from ⟨h.1, ⟨fun q1 => (h.2.1 q1), fun q1 => u_Mo_itemAt v1 ((2 : Int32) * v2) (⟨(h.2.2 q1).1, pm_mi (h.2.2 q1).2 (fun x2 H1 z2 => ⟨fun q3 => u_Mo_itemAt v1 ((2 : Int32) * v2) (⟨(h.2.2 q1).1, pm_mi (z2.1 q3) (fun x4 H3 z4 => ⟨h.1, ⟨fun q5 => ⟨fun q6 => ((z4.1 q5).1 q6), fun q6 => u_Mo_within (-1 : Int64) (0 : Int64) (1 : Int64) (⟨fun q7 => ⟨Or.inl rfl, ⟨fun _ => (((z4.1 q5).2 q6).1 q7), fun z => absurd (by decide) z⟩⟩, fun q7 => ⟨fun q8 => ⟨Or.inl rfl, ⟨fun _ => ((((z4.1 q5).2 q6).2 q7).1 q8), fun z => absurd (by decide) z⟩⟩, fun q8 => ⟨Or.inr rfl, ⟨fun z => absurd z (by decide), fun _ => ⟨fun q9 => (((((z4.1 q5).2 q6).2 q7).2 q8).1 q9), fun q9 => (((((z4.1 q5).2 q6).2 q7).2 q8).2 q9)⟩⟩⟩⟩⟩)⟩, fun q5 => u_Mo_itemAt v1 (((2 : Int32) * v2) + (1 : Int32)) (⟨(z4.2 q5).1, ⟨fun q10 => ((z4.2 q5).2.1 q10), fun q10 => u_Mo_within (H3.2.1 83 ((((60 : Int32) * v1) + (((2 : Int32) * v2) + (1 : Int32))).toNatClampNeg)) (0 : Int64) (1 : Int64) (⟨fun q11 => ⟨Or.inl rfl, ⟨fun _ => (((z4.2 q5).2.2 q10).1 q11), fun z => absurd (by decide) z⟩⟩, fun q11 => ⟨fun q12 => ⟨Or.inl rfl, ⟨fun _ => ((((z4.2 q5).2.2 q10).2 q11).1 q12), fun z => absurd (by decide) z⟩⟩, fun q12 => ⟨Or.inr rfl, ⟨fun z => absurd z (by decide), fun _ => ⟨fun q13 => (((((z4.2 q5).2.2 q10).2 q11).2 q12).1 q13), fun q13 => (((((z4.2 q5).2.2 q10).2 q11).2 q12).2 q13)⟩⟩⟩⟩⟩)⟩⟩)⟩⟩)⟩), fun q3 => (z2.2 q3)⟩)⟩)⟩⟩)
def T_Mo_judge : List pmE := [
  (0, [], .aload 0, 0, 0, 0),
  (1, [], .iload 1, 0, 0, 0),
  (2, [], .invokeinterface 181 649, 0, 251, 1270),
  (5, [], .ifCond .ge 14, 0, 0, 0),
  (8, [], .aload 0, 0, 0, 0),
  (9, [], .iload 1, 0, 0, 0),
  (10, [], .invokeinterface 181 649, 0, 251, 1270),
  (13, [], .ireturn, 0, 0, 0),
  (14, [], .aload 0, 0, 0, 0),
  (15, [], .invokeinterface 172 644, 0, 228, 1250),
  (18, [], .aload 0, 0, 0, 0),
  (19, [], .iload 1, 0, 0, 0),
  (20, [], .invokeinterface 206 649, 0, 306, 1398),
  (23, [], .ireturn, 0, 0, 0)]
theorem tk_Mo_judge : pm_okT M_Mo_judge T_Mo_judge = true := by decide +kernel
theorem ok_Mo_judge : pm_okm M_Mo_judge := pm_okm_of _ 1397 85 1395 1396 (by decide +kernel)
set_option maxRecDepth 100000 in
set_option maxHeartbeats 4000000 in
theorem m_Mo_judge {d : Nat} {H : pmT} {Q : pmQ} (a1 : Int32)
    (h : ((lg_cmp a1.toInt64 (0 : Int64)) < 0 → Q (some (.int (-1 : Int32))) H) ∧ (¬ (lg_cmp a1.toInt64 (0 : Int64)) < 0 → (0 < (lg_cmp a1.toInt64 (5 : Int64)) → Q (some (.int (-1 : Int32))) H) ∧ (¬ 0 < (lg_cmp a1.toInt64 (5 : Int64)) → vp_in a1 6 ∧ ((0 ≤ (H.1 81 a1.toNatClampNeg) → (¬ (H.1 81 a1.toNatClampNeg) = (50 : Int32) → Q (some (.int (-12 : Int32))) H) ∧ ((H.1 81 a1.toNatClampNeg) = (50 : Int32) → pm_R (d + 2) M_Mo_begins1 [.ref 55] H (pm_v (fun H28 => pm_R (d + 2) M_Mo_firstFalse [.ref 55, .int a1] H28 (pm_i (fun x30 H29 => Q (some (.int x30)) H29)))))) ∧ (¬ 0 ≤ (H.1 81 a1.toNatClampNeg) → Q (some (.int (-11 : Int32))) H))))) : pm_R (d + 3) M_Mo_judge [.ref 55, .int a1] H Q :=
  pm_walk (n := 10) ok_Mo_judge tk_Mo_judge rfl (Nat.le_of_ble_eq_true rfl) (show pm_R (d + 2) M_Mo_bytesIs [.ref 55, .int a1] H (pm_i (fun x2 H1 => (0 ≤ x2 → pm_R (d + 2) M_Mo_begins1 [.ref 55] H1 (pm_v (fun H3 => pm_R (d + 2) M_Mo_firstFalse [.ref 55, .int a1] H3 (pm_i (fun x5 H4 => Q (some (.int x5)) H4))))) ∧ (¬ 0 ≤ x2 → pm_R (d + 2) M_Mo_bytesIs [.ref 55, .int a1] H1 (pm_i (fun x7 H6 => Q (some (.int x7)) H6))))) from u_Mo_bytesIs a1 (u_Mo_isShelf a1 (u_Mo_within a1.toInt64 (0 : Int64) (5 : Int64) (⟨fun q1 => ⟨Or.inl rfl, ⟨Or.inl rfl, ⟨fun z => absurd (by decide) z, fun _ => ⟨fun z => absurd z (by decide), fun _ => u_Mo_bytesIs a1 (u_Mo_isShelf a1 (u_Mo_within a1.toInt64 (0 : Int64) (5 : Int64) (⟨fun _ => ⟨Or.inl rfl, ⟨Or.inl rfl, ⟨fun z => absurd (by decide) z, fun _ => (h.1 q1)⟩⟩⟩, fun z => absurd q1 z⟩)))⟩⟩⟩⟩, fun q1 => ⟨fun q2 => ⟨Or.inl rfl, ⟨Or.inl rfl, ⟨fun z => absurd (by decide) z, fun _ => ⟨fun z => absurd z (by decide), fun _ => u_Mo_bytesIs a1 (u_Mo_isShelf a1 (u_Mo_within a1.toInt64 (0 : Int64) (5 : Int64) (⟨fun z => absurd z q1, fun _ => ⟨fun _ => ⟨Or.inl rfl, ⟨Or.inl rfl, ⟨fun z => absurd (by decide) z, fun _ => ((h.2 q1).1 q2)⟩⟩⟩, fun z => absurd q2 z⟩⟩)))⟩⟩⟩⟩, fun q2 => ⟨Or.inr rfl, ⟨Or.inr rfl, ⟨fun _ => ⟨((h.2 q1).2 q2).1, ⟨fun q3 => ⟨((h.2 q1).2 q2).1, ⟨fun q4 => ⟨fun z => absurd z (by decide), fun _ => u_Mo_bytesIs a1 (u_Mo_isShelf a1 (u_Mo_within a1.toInt64 (0 : Int64) (5 : Int64) (⟨fun z => absurd z q1, fun _ => ⟨fun z => absurd z q2, fun _ => ⟨Or.inr rfl, ⟨Or.inr rfl, ⟨fun _ => ⟨((h.2 q1).2 q2).1, ⟨fun _ => ⟨((h.2 q1).2 q2).1, ⟨fun _ => ((((h.2 q1).2 q2).2.1 q3).1 q4), fun z => absurd z q4⟩⟩, fun z => absurd q3 z⟩⟩, fun z => absurd z (by decide)⟩⟩⟩⟩⟩)))⟩, fun q4 => ⟨fun _ => ((((h.2 q1).2 q2).2.1 q3).2 q4), fun z => absurd (by decide) z⟩⟩⟩, fun q3 => ⟨fun z => absurd z (by decide), fun _ => u_Mo_bytesIs a1 (u_Mo_isShelf a1 (u_Mo_within a1.toInt64 (0 : Int64) (5 : Int64) (⟨fun z => absurd z q1, fun _ => ⟨fun z => absurd z q2, fun _ => ⟨Or.inr rfl, ⟨Or.inr rfl, ⟨fun _ => ⟨((h.2 q1).2 q2).1, ⟨fun z => absurd z q3, fun _ => (((h.2 q1).2 q2).2.2 q3)⟩⟩, fun z => absurd z (by decide)⟩⟩⟩⟩⟩)))⟩⟩⟩, fun z => absurd z (by decide)⟩⟩⟩⟩⟩))))
def T_Mo_wrongFor : List pmE := [
  (0, [], .aload 0, 0, 0, 0),
  (1, [], .iload 1, 0, 0, 0),
  (2, [], .invokeinterface 181 649, 0, 251, 1270),
  (5, [], .iconst (-1), 0, 0, 0),
  (6, [], .if_icmp .eq 28, 0, 0, 0),
  (9, [], .aload 0, 0, 0, 0),
  (10, [], .iload 2, 0, 0, 0),
  (11, [], .i2l, 0, 0, 0),
  (12, [], .invokeinterface 150 649, 0, 136, 1177),
  (15, [], .ifCond .eq 28, 0, 0, 0),
  (18, [], .iload 3, 0, 0, 0),
  (19, [], .i2l, 0, 0, 0),
  (20, [], .jsr 0, 0, 0, 0),
  (21, [], .jsr 1, 0, 0, 0),
  (22, [], .invokeinterface 143 13, 1, 114, 1152),
  (25, [], .ifCond .ne 30, 0, 0, 0),
  (28, [], .iconst (-1), 0, 0, 0),
  (29, [], .ireturn, 0, 0, 0),
  (30, [], .aload 0, 0, 0, 0),
  (31, [], .iload 1, 0, 0, 0),
  (32, [], .invokeinterface 181 649, 0, 251, 1270),
  (35, [], .ifCond .ge 44, 0, 0, 0),
  (38, [], .aload 0, 0, 0, 0),
  (39, [], .iload 1, 0, 0, 0),
  (40, [], .invokeinterface 181 649, 0, 251, 1270),
  (43, [], .ireturn, 0, 0, 0),
  (44, [], .iconst (-2), 1, 0, 0),
  (46, [], .istore 4, 1, 0, 0),
  (48, [], .iconst (-2), 1, 0, 0),
  (50, [], .istore 5, 1, 0, 0),
  (52, [], .iconst 0, 0, 0, 0),
  (53, [], .istore 6, 1, 0, 0),
  (55, [0, 1, 2, 3, 4, 5, 6], .iload 6, 1, 0, 0),
  (57, [], .iconst 999, 2, 0, 0),
  (60, [], .if_icmp .gt 109, 0, 0, 0),
  (63, [], .aload 0, 0, 0, 0),
  (64, [], .invokeinterface 172 644, 0, 228, 1250),
  (67, [], .aload 0, 0, 0, 0),
  (68, [], .getfield 596, 0, 42, 998),
  (71, [], .iload 2, 0, 0, 0),
  (72, [], .iload 6, 1, 0, 0),
  (74, [], .iastore, 0, 0, 0),
  (75, [], .aload 0, 0, 0, 0),
  (76, [], .iload 1, 0, 0, 0),
  (77, [], .invokeinterface 206 649, 0, 306, 1398),
  (80, [], .iconst (-2), 1, 0, 0),
  (82, [], .if_icmp .ne 103, 0, 0, 0),
  (85, [], .iload 4, 1, 0, 0),
  (87, [], .ifCond .ge 95, 0, 0, 0),
  (90, [], .iload 6, 1, 0, 0),
  (92, [], .goto 97, 0, 0, 0),
  (95, [], .iload 4, 1, 0, 0),
  (97, [], .istore 4, 1, 0, 0),
  (99, [], .iload 6, 1, 0, 0),
  (101, [], .istore 5, 1, 0, 0),
  (103, [], .iinc 6 1, 0, 0, 0),
  (106, [], .goto 55, 0, 0, 0),
  (109, [], .iload 3, 0, 0, 0),
  (110, [], .ifCond .ne 118, 0, 0, 0),
  (113, [], .iload 4, 1, 0, 0),
  (115, [], .goto 120, 0, 0, 0),
  (118, [], .iload 5, 1, 0, 0),
  (120, [], .ireturn, 0, 0, 0)]
theorem tk_Mo_wrongFor : pm_okT M_Mo_wrongFor T_Mo_wrongFor = true := by decide +kernel
theorem ok_Mo_wrongFor : pm_okm M_Mo_wrongFor := pm_okm_of _ 1405 85 1403 1404 (by decide +kernel)
set_option maxRecDepth 100000 in
set_option maxHeartbeats 4000000 in
theorem m_Mo_wrongFor {d : Nat} {H : pmT} {Q : pmQ} (a1 : Int32) (a2 : Int32) (a3 : Int32)
    (h : ((lg_cmp a1.toInt64 (0 : Int64)) < 0 → Q (some (.int (-1 : Int32))) H) ∧ (¬ (lg_cmp a1.toInt64 (0 : Int64)) < 0 → (0 < (lg_cmp a1.toInt64 (5 : Int64)) → Q (some (.int (-1 : Int32))) H) ∧ (¬ 0 < (lg_cmp a1.toInt64 (5 : Int64)) → vp_in a1 6 ∧ ((0 ≤ (H.1 81 a1.toNatClampNeg) → (¬ (H.1 81 a1.toNatClampNeg) = (50 : Int32) → ((lg_cmp a2.toInt64 (0 : Int64)) < 0 → Q (some (.int (-1 : Int32))) H) ∧ (¬ (lg_cmp a2.toInt64 (0 : Int64)) < 0 → (0 < (lg_cmp a2.toInt64 (((H.1 55 6) - (1 : Int32)).toInt64)) → Q (some (.int (-1 : Int32))) H) ∧ (¬ 0 < (lg_cmp a2.toInt64 (((H.1 55 6) - (1 : Int32)).toInt64)) → ((lg_cmp a3.toInt64 (0 : Int64)) < 0 → Q (some (.int (-1 : Int32))) H) ∧ (¬ (lg_cmp a3.toInt64 (0 : Int64)) < 0 → (0 < (lg_cmp a3.toInt64 (1 : Int64)) → Q (some (.int (-1 : Int32))) H) ∧ (¬ 0 < (lg_cmp a3.toInt64 (1 : Int64)) → Q (some (.int (-12 : Int32))) H))))) ∧ ((H.1 81 a1.toNatClampNeg) = (50 : Int32) → ((lg_cmp a2.toInt64 (0 : Int64)) < 0 → Q (some (.int (-1 : Int32))) H) ∧ (¬ (lg_cmp a2.toInt64 (0 : Int64)) < 0 → (0 < (lg_cmp a2.toInt64 (((H.1 55 6) - (1 : Int32)).toInt64)) → Q (some (.int (-1 : Int32))) H) ∧ (¬ 0 < (lg_cmp a2.toInt64 (((H.1 55 6) - (1 : Int32)).toInt64)) → ((lg_cmp a3.toInt64 (0 : Int64)) < 0 → Q (some (.int (-1 : Int32))) H) ∧ (¬ (lg_cmp a3.toInt64 (0 : Int64)) < 0 → (0 < (lg_cmp a3.toInt64 (1 : Int64)) → Q (some (.int (-1 : Int32))) H) ∧ (¬ 0 < (lg_cmp a3.toInt64 (1 : Int64)) → pm_RW none (d + 3) M_Mo_wrongFor Q 55 [(0, .ref 55), (1, .int a1), (2, .int a2), (3, .int a3), (4, .int (-2 : Int32)), (5, .int (-2 : Int32)), (6, .int (0 : Int32))] [] H)))))) ∧ (¬ 0 ≤ (H.1 81 a1.toNatClampNeg) → ((lg_cmp a2.toInt64 (0 : Int64)) < 0 → Q (some (.int (-1 : Int32))) H) ∧ (¬ (lg_cmp a2.toInt64 (0 : Int64)) < 0 → (0 < (lg_cmp a2.toInt64 (((H.1 55 6) - (1 : Int32)).toInt64)) → Q (some (.int (-1 : Int32))) H) ∧ (¬ 0 < (lg_cmp a2.toInt64 (((H.1 55 6) - (1 : Int32)).toInt64)) → ((lg_cmp a3.toInt64 (0 : Int64)) < 0 → Q (some (.int (-1 : Int32))) H) ∧ (¬ (lg_cmp a3.toInt64 (0 : Int64)) < 0 → (0 < (lg_cmp a3.toInt64 (1 : Int64)) → Q (some (.int (-1 : Int32))) H) ∧ (¬ 0 < (lg_cmp a3.toInt64 (1 : Int64)) → Q (some (.int (-11 : Int32))) H))))))))) : pm_R (d + 3) M_Mo_wrongFor [.ref 55, .int a1, .int a2, .int a3] H Q :=
  pm_walk (n := 27) ok_Mo_wrongFor tk_Mo_wrongFor rfl (Nat.le_of_ble_eq_true rfl) (show pm_R (d + 2) M_Mo_bytesIs [.ref 55, .int a1] H (pm_i (fun x2 H1 => (x2 = (-1 : Int32) → Q (some (.int (-1 : Int32))) H1) ∧ (¬ x2 = (-1 : Int32) → pm_R (d + 2) M_Mo_isBar [.ref 55, .long a2.toInt64] H1 (pm_i (fun x4 H3 => (x4 = 0 → Q (some (.int (-1 : Int32))) H3) ∧ (¬ x4 = 0 → pm_R (d + 2) M_Mo_within [.long a3.toInt64, .long (0 : Int64), .long (1 : Int64)] H3 (pm_i (fun x6 H5 => (¬ x6 = 0 → pm_R (d + 2) M_Mo_bytesIs [.ref 55, .int a1] H5 (pm_i (fun x8 H7 => (0 ≤ x8 → pm_RW none (d + 3) M_Mo_wrongFor Q 55 [(0, .ref 55), (1, .int a1), (2, .int a2), (3, .int a3), (4, .int (-2 : Int32)), (5, .int (-2 : Int32)), (6, .int (0 : Int32))] [] H7) ∧ (¬ 0 ≤ x8 → pm_R (d + 2) M_Mo_bytesIs [.ref 55, .int a1] H7 (pm_i (fun x10 H9 => Q (some (.int x10)) H9)))))) ∧ (x6 = 0 → Q (some (.int (-1 : Int32))) H5))))))))) from u_Mo_bytesIs a1 (u_Mo_isShelf a1 (u_Mo_within a1.toInt64 (0 : Int64) (5 : Int64) (⟨fun q1 => ⟨Or.inl rfl, ⟨Or.inl rfl, ⟨fun z => absurd (by decide) z, fun _ => ⟨fun _ => (h.1 q1), fun z => absurd (by decide) z⟩⟩⟩⟩, fun q1 => ⟨fun q2 => ⟨Or.inl rfl, ⟨Or.inl rfl, ⟨fun z => absurd (by decide) z, fun _ => ⟨fun _ => ((h.2 q1).1 q2), fun z => absurd (by decide) z⟩⟩⟩⟩, fun q2 => ⟨Or.inr rfl, ⟨Or.inr rfl, ⟨fun _ => ⟨((h.2 q1).2 q2).1, ⟨fun q3 => ⟨((h.2 q1).2 q2).1, ⟨fun q4 => ⟨fun z => absurd z (by decide), fun _ => u_Mo_isBar a2.toInt64 (u_Mo_within a2.toInt64 (0 : Int64) (((H.1 55 6) - (1 : Int32)).toInt64) (⟨fun q5 => ⟨Or.inl rfl, ⟨Or.inl rfl, ⟨fun _ => (((((h.2 q1).2 q2).2.1 q3).1 q4).1 q5), fun z => absurd (by decide) z⟩⟩⟩, fun q5 => ⟨fun q6 => ⟨Or.inl rfl, ⟨Or.inl rfl, ⟨fun _ => ((((((h.2 q1).2 q2).2.1 q3).1 q4).2 q5).1 q6), fun z => absurd (by decide) z⟩⟩⟩, fun q6 => ⟨Or.inr rfl, ⟨Or.inr rfl, ⟨fun z => absurd z (by decide), fun _ => u_Mo_within a3.toInt64 (0 : Int64) (1 : Int64) (⟨fun q7 => ⟨Or.inl rfl, ⟨fun z => absurd (by decide) z, fun _ => (((((((h.2 q1).2 q2).2.1 q3).1 q4).2 q5).2 q6).1 q7)⟩⟩, fun q7 => ⟨fun q8 => ⟨Or.inl rfl, ⟨fun z => absurd (by decide) z, fun _ => ((((((((h.2 q1).2 q2).2.1 q3).1 q4).2 q5).2 q6).2 q7).1 q8)⟩⟩, fun q8 => ⟨Or.inr rfl, ⟨fun _ => u_Mo_bytesIs a1 (u_Mo_isShelf a1 (u_Mo_within a1.toInt64 (0 : Int64) (5 : Int64) (⟨fun z => absurd z q1, fun _ => ⟨fun z => absurd z q2, fun _ => ⟨Or.inr rfl, ⟨Or.inr rfl, ⟨fun _ => ⟨((h.2 q1).2 q2).1, ⟨fun _ => ⟨((h.2 q1).2 q2).1, ⟨fun _ => ⟨fun z => absurd z (by decide), fun _ => u_Mo_bytesIs a1 (u_Mo_isShelf a1 (u_Mo_within a1.toInt64 (0 : Int64) (5 : Int64) (⟨fun z => absurd z q1, fun _ => ⟨fun z => absurd z q2, fun _ => ⟨Or.inr rfl, ⟨Or.inr rfl, ⟨fun _ => ⟨((h.2 q1).2 q2).1, ⟨fun _ => ⟨((h.2 q1).2 q2).1, ⟨fun _ => ((((((((h.2 q1).2 q2).2.1 q3).1 q4).2 q5).2 q6).2 q7).2 q8), fun z => absurd z q4⟩⟩, fun z => absurd q3 z⟩⟩, fun z => absurd z (by decide)⟩⟩⟩⟩⟩)))⟩, fun z => absurd z q4⟩⟩, fun z => absurd q3 z⟩⟩, fun z => absurd z (by decide)⟩⟩⟩⟩⟩))), fun z => absurd z (by decide)⟩⟩⟩⟩)⟩⟩⟩⟩⟩))⟩, fun q4 => ⟨fun z => absurd z (by decide), fun _ => u_Mo_isBar a2.toInt64 (u_Mo_within a2.toInt64 (0 : Int64) (((H.1 55 6) - (1 : Int32)).toInt64) (⟨fun q9 => ⟨Or.inl rfl, ⟨Or.inl rfl, ⟨fun _ => (((((h.2 q1).2 q2).2.1 q3).2 q4).1 q9), fun z => absurd (by decide) z⟩⟩⟩, fun q9 => ⟨fun q10 => ⟨Or.inl rfl, ⟨Or.inl rfl, ⟨fun _ => ((((((h.2 q1).2 q2).2.1 q3).2 q4).2 q9).1 q10), fun z => absurd (by decide) z⟩⟩⟩, fun q10 => ⟨Or.inr rfl, ⟨Or.inr rfl, ⟨fun z => absurd z (by decide), fun _ => u_Mo_within a3.toInt64 (0 : Int64) (1 : Int64) (⟨fun q11 => ⟨Or.inl rfl, ⟨fun z => absurd (by decide) z, fun _ => (((((((h.2 q1).2 q2).2.1 q3).2 q4).2 q9).2 q10).1 q11)⟩⟩, fun q11 => ⟨fun q12 => ⟨Or.inl rfl, ⟨fun z => absurd (by decide) z, fun _ => ((((((((h.2 q1).2 q2).2.1 q3).2 q4).2 q9).2 q10).2 q11).1 q12)⟩⟩, fun q12 => ⟨Or.inr rfl, ⟨fun _ => u_Mo_bytesIs a1 (u_Mo_isShelf a1 (u_Mo_within a1.toInt64 (0 : Int64) (5 : Int64) (⟨fun z => absurd z q1, fun _ => ⟨fun z => absurd z q2, fun _ => ⟨Or.inr rfl, ⟨Or.inr rfl, ⟨fun _ => ⟨((h.2 q1).2 q2).1, ⟨fun _ => ⟨((h.2 q1).2 q2).1, ⟨fun z => absurd q4 z, fun _ => ⟨fun _ => ((((((((h.2 q1).2 q2).2.1 q3).2 q4).2 q9).2 q10).2 q11).2 q12), fun z => absurd (by decide) z⟩⟩⟩, fun z => absurd q3 z⟩⟩, fun z => absurd z (by decide)⟩⟩⟩⟩⟩))), fun z => absurd z (by decide)⟩⟩⟩⟩)⟩⟩⟩⟩⟩))⟩⟩⟩, fun q3 => ⟨fun z => absurd z (by decide), fun _ => u_Mo_isBar a2.toInt64 (u_Mo_within a2.toInt64 (0 : Int64) (((H.1 55 6) - (1 : Int32)).toInt64) (⟨fun q13 => ⟨Or.inl rfl, ⟨Or.inl rfl, ⟨fun _ => ((((h.2 q1).2 q2).2.2 q3).1 q13), fun z => absurd (by decide) z⟩⟩⟩, fun q13 => ⟨fun q14 => ⟨Or.inl rfl, ⟨Or.inl rfl, ⟨fun _ => (((((h.2 q1).2 q2).2.2 q3).2 q13).1 q14), fun z => absurd (by decide) z⟩⟩⟩, fun q14 => ⟨Or.inr rfl, ⟨Or.inr rfl, ⟨fun z => absurd z (by decide), fun _ => u_Mo_within a3.toInt64 (0 : Int64) (1 : Int64) (⟨fun q15 => ⟨Or.inl rfl, ⟨fun z => absurd (by decide) z, fun _ => ((((((h.2 q1).2 q2).2.2 q3).2 q13).2 q14).1 q15)⟩⟩, fun q15 => ⟨fun q16 => ⟨Or.inl rfl, ⟨fun z => absurd (by decide) z, fun _ => (((((((h.2 q1).2 q2).2.2 q3).2 q13).2 q14).2 q15).1 q16)⟩⟩, fun q16 => ⟨Or.inr rfl, ⟨fun _ => u_Mo_bytesIs a1 (u_Mo_isShelf a1 (u_Mo_within a1.toInt64 (0 : Int64) (5 : Int64) (⟨fun z => absurd z q1, fun _ => ⟨fun z => absurd z q2, fun _ => ⟨Or.inr rfl, ⟨Or.inr rfl, ⟨fun _ => ⟨((h.2 q1).2 q2).1, ⟨fun z => absurd z q3, fun _ => ⟨fun z => absurd z (by decide), fun _ => u_Mo_bytesIs a1 (u_Mo_isShelf a1 (u_Mo_within a1.toInt64 (0 : Int64) (5 : Int64) (⟨fun z => absurd z q1, fun _ => ⟨fun z => absurd z q2, fun _ => ⟨Or.inr rfl, ⟨Or.inr rfl, ⟨fun _ => ⟨((h.2 q1).2 q2).1, ⟨fun z => absurd z q3, fun _ => (((((((h.2 q1).2 q2).2.2 q3).2 q13).2 q14).2 q15).2 q16)⟩⟩, fun z => absurd z (by decide)⟩⟩⟩⟩⟩)))⟩⟩⟩, fun z => absurd z (by decide)⟩⟩⟩⟩⟩))), fun z => absurd z (by decide)⟩⟩⟩⟩)⟩⟩⟩⟩⟩))⟩⟩⟩, fun z => absurd z (by decide)⟩⟩⟩⟩⟩))))
set_option maxRecDepth 100000 in
set_option maxHeartbeats 4000000 in
theorem b_Mo_wrongFor_55 {d : Nat} {H : pmT} {Q : pmQ} (v1 : Int32) (v2 : Int32) (v3 : Int32) (v4 : Int32) (v5 : Int32) (v6 : Int32)
    (h : ((999 : Int32) < v6 → (¬ v3 = 0 → Q (some (.int v5)) H) ∧ (v3 = 0 → Q (some (.int v4)) H)) ∧ (¬ (999 : Int32) < v6 → pm_R (d + 2) M_Mo_begins1 [.ref 55] H (pm_v (fun H1 => vp_in v2 12 ∧ (pm_R (d + 2) M_Mo_firstFalse [.ref 55, .int v1] ((pm_up H1.1 66 v2.toNatClampNeg v6), H1.2) (pm_i (fun x3 H2 => (¬ x3 = (-2 : Int32) → pm_RW none (d + 3) M_Mo_wrongFor Q 55 [(0, .ref 55), (1, .int v1), (2, .int v2), (3, .int v3), (4, .int v4), (5, .int v5), (6, .int (v6 + (1 : Int32)))] [] H2) ∧ (x3 = (-2 : Int32) → (0 ≤ v4 → pm_RW none (d + 3) M_Mo_wrongFor Q 55 [(0, .ref 55), (1, .int v1), (2, .int v2), (3, .int v3), (4, .int v4), (5, .int v6), (6, .int (v6 + (1 : Int32)))] [] H2) ∧ (¬ 0 ≤ v4 → pm_RW none (d + 3) M_Mo_wrongFor Q 55 [(0, .ref 55), (1, .int v1), (2, .int v2), (3, .int v3), (4, .int v6), (5, .int v6), (6, .int (v6 + (1 : Int32)))] [] H2))))))))) : pm_RW none (d + 3) M_Mo_wrongFor Q 55 [(0, .ref 55), (1, .int v1), (2, .int v2), (3, .int v3), (4, .int v4), (5, .int v5), (6, .int v6)] [] H :=
  pm_body tk_Mo_wrongFor 24 55 (show ((999 : Int32) < v6 → (¬ v3 = 0 → Q (some (.int v5)) H) ∧ (v3 = 0 → Q (some (.int v4)) H)) ∧ (¬ (999 : Int32) < v6 → pm_R (d + 2) M_Mo_begins1 [.ref 55] H (pm_v (fun H1 => vp_in v2 12 ∧ (pm_R (d + 2) M_Mo_firstFalse [.ref 55, .int v1] ((pm_up H1.1 66 v2.toNatClampNeg v6), H1.2) (pm_i (fun x3 H2 => (¬ x3 = (-2 : Int32) → pm_RW none (d + 3) M_Mo_wrongFor Q 55 [(0, .ref 55), (1, .int v1), (2, .int v2), (3, .int v3), (4, .int v4), (5, .int v5), (6, .int (v6 + (1 : Int32)))] [] H2) ∧ (x3 = (-2 : Int32) → (0 ≤ v4 → pm_RW none (d + 3) M_Mo_wrongFor Q 55 [(0, .ref 55), (1, .int v1), (2, .int v2), (3, .int v3), (4, .int v4), (5, .int v6), (6, .int (v6 + (1 : Int32)))] [] H2) ∧ (¬ 0 ≤ v4 → pm_RW none (d + 3) M_Mo_wrongFor Q 55 [(0, .ref 55), (1, .int v1), (2, .int v2), (3, .int v3), (4, .int v6), (5, .int v6), (6, .int (v6 + (1 : Int32)))] [] H2)))))))) from ⟨fun q1 => ⟨fun q2 => ((h.1 q1).1 q2), fun q2 => ((h.1 q1).2 q2)⟩, fun q1 => pm_mv' (h.2 q1) (fun H1 z3 => ⟨z3.1, pm_mi z3.2 (fun x3 H2 z4 => ⟨fun q5 => (z4.1 q5), fun q5 => ⟨fun q6 => ((z4.2 q5).1 q6), fun q6 => ((z4.2 q5).2 q6)⟩⟩)⟩)⟩)
def T_Mo_fadesFor : List pmE := [
  (0, [], .aload 0, 0, 0, 0),
  (1, [], .iload 1, 0, 0, 0),
  (2, [], .invokeinterface 181 649, 0, 251, 1270),
  (5, [], .ifCond .ge 14, 0, 0, 0),
  (8, [], .aload 0, 0, 0, 0),
  (9, [], .iload 1, 0, 0, 0),
  (10, [], .invokeinterface 181 649, 0, 251, 1270),
  (13, [], .ireturn, 0, 0, 0),
  (14, [], .iconst 0, 0, 0, 0),
  (15, [], .istore 2, 0, 0, 0),
  (16, [0, 1, 2], .iload 2, 0, 0, 0),
  (17, [], .iconst 12, 1, 0, 0),
  (19, [], .if_icmp .gt 49, 0, 0, 0),
  (22, [], .aload 0, 0, 0, 0),
  (23, [], .invokeinterface 172 644, 0, 228, 1250),
  (26, [], .aload 0, 0, 0, 0),
  (27, [], .iload 2, 0, 0, 0),
  (28, [], .putfield 599, 0, 213, 1001),
  (31, [], .aload 0, 0, 0, 0),
  (32, [], .iload 1, 0, 0, 0),
  (33, [], .invokeinterface 206 649, 0, 306, 1398),
  (36, [], .iconst (-2), 1, 0, 0),
  (38, [], .if_icmp .ne 43, 0, 0, 0),
  (41, [], .iload 2, 0, 0, 0),
  (42, [], .ireturn, 0, 0, 0),
  (43, [], .iinc 2 1, 0, 0, 0),
  (46, [], .goto 16, 0, 0, 0),
  (49, [], .iconst (-2), 1, 0, 0),
  (51, [], .ireturn, 0, 0, 0)]
theorem tk_Mo_fadesFor : pm_okT M_Mo_fadesFor T_Mo_fadesFor = true := by decide +kernel
theorem ok_Mo_fadesFor : pm_okm M_Mo_fadesFor := pm_okm_of _ 1409 85 1407 1408 (by decide +kernel)
set_option maxRecDepth 100000 in
set_option maxHeartbeats 4000000 in
theorem m_Mo_fadesFor {d : Nat} {H : pmT} {Q : pmQ} (a1 : Int32)
    (h : ((lg_cmp a1.toInt64 (0 : Int64)) < 0 → Q (some (.int (-1 : Int32))) H) ∧ (¬ (lg_cmp a1.toInt64 (0 : Int64)) < 0 → (0 < (lg_cmp a1.toInt64 (5 : Int64)) → Q (some (.int (-1 : Int32))) H) ∧ (¬ 0 < (lg_cmp a1.toInt64 (5 : Int64)) → vp_in a1 6 ∧ ((0 ≤ (H.1 81 a1.toNatClampNeg) → (¬ (H.1 81 a1.toNatClampNeg) = (50 : Int32) → Q (some (.int (-12 : Int32))) H) ∧ ((H.1 81 a1.toNatClampNeg) = (50 : Int32) → pm_RW none (d + 3) M_Mo_fadesFor Q 16 [(0, .ref 55), (1, .int a1), (2, .int (0 : Int32))] [] H)) ∧ (¬ 0 ≤ (H.1 81 a1.toNatClampNeg) → Q (some (.int (-11 : Int32))) H))))) : pm_R (d + 3) M_Mo_fadesFor [.ref 55, .int a1] H Q :=
  pm_walk (n := 8) ok_Mo_fadesFor tk_Mo_fadesFor rfl (Nat.le_of_ble_eq_true rfl) (show pm_R (d + 2) M_Mo_bytesIs [.ref 55, .int a1] H (pm_i (fun x2 H1 => (0 ≤ x2 → pm_RW none (d + 3) M_Mo_fadesFor Q 16 [(0, .ref 55), (1, .int a1), (2, .int (0 : Int32))] [] H1) ∧ (¬ 0 ≤ x2 → pm_R (d + 2) M_Mo_bytesIs [.ref 55, .int a1] H1 (pm_i (fun x4 H3 => Q (some (.int x4)) H3))))) from u_Mo_bytesIs a1 (u_Mo_isShelf a1 (u_Mo_within a1.toInt64 (0 : Int64) (5 : Int64) (⟨fun q1 => ⟨Or.inl rfl, ⟨Or.inl rfl, ⟨fun z => absurd (by decide) z, fun _ => ⟨fun z => absurd z (by decide), fun _ => u_Mo_bytesIs a1 (u_Mo_isShelf a1 (u_Mo_within a1.toInt64 (0 : Int64) (5 : Int64) (⟨fun _ => ⟨Or.inl rfl, ⟨Or.inl rfl, ⟨fun z => absurd (by decide) z, fun _ => (h.1 q1)⟩⟩⟩, fun z => absurd q1 z⟩)))⟩⟩⟩⟩, fun q1 => ⟨fun q2 => ⟨Or.inl rfl, ⟨Or.inl rfl, ⟨fun z => absurd (by decide) z, fun _ => ⟨fun z => absurd z (by decide), fun _ => u_Mo_bytesIs a1 (u_Mo_isShelf a1 (u_Mo_within a1.toInt64 (0 : Int64) (5 : Int64) (⟨fun z => absurd z q1, fun _ => ⟨fun _ => ⟨Or.inl rfl, ⟨Or.inl rfl, ⟨fun z => absurd (by decide) z, fun _ => ((h.2 q1).1 q2)⟩⟩⟩, fun z => absurd q2 z⟩⟩)))⟩⟩⟩⟩, fun q2 => ⟨Or.inr rfl, ⟨Or.inr rfl, ⟨fun _ => ⟨((h.2 q1).2 q2).1, ⟨fun q3 => ⟨((h.2 q1).2 q2).1, ⟨fun q4 => ⟨fun z => absurd z (by decide), fun _ => u_Mo_bytesIs a1 (u_Mo_isShelf a1 (u_Mo_within a1.toInt64 (0 : Int64) (5 : Int64) (⟨fun z => absurd z q1, fun _ => ⟨fun z => absurd z q2, fun _ => ⟨Or.inr rfl, ⟨Or.inr rfl, ⟨fun _ => ⟨((h.2 q1).2 q2).1, ⟨fun _ => ⟨((h.2 q1).2 q2).1, ⟨fun _ => ((((h.2 q1).2 q2).2.1 q3).1 q4), fun z => absurd z q4⟩⟩, fun z => absurd q3 z⟩⟩, fun z => absurd z (by decide)⟩⟩⟩⟩⟩)))⟩, fun q4 => ⟨fun _ => ((((h.2 q1).2 q2).2.1 q3).2 q4), fun z => absurd (by decide) z⟩⟩⟩, fun q3 => ⟨fun z => absurd z (by decide), fun _ => u_Mo_bytesIs a1 (u_Mo_isShelf a1 (u_Mo_within a1.toInt64 (0 : Int64) (5 : Int64) (⟨fun z => absurd z q1, fun _ => ⟨fun z => absurd z q2, fun _ => ⟨Or.inr rfl, ⟨Or.inr rfl, ⟨fun _ => ⟨((h.2 q1).2 q2).1, ⟨fun z => absurd z q3, fun _ => (((h.2 q1).2 q2).2.2 q3)⟩⟩, fun z => absurd z (by decide)⟩⟩⟩⟩⟩)))⟩⟩⟩, fun z => absurd z (by decide)⟩⟩⟩⟩⟩))))
set_option maxRecDepth 100000 in
set_option maxHeartbeats 4000000 in
theorem b_Mo_fadesFor_16 {d : Nat} {H : pmT} {Q : pmQ} (v1 : Int32) (v2 : Int32)
    (h : ((12 : Int32) < v2 → Q (some (.int (-2 : Int32))) H) ∧ (¬ (12 : Int32) < v2 → pm_R (d + 2) M_Mo_begins1 [.ref 55] H (pm_v (fun H1 => pm_R (d + 2) M_Mo_firstFalse [.ref 55, .int v1] ((pm_up H1.1 55 23 v2), H1.2) (pm_i (fun x3 H2 => (¬ x3 = (-2 : Int32) → pm_RW none (d + 3) M_Mo_fadesFor Q 16 [(0, .ref 55), (1, .int v1), (2, .int (v2 + (1 : Int32)))] [] H2) ∧ (x3 = (-2 : Int32) → Q (some (.int v2)) H2))))))) : pm_RW none (d + 3) M_Mo_fadesFor Q 16 [(0, .ref 55), (1, .int v1), (2, .int v2)] [] H :=
  pm_body tk_Mo_fadesFor 15 16 (show ((12 : Int32) < v2 → Q (some (.int (-2 : Int32))) H) ∧ (¬ (12 : Int32) < v2 → pm_R (d + 2) M_Mo_begins1 [.ref 55] H (pm_v (fun H1 => pm_R (d + 2) M_Mo_firstFalse [.ref 55, .int v1] ((pm_up H1.1 55 23 v2), H1.2) (pm_i (fun x3 H2 => (¬ x3 = (-2 : Int32) → pm_RW none (d + 3) M_Mo_fadesFor Q 16 [(0, .ref 55), (1, .int v1), (2, .int (v2 + (1 : Int32)))] [] H2) ∧ (x3 = (-2 : Int32) → Q (some (.int v2)) H2)))))) from ⟨fun q1 => (h.1 q1), fun q1 => pm_mv' (h.2 q1) (fun H1 z2 => pm_mi z2 (fun x3 H2 z3 => ⟨fun q4 => (z3.1 q4), fun q4 => (z3.2 q4)⟩))⟩)
def T_Mo_mayBe : List pmE := [
  (0, [], .aload 0, 0, 0, 0),
  (1, [], .iload 2, 0, 0, 0),
  (2, [], .invokeinterface 173 648, 0, 209, 1254),
  (5, [], .iconst 0, 0, 0, 0),
  (6, [], .istore 3, 0, 0, 0),
  (7, [0, 1, 2, 3], .iload 3, 0, 0, 0),
  (8, [], .aload 0, 0, 0, 0),
  (9, [], .getfield 625, 0, 91, 1027),
  (12, [], .iload 1, 0, 0, 0),
  (13, [], .iaload, 0, 0, 0),
  (14, [], .if_icmp .ge 73, 0, 0, 0),
  (17, [], .aload 0, 0, 0, 0),
  (18, [], .iload 2, 0, 0, 0),
  (19, [], .iconst 0, 0, 0, 0),
  (20, [], .invokeinterface 177 653, 0, 238, 1300),
  (23, [], .ifCond .eq 30, 0, 0, 0),
  (26, [], .iconst 1, 0, 0, 0),
  (27, [], .goto 31, 0, 0, 0),
  (30, [], .iconst 0, 0, 0, 0),
  (31, [], .istore 4, 1, 0, 0),
  (33, [], .aload 0, 0, 0, 0),
  (34, [], .iload 1, 0, 0, 0),
  (35, [], .iload 3, 0, 0, 0),
  (36, [], .invokeinterface 182 654, 0, 241, 1278),
  (39, [], .lstore 5, 1, 0, 0),
  (41, [], .lload 5, 1, 0, 0),
  (43, [], .jsr 0, 0, 0, 0),
  (44, [], .jsr 1, 0, 0, 0),
  (45, [], .invokeinterface 143 13, 1, 114, 1152),
  (48, [], .ifCond .eq 62, 0, 0, 0),
  (51, [], .lload 5, 1, 0, 0),
  (53, [], .iload 4, 1, 0, 0),
  (55, [], .i2l, 0, 0, 0),
  (56, [], .lcmp, 0, 0, 0),
  (57, [], .ifCond .eq 62, 0, 0, 0),
  (60, [], .iconst 0, 0, 0, 0),
  (61, [], .areturn, 0, 0, 0),
  (62, [], .aload 0, 0, 0, 0),
  (63, [], .iload 2, 0, 0, 0),
  (64, [], .invokeinterface 178 648, 0, 235, 1296),
  (67, [], .iinc 3 1, 0, 0, 0),
  (70, [], .goto 7, 0, 0, 0),
  (73, [], .iconst 1, 0, 0, 0),
  (74, [], .areturn, 0, 0, 0)]
theorem tk_Mo_mayBe : pm_okT M_Mo_mayBe T_Mo_mayBe = true := by decide +kernel
theorem ok_Mo_mayBe : pm_okm M_Mo_mayBe := pm_okm_of _ 1417 85 1416 62 (by decide +kernel)
set_option maxRecDepth 100000 in
set_option maxHeartbeats 4000000 in
theorem m_Mo_mayBe {d : Nat} {H : pmT} {Q : pmQ} (a1 : Int32) (a2 : Int32)
    (h : vp_in a2 41 ∧ (vp_in a2 12 ∧ (vp_in ((12 : Int32) + a2) 41 ∧ (pm_RW none (d + 1) M_Mo_mayBe Q 7 [(0, .ref 55), (1, .int a1), (2, .int a2), (3, .int (0 : Int32))] [] ((pm_up (pm_up (pm_up (pm_up H.1 65 a2.toNatClampNeg (H.1 56 a2.toNatClampNeg)) 66 a2.toNatClampNeg (H.1 56 (((12 : Int32) + a2).toNatClampNeg))) 67 a2.toNatClampNeg (H.1 60 a2.toNatClampNeg)) 68 a2.toNatClampNeg (H.1 61 a2.toNatClampNeg)), H.2))))) : pm_R (d + 1) M_Mo_mayBe [.ref 55, .int a1, .int a2] H Q :=
  pm_walk (n := 6) ok_Mo_mayBe tk_Mo_mayBe rfl (Nat.le_of_ble_eq_true rfl) (show pm_R d M_Mo_beginsBar [.ref 55, .int a2] H (pm_v (fun H1 => pm_RW none (d + 1) M_Mo_mayBe Q 7 [(0, .ref 55), (1, .int a1), (2, .int a2), (3, .int (0 : Int32))] [] H1)) from u_Mo_beginsBar a2 (⟨h.1, ⟨h.2.1, ⟨h.2.2.1, ⟨h.2.1, ⟨h.2.1, ⟨h.2.1, ⟨h.2.1, ⟨h.2.1, h.2.2.2⟩⟩⟩⟩⟩⟩⟩⟩))
set_option maxRecDepth 100000 in
set_option maxHeartbeats 4000000 in
theorem b_Mo_mayBe_7 {d : Nat} {H : pmT} {Q : pmQ} (v1 : Int32) (v2 : Int32) (v3 : Int32)
    (h : vp_in v1 6 ∧ (((H.1 82 v1.toNatClampNeg) ≤ v3 → Q (some (.int (1 : Int32))) H) ∧ (¬ (H.1 82 v1.toNatClampNeg) ≤ v3 → pm_R d M_Mo_plays [.ref 55, .int v2, .int (0 : Int32)] H (pm_i (fun x2 H1 => (x2 = 0 → vp_in (((60 : Int32) * v1) + v3) 360 ∧ (((lg_cmp (H1.2.1 83 ((((60 : Int32) * v1) + v3).toNatClampNeg)) (0 : Int64)) < 0 → pm_R d M_Mo_nightOf [.ref 55, .int v2] H1 (pm_v (fun H3 => pm_RW none (d + 1) M_Mo_mayBe Q 7 [(0, .ref 55), (1, .int v1), (2, .int v2), (3, .int (v3 + (1 : Int32)))] [] H3))) ∧ (¬ (lg_cmp (H1.2.1 83 ((((60 : Int32) * v1) + v3).toNatClampNeg)) (0 : Int64)) < 0 → (0 < (lg_cmp (H1.2.1 83 ((((60 : Int32) * v1) + v3).toNatClampNeg)) (1 : Int64)) → pm_R d M_Mo_nightOf [.ref 55, .int v2] H1 (pm_v (fun H5 => pm_RW none (d + 1) M_Mo_mayBe Q 7 [(0, .ref 55), (1, .int v1), (2, .int v2), (3, .int (v3 + (1 : Int32)))] [] H5))) ∧ (¬ 0 < (lg_cmp (H1.2.1 83 ((((60 : Int32) * v1) + v3).toNatClampNeg)) (1 : Int64)) → ((lg_cmp (H1.2.1 83 ((((60 : Int32) * v1) + v3).toNatClampNeg)) ((0 : Int32).toInt64)) = 0 → pm_R d M_Mo_nightOf [.ref 55, .int v2] H1 (pm_v (fun H8 => pm_RW none (d + 1) M_Mo_mayBe Q 7 [(0, .ref 55), (1, .int v1), (2, .int v2), (3, .int (v3 + (1 : Int32)))] [] H8))) ∧ (¬ (lg_cmp (H1.2.1 83 ((((60 : Int32) * v1) + v3).toNatClampNeg)) ((0 : Int32).toInt64)) = 0 → Q (some (.int (0 : Int32))) H1))))) ∧ (¬ x2 = 0 → vp_in (((60 : Int32) * v1) + v3) 360 ∧ (((lg_cmp (H1.2.1 83 ((((60 : Int32) * v1) + v3).toNatClampNeg)) (0 : Int64)) < 0 → pm_R d M_Mo_nightOf [.ref 55, .int v2] H1 (pm_v (fun H9 => pm_RW none (d + 1) M_Mo_mayBe Q 7 [(0, .ref 55), (1, .int v1), (2, .int v2), (3, .int (v3 + (1 : Int32)))] [] H9))) ∧ (¬ (lg_cmp (H1.2.1 83 ((((60 : Int32) * v1) + v3).toNatClampNeg)) (0 : Int64)) < 0 → (0 < (lg_cmp (H1.2.1 83 ((((60 : Int32) * v1) + v3).toNatClampNeg)) (1 : Int64)) → pm_R d M_Mo_nightOf [.ref 55, .int v2] H1 (pm_v (fun H11 => pm_RW none (d + 1) M_Mo_mayBe Q 7 [(0, .ref 55), (1, .int v1), (2, .int v2), (3, .int (v3 + (1 : Int32)))] [] H11))) ∧ (¬ 0 < (lg_cmp (H1.2.1 83 ((((60 : Int32) * v1) + v3).toNatClampNeg)) (1 : Int64)) → ((lg_cmp (H1.2.1 83 ((((60 : Int32) * v1) + v3).toNatClampNeg)) ((1 : Int32).toInt64)) = 0 → pm_R d M_Mo_nightOf [.ref 55, .int v2] H1 (pm_v (fun H14 => pm_RW none (d + 1) M_Mo_mayBe Q 7 [(0, .ref 55), (1, .int v1), (2, .int v2), (3, .int (v3 + (1 : Int32)))] [] H14))) ∧ (¬ (lg_cmp (H1.2.1 83 ((((60 : Int32) * v1) + v3).toNatClampNeg)) ((1 : Int32).toInt64)) = 0 → Q (some (.int (0 : Int32))) H1)))))))))) : pm_RW none (d + 1) M_Mo_mayBe Q 7 [(0, .ref 55), (1, .int v1), (2, .int v2), (3, .int v3)] [] H :=
  pm_body tk_Mo_mayBe 34 7 (show vp_in v1 6 ∧ (((H.1 82 v1.toNatClampNeg) ≤ v3 → ((1 : Int32) = 0 ∨ (1 : Int32) = 1) ∧ (Q (some (.int (1 : Int32))) H)) ∧ (¬ (H.1 82 v1.toNatClampNeg) ≤ v3 → pm_R d M_Mo_plays [.ref 55, .int v2, .int (0 : Int32)] H (pm_i (fun x2 H1 => (x2 = 0 → pm_R d M_Mo_itemAt [.ref 55, .int v1, .int v3] H1 (pm_l (fun x4 H3 => pm_R d M_Mo_within [.long x4, .long (0 : Int64), .long (1 : Int64)] H3 (pm_i (fun x6 H5 => (x6 = 0 → pm_R d M_Mo_nightOf [.ref 55, .int v2] H5 (pm_v (fun H7 => pm_RW none (d + 1) M_Mo_mayBe Q 7 [(0, .ref 55), (1, .int v1), (2, .int v2), (3, .int (v3 + (1 : Int32)))] [] H7))) ∧ (¬ x6 = 0 → ((lg_cmp x4 ((0 : Int32).toInt64)) = 0 → pm_R d M_Mo_nightOf [.ref 55, .int v2] H5 (pm_v (fun H8 => pm_RW none (d + 1) M_Mo_mayBe Q 7 [(0, .ref 55), (1, .int v1), (2, .int v2), (3, .int (v3 + (1 : Int32)))] [] H8))) ∧ (¬ (lg_cmp x4 ((0 : Int32).toInt64)) = 0 → ((0 : Int32) = 0 ∨ (0 : Int32) = 1) ∧ (Q (some (.int (0 : Int32))) H5)))))))) ∧ (¬ x2 = 0 → pm_R d M_Mo_itemAt [.ref 55, .int v1, .int v3] H1 (pm_l (fun x10 H9 => pm_R d M_Mo_within [.long x10, .long (0 : Int64), .long (1 : Int64)] H9 (pm_i (fun x12 H11 => (x12 = 0 → pm_R d M_Mo_nightOf [.ref 55, .int v2] H11 (pm_v (fun H13 => pm_RW none (d + 1) M_Mo_mayBe Q 7 [(0, .ref 55), (1, .int v1), (2, .int v2), (3, .int (v3 + (1 : Int32)))] [] H13))) ∧ (¬ x12 = 0 → ((lg_cmp x10 ((1 : Int32).toInt64)) = 0 → pm_R d M_Mo_nightOf [.ref 55, .int v2] H11 (pm_v (fun H14 => pm_RW none (d + 1) M_Mo_mayBe Q 7 [(0, .ref 55), (1, .int v1), (2, .int v2), (3, .int (v3 + (1 : Int32)))] [] H14))) ∧ (¬ (lg_cmp x10 ((1 : Int32).toInt64)) = 0 → ((0 : Int32) = 0 ∨ (0 : Int32) = 1) ∧ (Q (some (.int (0 : Int32))) H11)))))))))))) from ⟨h.1, ⟨fun q1 => ⟨Or.inr rfl, (h.2.1 q1)⟩, fun q1 => pm_mi (h.2.2 q1) (fun x2 H1 z2 => ⟨fun q3 => u_Mo_itemAt v1 v3 (⟨(z2.1 q3).1, u_Mo_within (H1.2.1 83 ((((60 : Int32) * v1) + v3).toNatClampNeg)) (0 : Int64) (1 : Int64) (⟨fun q4 => ⟨Or.inl rfl, ⟨fun _ => ((z2.1 q3).2.1 q4), fun z => absurd (by decide) z⟩⟩, fun q4 => ⟨fun q6 => ⟨Or.inl rfl, ⟨fun _ => (((z2.1 q3).2.2 q4).1 q6), fun z => absurd (by decide) z⟩⟩, fun q6 => ⟨Or.inr rfl, ⟨fun z => absurd z (by decide), fun _ => ⟨fun q8 => ((((z2.1 q3).2.2 q4).2 q6).1 q8), fun q8 => ⟨Or.inl rfl, ((((z2.1 q3).2.2 q4).2 q6).2 q8)⟩⟩⟩⟩⟩⟩)⟩), fun q3 => u_Mo_itemAt v1 v3 (⟨(z2.2 q3).1, u_Mo_within (H1.2.1 83 ((((60 : Int32) * v1) + v3).toNatClampNeg)) (0 : Int64) (1 : Int64) (⟨fun q10 => ⟨Or.inl rfl, ⟨fun _ => ((z2.2 q3).2.1 q10), fun z => absurd (by decide) z⟩⟩, fun q10 => ⟨fun q12 => ⟨Or.inl rfl, ⟨fun _ => (((z2.2 q3).2.2 q10).1 q12), fun z => absurd (by decide) z⟩⟩, fun q12 => ⟨Or.inr rfl, ⟨fun z => absurd z (by decide), fun _ => ⟨fun q14 => ((((z2.2 q3).2.2 q10).2 q12).1 q14), fun q14 => ⟨Or.inl rfl, ((((z2.2 q3).2.2 q10).2 q12).2 q14)⟩⟩⟩⟩⟩⟩)⟩)⟩)⟩⟩)
def T_Mo_which : List pmE := [
  (0, [], .aload 0, 0, 0, 0),
  (1, [], .iload 1, 0, 0, 0),
  (2, [], .invokeinterface 181 649, 0, 251, 1270),
  (5, [], .ifCond .ge 14, 0, 0, 0),
  (8, [], .aload 0, 0, 0, 0),
  (9, [], .iload 1, 0, 0, 0),
  (10, [], .invokeinterface 181 649, 0, 251, 1270),
  (13, [], .ireturn, 0, 0, 0),
  (14, [], .aload 0, 0, 0, 0),
  (15, [], .invokeinterface 172 644, 0, 228, 1250),
  (18, [], .iconst 0, 0, 0, 0),
  (19, [], .istore 2, 0, 0, 0),
  (20, [], .iconst 0, 0, 0, 0),
  (21, [], .istore 3, 0, 0, 0),
  (22, [0, 1, 2, 3], .iload 3, 0, 0, 0),
  (23, [], .aload 0, 0, 0, 0),
  (24, [], .getfield 582, 0, 111, 984),
  (27, [], .if_icmp .ge 55, 0, 0, 0),
  (30, [], .iload 2, 0, 0, 0),
  (31, [], .aload 0, 0, 0, 0),
  (32, [], .iload 1, 0, 0, 0),
  (33, [], .iload 3, 0, 0, 0),
  (34, [], .invokeinterface 210 653, 0, 309, 1414),
  (37, [], .ifCond .eq 46, 0, 0, 0),
  (40, [], .iconst 1, 0, 0, 0),
  (41, [], .iload 3, 0, 0, 0),
  (42, [], .ishl, 0, 0, 0),
  (43, [], .goto 47, 0, 0, 0),
  (46, [], .iconst 0, 0, 0, 0),
  (47, [], .ior, 0, 0, 0),
  (48, [], .istore 2, 0, 0, 0),
  (49, [], .iinc 3 1, 0, 0, 0),
  (52, [], .goto 22, 0, 0, 0),
  (55, [], .iload 2, 0, 0, 0),
  (56, [], .ireturn, 0, 0, 0)]
theorem tk_Mo_which : pm_okT M_Mo_which T_Mo_which = true := by decide +kernel
theorem ok_Mo_which : pm_okm M_Mo_which := pm_okm_of _ 1413 85 1411 1412 (by decide +kernel)
set_option maxRecDepth 100000 in
set_option maxHeartbeats 4000000 in
theorem m_Mo_which {d : Nat} {H : pmT} {Q : pmQ} (a1 : Int32)
    (h : ((lg_cmp a1.toInt64 (0 : Int64)) < 0 → Q (some (.int (-1 : Int32))) H) ∧ (¬ (lg_cmp a1.toInt64 (0 : Int64)) < 0 → (0 < (lg_cmp a1.toInt64 (5 : Int64)) → Q (some (.int (-1 : Int32))) H) ∧ (¬ 0 < (lg_cmp a1.toInt64 (5 : Int64)) → vp_in a1 6 ∧ ((0 ≤ (H.1 81 a1.toNatClampNeg) → (¬ (H.1 81 a1.toNatClampNeg) = (50 : Int32) → Q (some (.int (-12 : Int32))) H) ∧ ((H.1 81 a1.toNatClampNeg) = (50 : Int32) → pm_R (d + 2) M_Mo_begins1 [.ref 55] H (pm_v (fun H10 => pm_RW none (d + 3) M_Mo_which Q 22 [(0, .ref 55), (1, .int a1), (2, .int (0 : Int32)), (3, .int (0 : Int32))] [] H10)))) ∧ (¬ 0 ≤ (H.1 81 a1.toNatClampNeg) → Q (some (.int (-11 : Int32))) H))))) : pm_R (d + 3) M_Mo_which [.ref 55, .int a1] H Q :=
  pm_walk (n := 11) ok_Mo_which tk_Mo_which rfl (Nat.le_of_ble_eq_true rfl) (show pm_R (d + 2) M_Mo_bytesIs [.ref 55, .int a1] H (pm_i (fun x2 H1 => (0 ≤ x2 → pm_R (d + 2) M_Mo_begins1 [.ref 55] H1 (pm_v (fun H3 => pm_RW none (d + 3) M_Mo_which Q 22 [(0, .ref 55), (1, .int a1), (2, .int (0 : Int32)), (3, .int (0 : Int32))] [] H3))) ∧ (¬ 0 ≤ x2 → pm_R (d + 2) M_Mo_bytesIs [.ref 55, .int a1] H1 (pm_i (fun x5 H4 => Q (some (.int x5)) H4))))) from u_Mo_bytesIs a1 (u_Mo_isShelf a1 (u_Mo_within a1.toInt64 (0 : Int64) (5 : Int64) (⟨fun q1 => ⟨Or.inl rfl, ⟨Or.inl rfl, ⟨fun z => absurd (by decide) z, fun _ => ⟨fun z => absurd z (by decide), fun _ => u_Mo_bytesIs a1 (u_Mo_isShelf a1 (u_Mo_within a1.toInt64 (0 : Int64) (5 : Int64) (⟨fun _ => ⟨Or.inl rfl, ⟨Or.inl rfl, ⟨fun z => absurd (by decide) z, fun _ => (h.1 q1)⟩⟩⟩, fun z => absurd q1 z⟩)))⟩⟩⟩⟩, fun q1 => ⟨fun q2 => ⟨Or.inl rfl, ⟨Or.inl rfl, ⟨fun z => absurd (by decide) z, fun _ => ⟨fun z => absurd z (by decide), fun _ => u_Mo_bytesIs a1 (u_Mo_isShelf a1 (u_Mo_within a1.toInt64 (0 : Int64) (5 : Int64) (⟨fun z => absurd z q1, fun _ => ⟨fun _ => ⟨Or.inl rfl, ⟨Or.inl rfl, ⟨fun z => absurd (by decide) z, fun _ => ((h.2 q1).1 q2)⟩⟩⟩, fun z => absurd q2 z⟩⟩)))⟩⟩⟩⟩, fun q2 => ⟨Or.inr rfl, ⟨Or.inr rfl, ⟨fun _ => ⟨((h.2 q1).2 q2).1, ⟨fun q3 => ⟨((h.2 q1).2 q2).1, ⟨fun q4 => ⟨fun z => absurd z (by decide), fun _ => u_Mo_bytesIs a1 (u_Mo_isShelf a1 (u_Mo_within a1.toInt64 (0 : Int64) (5 : Int64) (⟨fun z => absurd z q1, fun _ => ⟨fun z => absurd z q2, fun _ => ⟨Or.inr rfl, ⟨Or.inr rfl, ⟨fun _ => ⟨((h.2 q1).2 q2).1, ⟨fun _ => ⟨((h.2 q1).2 q2).1, ⟨fun _ => ((((h.2 q1).2 q2).2.1 q3).1 q4), fun z => absurd z q4⟩⟩, fun z => absurd q3 z⟩⟩, fun z => absurd z (by decide)⟩⟩⟩⟩⟩)))⟩, fun q4 => ⟨fun _ => ((((h.2 q1).2 q2).2.1 q3).2 q4), fun z => absurd (by decide) z⟩⟩⟩, fun q3 => ⟨fun z => absurd z (by decide), fun _ => u_Mo_bytesIs a1 (u_Mo_isShelf a1 (u_Mo_within a1.toInt64 (0 : Int64) (5 : Int64) (⟨fun z => absurd z q1, fun _ => ⟨fun z => absurd z q2, fun _ => ⟨Or.inr rfl, ⟨Or.inr rfl, ⟨fun _ => ⟨((h.2 q1).2 q2).1, ⟨fun z => absurd z q3, fun _ => (((h.2 q1).2 q2).2.2 q3)⟩⟩, fun z => absurd z (by decide)⟩⟩⟩⟩⟩)))⟩⟩⟩, fun z => absurd z (by decide)⟩⟩⟩⟩⟩))))
set_option maxRecDepth 100000 in
set_option maxHeartbeats 4000000 in
theorem b_Mo_which_22 {d : Nat} {H : pmT} {Q : pmQ} (v1 : Int32) (v2 : Int32) (v3 : Int32)
    (h : ((H.1 55 6) ≤ v3 → Q (some (.int v2)) H) ∧ (¬ (H.1 55 6) ≤ v3 → pm_R (d + 2) M_Mo_mayBe [.ref 55, .int v1, .int v3] H (pm_i (fun x2 H1 => (x2 = 0 → pm_RW none (d + 3) M_Mo_which Q 22 [(0, .ref 55), (1, .int v1), (2, .int (v2 ||| (0 : Int32))), (3, .int (v3 + (1 : Int32)))] [] H1) ∧ (¬ x2 = 0 → pm_RW none (d + 3) M_Mo_which Q 22 [(0, .ref 55), (1, .int v1), (2, .int (v2 ||| ((1 : Int32) <<< (v3 &&& 31)))), (3, .int (v3 + (1 : Int32)))] [] H1))))) : pm_RW none (d + 3) M_Mo_which Q 22 [(0, .ref 55), (1, .int v1), (2, .int v2), (3, .int v3)] [] H :=
  pm_body tk_Mo_which 18 22 (show ((H.1 55 6) ≤ v3 → Q (some (.int v2)) H) ∧ (¬ (H.1 55 6) ≤ v3 → pm_R (d + 2) M_Mo_mayBe [.ref 55, .int v1, .int v3] H (pm_i (fun x2 H1 => (x2 = 0 → pm_RW none (d + 3) M_Mo_which Q 22 [(0, .ref 55), (1, .int v1), (2, .int (v2 ||| (0 : Int32))), (3, .int (v3 + (1 : Int32)))] [] H1) ∧ (¬ x2 = 0 → pm_RW none (d + 3) M_Mo_which Q 22 [(0, .ref 55), (1, .int v1), (2, .int (v2 ||| ((1 : Int32) <<< (v3 &&& 31)))), (3, .int (v3 + (1 : Int32)))] [] H1)))) from ⟨fun q1 => (h.1 q1), fun q1 => pm_mi (h.2 q1) (fun x2 H1 z2 => ⟨fun q3 => (z2.1 q3), fun q3 => (z2.2 q3)⟩)⟩)
def T_Mo_hearsDay : List pmE := [
  (0, [], .iconst 0, 0, 0, 0),
  (1, [], .istore 3, 0, 0, 0),
  (2, [0, 1, 2, 3], .iload 3, 0, 0, 0),
  (3, [], .iconst 2, 0, 0, 0),
  (4, [], .if_icmp .ge 63, 0, 0, 0),
  (7, [], .iload 3, 0, 0, 0),
  (8, [], .ifCond .ne 15, 0, 0, 0),
  (11, [], .iload 1, 0, 0, 0),
  (12, [], .goto 16, 0, 0, 0),
  (15, [], .iload 2, 0, 0, 0),
  (16, [], .istore 4, 1, 0, 0),
  (18, [], .aload 0, 0, 0, 0),
  (19, [], .iload 3, 0, 0, 0),
  (20, [], .iload 4, 1, 0, 0),
  (22, [], .invokeinterface 212 652, 0, 312, 1431),
  (25, [], .aload 0, 0, 0, 0),
  (26, [], .getfield 608, 0, 72, 1010),
  (29, [], .iload 3, 0, 0, 0),
  (30, [], .aload 0, 0, 0, 0),
  (31, [], .iload 4, 1, 0, 0),
  (33, [], .iconst 0, 0, 0, 0),
  (34, [], .invokeinterface 174 653, 0, 216, 1258),
  (37, [], .bastore, 0, 0, 0),
  (38, [], .aload 0, 0, 0, 0),
  (39, [], .getfield 609, 0, 76, 1011),
  (42, [], .iload 3, 0, 0, 0),
  (43, [], .aload 0, 0, 0, 0),
  (44, [], .iload 4, 1, 0, 0),
  (46, [], .iconst 0, 0, 0, 0),
  (47, [], .aload 0, 0, 0, 0),
  (48, [], .getfield 608, 0, 72, 1010),
  (51, [], .iload 3, 0, 0, 0),
  (52, [], .baload, 0, 0, 0),
  (53, [], .invokeinterface 175 657, 0, 220, 1262),
  (56, [], .iastore, 0, 0, 0),
  (57, [], .iinc 3 1, 0, 0, 0),
  (60, [], .goto 2, 0, 0, 0),
  (63, [], .iconst 0, 0, 0, 0),
  (64, [], .istore 3, 0, 0, 0),
  (65, [0, 1, 2, 3], .iload 3, 0, 0, 0),
  (66, [], .iconst 2, 0, 0, 0),
  (67, [], .if_icmp .ge 184, 0, 0, 0),
  (70, [], .iload 3, 0, 0, 0),
  (71, [], .ifCond .ne 78, 0, 0, 0),
  (74, [], .iload 1, 0, 0, 0),
  (75, [], .goto 79, 0, 0, 0),
  (78, [], .iload 2, 0, 0, 0),
  (79, [], .istore 4, 1, 0, 0),
  (81, [], .aload 0, 0, 0, 0),
  (82, [], .iload 3, 0, 0, 0),
  (83, [], .iload 4, 1, 0, 0),
  (85, [], .invokeinterface 212 652, 0, 312, 1431),
  (88, [], .aload 0, 0, 0, 0),
  (89, [], .iload 4, 1, 0, 0),
  (91, [], .aload 0, 0, 0, 0),
  (92, [], .getfield 608, 0, 72, 1010),
  (95, [], .iload 3, 0, 0, 0),
  (96, [], .baload, 0, 0, 0),
  (97, [], .aload 0, 0, 0, 0),
  (98, [], .getfield 609, 0, 76, 1011),
  (101, [], .iload 3, 0, 0, 0),
  (102, [], .iaload, 0, 0, 0),
  (103, [], .invokeinterface 176 656, 0, 224, 1304),
  (106, [], .aload 0, 0, 0, 0),
  (107, [], .getfield 597, 0, 45, 999),
  (110, [], .iload 4, 1, 0, 0),
  (112, [], .dup2, 0, 0, 0),
  (113, [], .iaload, 0, 0, 0),
  (114, [], .iconst 1, 0, 0, 0),
  (115, [], .iadd, 0, 0, 0),
  (116, [], .iastore, 0, 0, 0),
  (117, [], .aload 0, 0, 0, 0),
  (118, [], .getfield 598, 0, 48, 1000),
  (121, [], .iload 4, 1, 0, 0),
  (123, [], .dup2, 0, 0, 0),
  (124, [], .iaload, 0, 0, 0),
  (125, [], .aload 0, 0, 0, 0),
  (126, [], .getfield 608, 0, 72, 1010),
  (129, [], .iload 3, 0, 0, 0),
  (130, [], .baload, 0, 0, 0),
  (131, [], .ifCond .eq 138, 0, 0, 0),
  (134, [], .iconst 1, 0, 0, 0),
  (135, [], .goto 139, 0, 0, 0),
  (138, [], .iconst 0, 0, 0, 0),
  (139, [], .iadd, 0, 0, 0),
  (140, [], .iastore, 0, 0, 0),
  (141, [], .aload 0, 0, 0, 0),
  (142, [], .iload 4, 1, 0, 0),
  (144, [], .aload 0, 0, 0, 0),
  (145, [], .getfield 608, 0, 72, 1010),
  (148, [], .iconst 1, 0, 0, 0),
  (149, [], .iload 3, 0, 0, 0),
  (150, [], .isub, 0, 0, 0),
  (151, [], .baload, 0, 0, 0),
  (152, [], .aload 0, 0, 0, 0),
  (153, [], .getfield 609, 0, 76, 1011),
  (156, [], .iconst 1, 0, 0, 0),
  (157, [], .iload 3, 0, 0, 0),
  (158, [], .isub, 0, 0, 0),
  (159, [], .iaload, 0, 0, 0),
  (160, [], .iconst 2, 0, 0, 0),
  (161, [], .idiv, 0, 0, 0),
  (162, [], .invokeinterface 176 656, 0, 224, 1304),
  (165, [], .aload 0, 0, 0, 0),
  (166, [], .iload 4, 1, 0, 0),
  (168, [], .invokeinterface 178 648, 0, 235, 1296),
  (171, [], .aload 0, 0, 0, 0),
  (172, [], .iload 3, 0, 0, 0),
  (173, [], .iload 4, 1, 0, 0),
  (175, [], .invokeinterface 213 652, 0, 315, 1423),
  (178, [], .iinc 3 1, 0, 0, 0),
  (181, [], .goto 65, 0, 0, 0),
  (184, [], .return_, 0, 0, 0)]
theorem tk_Mo_hearsDay : pm_okT M_Mo_hearsDay T_Mo_hearsDay = true := by decide +kernel
theorem ok_Mo_hearsDay : pm_okm M_Mo_hearsDay := pm_okm_of _ 1430 85 1429 64 (by decide +kernel)
set_option maxRecDepth 100000 in
set_option maxHeartbeats 4000000 in
theorem m_Mo_hearsDay {d : Nat} {H : pmT} {Q : pmQ} (a1 : Int32) (a2 : Int32)
    (h : pm_RW none (d + 1) M_Mo_hearsDay Q 2 [(0, .ref 55), (1, .int a1), (2, .int a2), (3, .int (0 : Int32))] [] H) : pm_R (d + 1) M_Mo_hearsDay [.ref 55, .int a1, .int a2] H Q :=
  pm_walk (n := 3) ok_Mo_hearsDay tk_Mo_hearsDay rfl (Nat.le_of_ble_eq_true rfl) (show pm_RW none (d + 1) M_Mo_hearsDay Q 2 [(0, .ref 55), (1, .int a1), (2, .int a2), (3, .int (0 : Int32))] [] H from h)
set_option maxRecDepth 100000 in
set_option maxHeartbeats 4000000 in
theorem b_Mo_hearsDay_2 {d : Nat} {H : pmT} {Q : pmQ} (v1 : Int32) (v2 : Int32) (v3 : Int32)
    (h : ((2 : Int32) ≤ v3 → pm_RW none (d + 1) M_Mo_hearsDay Q 65 [(0, .ref 55), (1, .int v1), (2, .int v2), (3, .int (0 : Int32))] [] H) ∧ (¬ (2 : Int32) ≤ v3 → (¬ v3 = 0 → vp_in v3 2 ∧ (vp_in v2 12 ∧ (pm_R d M_Mo_comesRight [.ref 55, .int v2, .int (0 : Int32)] ((pm_up (pm_up (pm_up (pm_up H.1 65 v2.toNatClampNeg (H.1 72 v3.toNatClampNeg)) 66 v2.toNatClampNeg (H.1 73 v3.toNatClampNeg)) 67 v2.toNatClampNeg (H.1 74 v3.toNatClampNeg)) 68 v2.toNatClampNeg (H.1 75 v3.toNatClampNeg)), H.2) (pm_i (fun x2 H1 => (x2 = 0 ∨ x2 = 1) ∧ (pm_R d M_Mo_addsFor [.ref 55, .int v2, .int (0 : Int32), .int ((upd (H1.1 76) v3.toNatClampNeg x2) v3.toNatClampNeg)] ((pm_up H1.1 76 v3.toNatClampNeg x2), H1.2) (pm_i (fun x4 H3 => pm_RW none (d + 1) M_Mo_hearsDay Q 2 [(0, .ref 55), (1, .int v1), (2, .int v2), (3, .int (v3 + (1 : Int32)))] [] ((pm_up H3.1 77 v3.toNatClampNeg x4), H3.2))))))))) ∧ (v3 = 0 → vp_in v3 2 ∧ (vp_in v1 12 ∧ (pm_R d M_Mo_comesRight [.ref 55, .int v1, .int (0 : Int32)] ((pm_up (pm_up (pm_up (pm_up H.1 65 v1.toNatClampNeg (H.1 72 v3.toNatClampNeg)) 66 v1.toNatClampNeg (H.1 73 v3.toNatClampNeg)) 67 v1.toNatClampNeg (H.1 74 v3.toNatClampNeg)) 68 v1.toNatClampNeg (H.1 75 v3.toNatClampNeg)), H.2) (pm_i (fun x6 H5 => (x6 = 0 ∨ x6 = 1) ∧ (pm_R d M_Mo_addsFor [.ref 55, .int v1, .int (0 : Int32), .int ((upd (H5.1 76) v3.toNatClampNeg x6) v3.toNatClampNeg)] ((pm_up H5.1 76 v3.toNatClampNeg x6), H5.2) (pm_i (fun x8 H7 => pm_RW none (d + 1) M_Mo_hearsDay Q 2 [(0, .ref 55), (1, .int v1), (2, .int v2), (3, .int (v3 + (1 : Int32)))] [] ((pm_up H7.1 77 v3.toNatClampNeg x8), H7.2))))))))))) : pm_RW none (d + 1) M_Mo_hearsDay Q 2 [(0, .ref 55), (1, .int v1), (2, .int v2), (3, .int v3)] [] H :=
  pm_body tk_Mo_hearsDay 34 2 (show ((2 : Int32) ≤ v3 → pm_RW none (d + 1) M_Mo_hearsDay Q 65 [(0, .ref 55), (1, .int v1), (2, .int v2), (3, .int (0 : Int32))] [] H) ∧ (¬ (2 : Int32) ≤ v3 → (¬ v3 = 0 → pm_R d M_Mo_loads [.ref 55, .int v3, .int v2] H (pm_v (fun H1 => pm_R d M_Mo_comesRight [.ref 55, .int v2, .int (0 : Int32)] H1 (pm_i (fun x3 H2 => vp_in v3 2 ∧ ((x3 = 0 ∨ x3 = 1) ∧ (vp_in v3 2 ∧ (pm_R d M_Mo_addsFor [.ref 55, .int v2, .int (0 : Int32), .int ((upd (H2.1 76) v3.toNatClampNeg x3) v3.toNatClampNeg)] ((pm_up H2.1 76 v3.toNatClampNeg x3), H2.2) (pm_i (fun x5 H4 => vp_in v3 2 ∧ (pm_RW none (d + 1) M_Mo_hearsDay Q 2 [(0, .ref 55), (1, .int v1), (2, .int v2), (3, .int (v3 + (1 : Int32)))] [] ((pm_up H4.1 77 v3.toNatClampNeg x5), H4.2)))))))))))) ∧ (v3 = 0 → pm_R d M_Mo_loads [.ref 55, .int v3, .int v1] H (pm_v (fun H6 => pm_R d M_Mo_comesRight [.ref 55, .int v1, .int (0 : Int32)] H6 (pm_i (fun x8 H7 => vp_in v3 2 ∧ ((x8 = 0 ∨ x8 = 1) ∧ (vp_in v3 2 ∧ (pm_R d M_Mo_addsFor [.ref 55, .int v1, .int (0 : Int32), .int ((upd (H7.1 76) v3.toNatClampNeg x8) v3.toNatClampNeg)] ((pm_up H7.1 76 v3.toNatClampNeg x8), H7.2) (pm_i (fun x10 H9 => vp_in v3 2 ∧ (pm_RW none (d + 1) M_Mo_hearsDay Q 2 [(0, .ref 55), (1, .int v1), (2, .int v2), (3, .int (v3 + (1 : Int32)))] [] ((pm_up H9.1 77 v3.toNatClampNeg x10), H9.2))))))))))))) from ⟨fun q1 => (h.1 q1), fun q1 => ⟨fun q2 => u_Mo_loads v3 v2 (⟨((h.2 q1).1 q2).1, ⟨((h.2 q1).1 q2).2.1, ⟨((h.2 q1).1 q2).1, ⟨((h.2 q1).1 q2).2.1, ⟨((h.2 q1).1 q2).1, ⟨((h.2 q1).1 q2).2.1, ⟨((h.2 q1).1 q2).1, ⟨((h.2 q1).1 q2).2.1, pm_mi ((h.2 q1).1 q2).2.2 (fun x2 H1 z3 => ⟨((h.2 q1).1 q2).1, ⟨z3.1, ⟨((h.2 q1).1 q2).1, pm_mi z3.2 (fun x4 H3 z4 => ⟨((h.2 q1).1 q2).1, z4⟩)⟩⟩⟩)⟩⟩⟩⟩⟩⟩⟩⟩), fun q2 => u_Mo_loads v3 v1 (⟨((h.2 q1).2 q2).1, ⟨((h.2 q1).2 q2).2.1, ⟨((h.2 q1).2 q2).1, ⟨((h.2 q1).2 q2).2.1, ⟨((h.2 q1).2 q2).1, ⟨((h.2 q1).2 q2).2.1, ⟨((h.2 q1).2 q2).1, ⟨((h.2 q1).2 q2).2.1, pm_mi ((h.2 q1).2 q2).2.2 (fun x6 H5 z5 => ⟨((h.2 q1).2 q2).1, ⟨z5.1, ⟨((h.2 q1).2 q2).1, pm_mi z5.2 (fun x8 H7 z6 => ⟨((h.2 q1).2 q2).1, z6⟩)⟩⟩⟩)⟩⟩⟩⟩⟩⟩⟩⟩)⟩⟩)
set_option maxRecDepth 100000 in
set_option maxHeartbeats 4000000 in
theorem b_Mo_hearsDay_65 {d : Nat} {H : pmT} {Q : pmQ} (v1 : Int32) (v2 : Int32) (v3 : Int32)
    (h : ((2 : Int32) ≤ v3 → Q none H) ∧ (¬ (2 : Int32) ≤ v3 → (¬ v3 = 0 → vp_in v3 2 ∧ (vp_in v2 12 ∧ (pm_R d M_Mo_gains [.ref 55, .int v2, .int (H.1 76 v3.toNatClampNeg), .int (H.1 77 v3.toNatClampNeg)] ((pm_up (pm_up (pm_up (pm_up H.1 65 v2.toNatClampNeg (H.1 72 v3.toNatClampNeg)) 66 v2.toNatClampNeg (H.1 73 v3.toNatClampNeg)) 67 v2.toNatClampNeg (H.1 74 v3.toNatClampNeg)) 68 v2.toNatClampNeg (H.1 75 v3.toNatClampNeg)), H.2) (pm_v (fun H1 => ((H1.1 76 v3.toNatClampNeg) = 0 → vp_in ((1 : Int32) - v3) 2 ∧ (pm_R d M_Mo_gains [.ref 55, .int v2, .int (H1.1 76 (((1 : Int32) - v3).toNatClampNeg)), .int ((H1.1 77 (((1 : Int32) - v3).toNatClampNeg)) / (2 : Int32))] ((pm_up (pm_up H1.1 67 v2.toNatClampNeg ((H1.1 67 v2.toNatClampNeg) + (1 : Int32))) 68 v2.toNatClampNeg ((H1.1 68 v2.toNatClampNeg) + (0 : Int32))), H1.2) (pm_v (fun H2 => pm_R d M_Mo_nightOf [.ref 55, .int v2] H2 (pm_v (fun H3 => pm_RW none (d + 1) M_Mo_hearsDay Q 65 [(0, .ref 55), (1, .int v1), (2, .int v2), (3, .int (v3 + (1 : Int32)))] [] ((pm_up (pm_up (pm_up (pm_up H3.1 72 v3.toNatClampNeg (H3.1 65 v2.toNatClampNeg)) 73 v3.toNatClampNeg (H3.1 66 v2.toNatClampNeg)) 74 v3.toNatClampNeg (H3.1 67 v2.toNatClampNeg)) 75 v3.toNatClampNeg (H3.1 68 v2.toNatClampNeg)), H3.2))))))) ∧ (¬ (H1.1 76 v3.toNatClampNeg) = 0 → vp_in ((1 : Int32) - v3) 2 ∧ (pm_R d M_Mo_gains [.ref 55, .int v2, .int (H1.1 76 (((1 : Int32) - v3).toNatClampNeg)), .int ((H1.1 77 (((1 : Int32) - v3).toNatClampNeg)) / (2 : Int32))] ((pm_up (pm_up H1.1 67 v2.toNatClampNeg ((H1.1 67 v2.toNatClampNeg) + (1 : Int32))) 68 v2.toNatClampNeg ((H1.1 68 v2.toNatClampNeg) + (1 : Int32))), H1.2) (pm_v (fun H4 => pm_R d M_Mo_nightOf [.ref 55, .int v2] H4 (pm_v (fun H5 => pm_RW none (d + 1) M_Mo_hearsDay Q 65 [(0, .ref 55), (1, .int v1), (2, .int v2), (3, .int (v3 + (1 : Int32)))] [] ((pm_up (pm_up (pm_up (pm_up H5.1 72 v3.toNatClampNeg (H5.1 65 v2.toNatClampNeg)) 73 v3.toNatClampNeg (H5.1 66 v2.toNatClampNeg)) 74 v3.toNatClampNeg (H5.1 67 v2.toNatClampNeg)) 75 v3.toNatClampNeg (H5.1 68 v2.toNatClampNeg)), H5.2)))))))))))) ∧ (v3 = 0 → vp_in v3 2 ∧ (vp_in v1 12 ∧ (pm_R d M_Mo_gains [.ref 55, .int v1, .int (H.1 76 v3.toNatClampNeg), .int (H.1 77 v3.toNatClampNeg)] ((pm_up (pm_up (pm_up (pm_up H.1 65 v1.toNatClampNeg (H.1 72 v3.toNatClampNeg)) 66 v1.toNatClampNeg (H.1 73 v3.toNatClampNeg)) 67 v1.toNatClampNeg (H.1 74 v3.toNatClampNeg)) 68 v1.toNatClampNeg (H.1 75 v3.toNatClampNeg)), H.2) (pm_v (fun H6 => ((H6.1 76 v3.toNatClampNeg) = 0 → vp_in ((1 : Int32) - v3) 2 ∧ (pm_R d M_Mo_gains [.ref 55, .int v1, .int (H6.1 76 (((1 : Int32) - v3).toNatClampNeg)), .int ((H6.1 77 (((1 : Int32) - v3).toNatClampNeg)) / (2 : Int32))] ((pm_up (pm_up H6.1 67 v1.toNatClampNeg ((H6.1 67 v1.toNatClampNeg) + (1 : Int32))) 68 v1.toNatClampNeg ((H6.1 68 v1.toNatClampNeg) + (0 : Int32))), H6.2) (pm_v (fun H7 => pm_R d M_Mo_nightOf [.ref 55, .int v1] H7 (pm_v (fun H8 => pm_RW none (d + 1) M_Mo_hearsDay Q 65 [(0, .ref 55), (1, .int v1), (2, .int v2), (3, .int (v3 + (1 : Int32)))] [] ((pm_up (pm_up (pm_up (pm_up H8.1 72 v3.toNatClampNeg (H8.1 65 v1.toNatClampNeg)) 73 v3.toNatClampNeg (H8.1 66 v1.toNatClampNeg)) 74 v3.toNatClampNeg (H8.1 67 v1.toNatClampNeg)) 75 v3.toNatClampNeg (H8.1 68 v1.toNatClampNeg)), H8.2))))))) ∧ (¬ (H6.1 76 v3.toNatClampNeg) = 0 → vp_in ((1 : Int32) - v3) 2 ∧ (pm_R d M_Mo_gains [.ref 55, .int v1, .int (H6.1 76 (((1 : Int32) - v3).toNatClampNeg)), .int ((H6.1 77 (((1 : Int32) - v3).toNatClampNeg)) / (2 : Int32))] ((pm_up (pm_up H6.1 67 v1.toNatClampNeg ((H6.1 67 v1.toNatClampNeg) + (1 : Int32))) 68 v1.toNatClampNeg ((H6.1 68 v1.toNatClampNeg) + (1 : Int32))), H6.2) (pm_v (fun H9 => pm_R d M_Mo_nightOf [.ref 55, .int v1] H9 (pm_v (fun H10 => pm_RW none (d + 1) M_Mo_hearsDay Q 65 [(0, .ref 55), (1, .int v1), (2, .int v2), (3, .int (v3 + (1 : Int32)))] [] ((pm_up (pm_up (pm_up (pm_up H10.1 72 v3.toNatClampNeg (H10.1 65 v1.toNatClampNeg)) 73 v3.toNatClampNeg (H10.1 66 v1.toNatClampNeg)) 74 v3.toNatClampNeg (H10.1 67 v1.toNatClampNeg)) 75 v3.toNatClampNeg (H10.1 68 v1.toNatClampNeg)), H10.2)))))))))))))) : pm_RW none (d + 1) M_Mo_hearsDay Q 65 [(0, .ref 55), (1, .int v1), (2, .int v2), (3, .int v3)] [] H :=
  pm_body tk_Mo_hearsDay 71 65 (show ((2 : Int32) ≤ v3 → Q none H) ∧ (¬ (2 : Int32) ≤ v3 → (¬ v3 = 0 → pm_R d M_Mo_loads [.ref 55, .int v3, .int v2] H (pm_v (fun H1 => vp_in v3 2 ∧ (vp_in v3 2 ∧ (pm_R d M_Mo_gains [.ref 55, .int v2, .int (H1.1 76 v3.toNatClampNeg), .int (H1.1 77 v3.toNatClampNeg)] H1 (pm_v (fun H2 => vp_in v2 12 ∧ (vp_in v2 12 ∧ (vp_in v2 12 ∧ (vp_in v3 2 ∧ (((H2.1 76 v3.toNatClampNeg) = 0 → vp_in v2 12 ∧ (vp_in ((1 : Int32) - v3) 2 ∧ (vp_in ((1 : Int32) - v3) 2 ∧ (¬ (2 : Int32) = 0 ∧ (pm_R d M_Mo_gains [.ref 55, .int v2, .int (H2.1 76 (((1 : Int32) - v3).toNatClampNeg)), .int ((H2.1 77 (((1 : Int32) - v3).toNatClampNeg)) / (2 : Int32))] ((pm_up (pm_up H2.1 67 v2.toNatClampNeg ((H2.1 67 v2.toNatClampNeg) + (1 : Int32))) 68 v2.toNatClampNeg ((H2.1 68 v2.toNatClampNeg) + (0 : Int32))), H2.2) (pm_v (fun H3 => pm_R d M_Mo_nightOf [.ref 55, .int v2] H3 (pm_v (fun H4 => pm_R d M_Mo_keeps [.ref 55, .int v3, .int v2] H4 (pm_v (fun H5 => pm_RW none (d + 1) M_Mo_hearsDay Q 65 [(0, .ref 55), (1, .int v1), (2, .int v2), (3, .int (v3 + (1 : Int32)))] [] H5))))))))))) ∧ (¬ (H2.1 76 v3.toNatClampNeg) = 0 → vp_in v2 12 ∧ (vp_in ((1 : Int32) - v3) 2 ∧ (vp_in ((1 : Int32) - v3) 2 ∧ (¬ (2 : Int32) = 0 ∧ (pm_R d M_Mo_gains [.ref 55, .int v2, .int (H2.1 76 (((1 : Int32) - v3).toNatClampNeg)), .int ((H2.1 77 (((1 : Int32) - v3).toNatClampNeg)) / (2 : Int32))] ((pm_up (pm_up H2.1 67 v2.toNatClampNeg ((H2.1 67 v2.toNatClampNeg) + (1 : Int32))) 68 v2.toNatClampNeg ((H2.1 68 v2.toNatClampNeg) + (1 : Int32))), H2.2) (pm_v (fun H6 => pm_R d M_Mo_nightOf [.ref 55, .int v2] H6 (pm_v (fun H7 => pm_R d M_Mo_keeps [.ref 55, .int v3, .int v2] H7 (pm_v (fun H8 => pm_RW none (d + 1) M_Mo_hearsDay Q 65 [(0, .ref 55), (1, .int v1), (2, .int v2), (3, .int (v3 + (1 : Int32)))] [] H8)))))))))))))))))))))) ∧ (v3 = 0 → pm_R d M_Mo_loads [.ref 55, .int v3, .int v1] H (pm_v (fun H9 => vp_in v3 2 ∧ (vp_in v3 2 ∧ (pm_R d M_Mo_gains [.ref 55, .int v1, .int (H9.1 76 v3.toNatClampNeg), .int (H9.1 77 v3.toNatClampNeg)] H9 (pm_v (fun H10 => vp_in v1 12 ∧ (vp_in v1 12 ∧ (vp_in v1 12 ∧ (vp_in v3 2 ∧ (((H10.1 76 v3.toNatClampNeg) = 0 → vp_in v1 12 ∧ (vp_in ((1 : Int32) - v3) 2 ∧ (vp_in ((1 : Int32) - v3) 2 ∧ (¬ (2 : Int32) = 0 ∧ (pm_R d M_Mo_gains [.ref 55, .int v1, .int (H10.1 76 (((1 : Int32) - v3).toNatClampNeg)), .int ((H10.1 77 (((1 : Int32) - v3).toNatClampNeg)) / (2 : Int32))] ((pm_up (pm_up H10.1 67 v1.toNatClampNeg ((H10.1 67 v1.toNatClampNeg) + (1 : Int32))) 68 v1.toNatClampNeg ((H10.1 68 v1.toNatClampNeg) + (0 : Int32))), H10.2) (pm_v (fun H11 => pm_R d M_Mo_nightOf [.ref 55, .int v1] H11 (pm_v (fun H12 => pm_R d M_Mo_keeps [.ref 55, .int v3, .int v1] H12 (pm_v (fun H13 => pm_RW none (d + 1) M_Mo_hearsDay Q 65 [(0, .ref 55), (1, .int v1), (2, .int v2), (3, .int (v3 + (1 : Int32)))] [] H13))))))))))) ∧ (¬ (H10.1 76 v3.toNatClampNeg) = 0 → vp_in v1 12 ∧ (vp_in ((1 : Int32) - v3) 2 ∧ (vp_in ((1 : Int32) - v3) 2 ∧ (¬ (2 : Int32) = 0 ∧ (pm_R d M_Mo_gains [.ref 55, .int v1, .int (H10.1 76 (((1 : Int32) - v3).toNatClampNeg)), .int ((H10.1 77 (((1 : Int32) - v3).toNatClampNeg)) / (2 : Int32))] ((pm_up (pm_up H10.1 67 v1.toNatClampNeg ((H10.1 67 v1.toNatClampNeg) + (1 : Int32))) 68 v1.toNatClampNeg ((H10.1 68 v1.toNatClampNeg) + (1 : Int32))), H10.2) (pm_v (fun H14 => pm_R d M_Mo_nightOf [.ref 55, .int v1] H14 (pm_v (fun H15 => pm_R d M_Mo_keeps [.ref 55, .int v3, .int v1] H15 (pm_v (fun H16 => pm_RW none (d + 1) M_Mo_hearsDay Q 65 [(0, .ref 55), (1, .int v1), (2, .int v2), (3, .int (v3 + (1 : Int32)))] [] H16))))))))))))))))))))))) from ⟨fun q1 => (h.1 q1), fun q1 => ⟨fun q2 => u_Mo_loads v3 v2 (⟨((h.2 q1).1 q2).1, ⟨((h.2 q1).1 q2).2.1, ⟨((h.2 q1).1 q2).1, ⟨((h.2 q1).1 q2).2.1, ⟨((h.2 q1).1 q2).1, ⟨((h.2 q1).1 q2).2.1, ⟨((h.2 q1).1 q2).1, ⟨((h.2 q1).1 q2).2.1, ⟨((h.2 q1).1 q2).1, ⟨((h.2 q1).1 q2).1, pm_mv' ((h.2 q1).1 q2).2.2 (fun H1 z3 => ⟨((h.2 q1).1 q2).2.1, ⟨((h.2 q1).1 q2).2.1, ⟨((h.2 q1).1 q2).2.1, ⟨((h.2 q1).1 q2).1, ⟨fun q4 => ⟨((h.2 q1).1 q2).2.1, ⟨(z3.1 q4).1, ⟨(z3.1 q4).1, ⟨(by decide), pm_mv' (z3.1 q4).2 (fun H2 z5 => pm_mv' z5 (fun H3 z6 => u_Mo_keeps v3 v2 (⟨((h.2 q1).1 q2).2.1, ⟨((h.2 q1).1 q2).1, ⟨((h.2 q1).1 q2).2.1, ⟨((h.2 q1).1 q2).1, ⟨((h.2 q1).1 q2).2.1, ⟨((h.2 q1).1 q2).1, ⟨((h.2 q1).1 q2).2.1, ⟨((h.2 q1).1 q2).1, z6⟩⟩⟩⟩⟩⟩⟩⟩)))⟩⟩⟩⟩, fun q4 => ⟨((h.2 q1).1 q2).2.1, ⟨(z3.2 q4).1, ⟨(z3.2 q4).1, ⟨(by decide), pm_mv' (z3.2 q4).2 (fun H4 z7 => pm_mv' z7 (fun H5 z8 => u_Mo_keeps v3 v2 (⟨((h.2 q1).1 q2).2.1, ⟨((h.2 q1).1 q2).1, ⟨((h.2 q1).1 q2).2.1, ⟨((h.2 q1).1 q2).1, ⟨((h.2 q1).1 q2).2.1, ⟨((h.2 q1).1 q2).1, ⟨((h.2 q1).1 q2).2.1, ⟨((h.2 q1).1 q2).1, z8⟩⟩⟩⟩⟩⟩⟩⟩)))⟩⟩⟩⟩⟩⟩⟩⟩⟩)⟩⟩⟩⟩⟩⟩⟩⟩⟩⟩), fun q2 => u_Mo_loads v3 v1 (⟨((h.2 q1).2 q2).1, ⟨((h.2 q1).2 q2).2.1, ⟨((h.2 q1).2 q2).1, ⟨((h.2 q1).2 q2).2.1, ⟨((h.2 q1).2 q2).1, ⟨((h.2 q1).2 q2).2.1, ⟨((h.2 q1).2 q2).1, ⟨((h.2 q1).2 q2).2.1, ⟨((h.2 q1).2 q2).1, ⟨((h.2 q1).2 q2).1, pm_mv' ((h.2 q1).2 q2).2.2 (fun H6 z9 => ⟨((h.2 q1).2 q2).2.1, ⟨((h.2 q1).2 q2).2.1, ⟨((h.2 q1).2 q2).2.1, ⟨((h.2 q1).2 q2).1, ⟨fun q10 => ⟨((h.2 q1).2 q2).2.1, ⟨(z9.1 q10).1, ⟨(z9.1 q10).1, ⟨(by decide), pm_mv' (z9.1 q10).2 (fun H7 z11 => pm_mv' z11 (fun H8 z12 => u_Mo_keeps v3 v1 (⟨((h.2 q1).2 q2).2.1, ⟨((h.2 q1).2 q2).1, ⟨((h.2 q1).2 q2).2.1, ⟨((h.2 q1).2 q2).1, ⟨((h.2 q1).2 q2).2.1, ⟨((h.2 q1).2 q2).1, ⟨((h.2 q1).2 q2).2.1, ⟨((h.2 q1).2 q2).1, z12⟩⟩⟩⟩⟩⟩⟩⟩)))⟩⟩⟩⟩, fun q10 => ⟨((h.2 q1).2 q2).2.1, ⟨(z9.2 q10).1, ⟨(z9.2 q10).1, ⟨(by decide), pm_mv' (z9.2 q10).2 (fun H9 z13 => pm_mv' z13 (fun H10 z14 => u_Mo_keeps v3 v1 (⟨((h.2 q1).2 q2).2.1, ⟨((h.2 q1).2 q2).1, ⟨((h.2 q1).2 q2).2.1, ⟨((h.2 q1).2 q2).1, ⟨((h.2 q1).2 q2).2.1, ⟨((h.2 q1).2 q2).1, ⟨((h.2 q1).2 q2).2.1, ⟨((h.2 q1).2 q2).1, z14⟩⟩⟩⟩⟩⟩⟩⟩)))⟩⟩⟩⟩⟩⟩⟩⟩⟩)⟩⟩⟩⟩⟩⟩⟩⟩⟩⟩)⟩⟩)
