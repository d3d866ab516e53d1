/-! tables and walks, by program: 21.tMo3 -/
def T_Mo_hearing : List pmE := [
  (0, [], .iload 1, 0, 0, 0),
  (1, [], .ifCond .lt 52, 0, 0, 0),
  (4, [], .aload 0, 0, 0, 0),
  (5, [], .iload 1, 0, 0, 0),
  (6, [], .iconst 100, 1, 0, 0),
  (8, [], .idiv, 0, 0, 0),
  (9, [], .i2l, 0, 0, 0),
  (10, [], .invokeinterface 150 649, 0, 136, 1177),
  (13, [], .ifCond .eq 52, 0, 0, 0),
  (16, [], .aload 0, 0, 0, 0),
  (17, [], .iload 1, 0, 0, 0),
  (18, [], .iconst 100, 1, 0, 0),
  (20, [], .irem, 0, 0, 0),
  (21, [], .i2l, 0, 0, 0),
  (22, [], .invokeinterface 150 649, 0, 136, 1177),
  (25, [], .ifCond .eq 52, 0, 0, 0),
  (28, [], .iload 2, 0, 0, 0),
  (29, [], .i2l, 0, 0, 0),
  (30, [], .jsr 0, 0, 0, 0),
  (31, [], .jsr 30, 1, 318, 1422),
  (34, [], .invokeinterface 143 13, 1, 114, 1152),
  (37, [], .ifCond .eq 52, 0, 0, 0),
  (40, [], .iload 3, 0, 0, 0),
  (41, [], .i2l, 0, 0, 0),
  (42, [], .jsr 0, 0, 0, 0),
  (43, [], .jsr 2, 1, 134, 1176),
  (46, [], .invokeinterface 143 13, 1, 114, 1152),
  (49, [], .ifCond .ne 56, 0, 0, 0),
  (52, [], .iconst (-2000000000), 4, 289, 1364),
  (55, [], .ireturn, 0, 0, 0),
  (56, [], .iload 1, 0, 0, 0),
  (57, [], .iconst 100, 1, 0, 0),
  (59, [], .idiv, 0, 0, 0),
  (60, [], .istore 4, 1, 0, 0),
  (62, [], .iload 1, 0, 0, 0),
  (63, [], .iconst 100, 1, 0, 0),
  (65, [], .irem, 0, 0, 0),
  (66, [], .istore 5, 1, 0, 0),
  (68, [], .aload 0, 0, 0, 0),
  (69, [], .invokeinterface 172 644, 0, 228, 1250),
  (72, [], .aload 0, 0, 0, 0),
  (73, [], .iconst 0, 0, 0, 0),
  (74, [], .iload 4, 1, 0, 0),
  (76, [], .invokeinterface 213 652, 0, 315, 1423),
  (79, [], .aload 0, 0, 0, 0),
  (80, [], .iconst 1, 0, 0, 0),
  (81, [], .iload 5, 1, 0, 0),
  (83, [], .invokeinterface 213 652, 0, 315, 1423),
  (86, [], .iconst (-2), 1, 0, 0),
  (88, [], .istore 6, 1, 0, 0),
  (90, [], .iconst 0, 0, 0, 0),
  (91, [], .istore 7, 1, 0, 0),
  (93, [0, 2, 3, 4, 5, 6, 7], .iload 7, 1, 0, 0),
  (95, [], .iload 2, 0, 0, 0),
  (96, [], .if_icmp .ge 145, 0, 0, 0),
  (99, [], .aload 0, 0, 0, 0),
  (100, [], .iload 4, 1, 0, 0),
  (102, [], .iload 5, 1, 0, 0),
  (104, [], .invokeinterface 214 652, 0, 320, 1427),
  (107, [], .iload 6, 1, 0, 0),
  (109, [], .ifCond .ge 135, 0, 0, 0),
  (112, [], .aload 0, 0, 0, 0),
  (113, [], .getfield 608, 0, 72, 1010),
  (116, [], .iconst 0, 0, 0, 0),
  (117, [], .baload, 0, 0, 0),
  (118, [], .ifCond .eq 135, 0, 0, 0),
  (121, [], .aload 0, 0, 0, 0),
  (122, [], .getfield 608, 0, 72, 1010),
  (125, [], .iconst 1, 0, 0, 0),
  (126, [], .baload, 0, 0, 0),
  (127, [], .ifCond .eq 135, 0, 0, 0),
  (130, [], .iload 7, 1, 0, 0),
  (132, [], .goto 137, 0, 0, 0),
  (135, [], .iload 6, 1, 0, 0),
  (137, [], .istore 6, 1, 0, 0),
  (139, [], .iinc 7 1, 0, 0, 0),
  (142, [], .goto 93, 0, 0, 0),
  (145, [], .iload 3, 0, 0, 0),
  (146, [], .iconst 2, 0, 0, 0),
  (147, [], .if_icmp .ne 155, 0, 0, 0),
  (150, [], .iload 6, 1, 0, 0),
  (152, [], .goto 168, 0, 0, 0),
  (155, [], .aload 0, 0, 0, 0),
  (156, [], .getfield 604, 0, 60, 1006),
  (159, [], .iload 3, 0, 0, 0),
  (160, [], .iaload, 0, 0, 0),
  (161, [], .aload 0, 0, 0, 0),
  (162, [], .getfield 605, 0, 63, 1007),
  (165, [], .iload 3, 0, 0, 0),
  (166, [], .iaload, 0, 0, 0),
  (167, [], .isub, 0, 0, 0),
  (168, [], .ireturn, 0, 0, 0)]
theorem tk_Mo_hearing : pm_okT M_Mo_hearing T_Mo_hearing = true := by decide +kernel
theorem ok_Mo_hearing : pm_okm M_Mo_hearing := pm_okm_of _ 1421 85 1419 1420 (by decide +kernel)
set_option maxRecDepth 100000 in
set_option maxHeartbeats 4000000 in
theorem m_Mo_hearing {d : Nat} {H : pmT} {Q : pmQ} (a1 : Int32) (a2 : Int32) (a3 : Int32)
    (h : (a1 < 0 → Q (some (.int (-2000000000 : Int32))) H) ∧ (¬ a1 < 0 → ((lg_cmp ((a1 / (100 : Int32)).toInt64) (0 : Int64)) < 0 → Q (some (.int (-2000000000 : Int32))) H) ∧ (¬ (lg_cmp ((a1 / (100 : Int32)).toInt64) (0 : Int64)) < 0 → (0 < (lg_cmp ((a1 / (100 : Int32)).toInt64) (((H.1 55 6) - (1 : Int32)).toInt64)) → Q (some (.int (-2000000000 : Int32))) H) ∧ (¬ 0 < (lg_cmp ((a1 / (100 : Int32)).toInt64) (((H.1 55 6) - (1 : Int32)).toInt64)) → ((lg_cmp ((a1 - a1 / (100 : Int32) * (100 : Int32)).toInt64) (0 : Int64)) < 0 → Q (some (.int (-2000000000 : Int32))) H) ∧ (¬ (lg_cmp ((a1 - a1 / (100 : Int32) * (100 : Int32)).toInt64) (0 : Int64)) < 0 → (0 < (lg_cmp ((a1 - a1 / (100 : Int32) * (100 : Int32)).toInt64) (((H.1 55 6) - (1 : Int32)).toInt64)) → Q (some (.int (-2000000000 : Int32))) H) ∧ (¬ 0 < (lg_cmp ((a1 - a1 / (100 : Int32) * (100 : Int32)).toInt64) (((H.1 55 6) - (1 : Int32)).toInt64)) → ((lg_cmp a2.toInt64 (0 : Int64)) < 0 → Q (some (.int (-2000000000 : Int32))) H) ∧ (¬ (lg_cmp a2.toInt64 (0 : Int64)) < 0 → (0 < (lg_cmp a2.toInt64 (30 : Int64)) → Q (some (.int (-2000000000 : Int32))) H) ∧ (¬ 0 < (lg_cmp a2.toInt64 (30 : Int64)) → ((lg_cmp a3.toInt64 (0 : Int64)) < 0 → Q (some (.int (-2000000000 : Int32))) H) ∧ (¬ (lg_cmp a3.toInt64 (0 : Int64)) < 0 → (0 < (lg_cmp a3.toInt64 (2 : Int64)) → Q (some (.int (-2000000000 : Int32))) H) ∧ (¬ 0 < (lg_cmp a3.toInt64 (2 : Int64)) → pm_R (d + 1) M_Mo_begins1 [.ref 55] H (pm_v (fun H81 => vp_in (a1 / (100 : Int32)) 12 ∧ (vp_in (a1 - a1 / (100 : Int32) * (100 : Int32)) 12 ∧ (pm_RW none (d + 2) M_Mo_hearing Q 93 [(0, .ref 55), (2, .int a2), (3, .int a3), (4, .int (a1 / (100 : Int32))), (5, .int (a1 - a1 / (100 : Int32) * (100 : Int32))), (6, .int (-2 : Int32)), (7, .int (0 : Int32))] [] ((pm_up (pm_up (pm_up (pm_up (pm_up (pm_up (pm_up (pm_up H81.1 72 0 (H81.1 65 ((a1 / (100 : Int32)).toNatClampNeg))) 73 0 (H81.1 66 ((a1 / (100 : Int32)).toNatClampNeg))) 74 0 (H81.1 67 ((a1 / (100 : Int32)).toNatClampNeg))) 75 0 (H81.1 68 ((a1 / (100 : Int32)).toNatClampNeg))) 72 1 (H81.1 65 ((a1 - a1 / (100 : Int32) * (100 : Int32)).toNatClampNeg))) 73 1 (H81.1 66 ((a1 - a1 / (100 : Int32) * (100 : Int32)).toNatClampNeg))) 74 1 (H81.1 67 ((a1 - a1 / (100 : Int32) * (100 : Int32)).toNatClampNeg))) 75 1 (H81.1 68 ((a1 - a1 / (100 : Int32) * (100 : Int32)).toNatClampNeg))), H81.2))))))))))))))) : pm_R (d + 2) M_Mo_hearing [.ref 55, .int a1, .int a2, .int a3] H Q :=
  pm_walk (n := 51) ok_Mo_hearing tk_Mo_hearing rfl (Nat.le_of_ble_eq_true rfl) (show (a1 < 0 → Q (some (.int (-2000000000 : Int32))) H) ∧ (¬ a1 < 0 → ¬ (100 : Int32) = 0 ∧ (pm_R (d + 1) M_Mo_isBar [.ref 55, .long ((a1 / (100 : Int32)).toInt64)] H (pm_i (fun x2 H1 => (x2 = 0 → Q (some (.int (-2000000000 : Int32))) H1) ∧ (¬ x2 = 0 → ¬ (100 : Int32) = 0 ∧ (pm_R (d + 1) M_Mo_isBar [.ref 55, .long ((a1 - a1 / (100 : Int32) * (100 : Int32)).toInt64)] H1 (pm_i (fun x4 H3 => (x4 = 0 → Q (some (.int (-2000000000 : Int32))) H3) ∧ (¬ x4 = 0 → pm_R (d + 1) M_Mo_within [.long a2.toInt64, .long (0 : Int64), .long (30 : Int64)] H3 (pm_i (fun x6 H5 => (x6 = 0 → Q (some (.int (-2000000000 : Int32))) H5) ∧ (¬ x6 = 0 → pm_R (d + 1) M_Mo_within [.long a3.toInt64, .long (0 : Int64), .long (2 : Int64)] H5 (pm_i (fun x8 H7 => (¬ x8 = 0 → ¬ (100 : Int32) = 0 ∧ (¬ (100 : Int32) = 0 ∧ (pm_R (d + 1) M_Mo_begins1 [.ref 55] H7 (pm_v (fun H9 => pm_R (d + 1) M_Mo_keeps [.ref 55, .int (0 : Int32), .int (a1 / (100 : Int32))] H9 (pm_v (fun H10 => pm_R (d + 1) M_Mo_keeps [.ref 55, .int (1 : Int32), .int (a1 - a1 / (100 : Int32) * (100 : Int32))] H10 (pm_v (fun H11 => pm_RW none (d + 2) M_Mo_hearing Q 93 [(0, .ref 55), (2, .int a2), (3, .int a3), (4, .int (a1 / (100 : Int32))), (5, .int (a1 - a1 / (100 : Int32) * (100 : Int32))), (6, .int (-2 : Int32)), (7, .int (0 : Int32))] [] H11))))))))) ∧ (x8 = 0 → Q (some (.int (-2000000000 : Int32))) H7))))))))))))))) from ⟨fun q1 => (h.1 q1), fun q1 => ⟨(by decide), u_Mo_isBar ((a1 / (100 : Int32)).toInt64) (u_Mo_within ((a1 / (100 : Int32)).toInt64) (0 : Int64) (((H.1 55 6) - (1 : Int32)).toInt64) (⟨fun q2 => ⟨Or.inl rfl, ⟨Or.inl rfl, ⟨fun _ => ((h.2 q1).1 q2), fun z => absurd (by decide) z⟩⟩⟩, fun q2 => ⟨fun q3 => ⟨Or.inl rfl, ⟨Or.inl rfl, ⟨fun _ => (((h.2 q1).2 q2).1 q3), fun z => absurd (by decide) z⟩⟩⟩, fun q3 => ⟨Or.inr rfl, ⟨Or.inr rfl, ⟨fun z => absurd z (by decide), fun _ => ⟨(by decide), u_Mo_isBar ((a1 - a1 / (100 : Int32) * (100 : Int32)).toInt64) (u_Mo_within ((a1 - a1 / (100 : Int32) * (100 : Int32)).toInt64) (0 : Int64) (((H.1 55 6) - (1 : Int32)).toInt64) (⟨fun q4 => ⟨Or.inl rfl, ⟨Or.inl rfl, ⟨fun _ => ((((h.2 q1).2 q2).2 q3).1 q4), fun z => absurd (by decide) z⟩⟩⟩, fun q4 => ⟨fun q5 => ⟨Or.inl rfl, ⟨Or.inl rfl, ⟨fun _ => (((((h.2 q1).2 q2).2 q3).2 q4).1 q5), fun z => absurd (by decide) z⟩⟩⟩, fun q5 => ⟨Or.inr rfl, ⟨Or.inr rfl, ⟨fun z => absurd z (by decide), fun _ => u_Mo_within a2.toInt64 (0 : Int64) (30 : Int64) (⟨fun q6 => ⟨Or.inl rfl, ⟨fun _ => ((((((h.2 q1).2 q2).2 q3).2 q4).2 q5).1 q6), fun z => absurd (by decide) z⟩⟩, fun q6 => ⟨fun q7 => ⟨Or.inl rfl, ⟨fun _ => (((((((h.2 q1).2 q2).2 q3).2 q4).2 q5).2 q6).1 q7), fun z => absurd (by decide) z⟩⟩, fun q7 => ⟨Or.inr rfl, ⟨fun z => absurd z (by decide), fun _ => u_Mo_within a3.toInt64 (0 : Int64) (2 : Int64) (⟨fun q8 => ⟨Or.inl rfl, ⟨fun z => absurd (by decide) z, fun _ => ((((((((h.2 q1).2 q2).2 q3).2 q4).2 q5).2 q6).2 q7).1 q8)⟩⟩, fun q8 => ⟨fun q9 => ⟨Or.inl rfl, ⟨fun z => absurd (by decide) z, fun _ => (((((((((h.2 q1).2 q2).2 q3).2 q4).2 q5).2 q6).2 q7).2 q8).1 q9)⟩⟩, fun q9 => ⟨Or.inr rfl, ⟨fun _ => ⟨(by decide), ⟨(by decide), pm_mv' (((((((((h.2 q1).2 q2).2 q3).2 q4).2 q5).2 q6).2 q7).2 q8).2 q9) (fun H81 z10 => u_Mo_keeps (0 : Int32) (a1 / (100 : Int32)) (⟨z10.1, ⟨(pm_ik rfl), ⟨z10.1, ⟨(pm_ik rfl), ⟨z10.1, ⟨(pm_ik rfl), ⟨z10.1, ⟨(pm_ik rfl), u_Mo_keeps (1 : Int32) (a1 - a1 / (100 : Int32) * (100 : Int32)) (⟨z10.2.1, ⟨(pm_ik rfl), ⟨z10.2.1, ⟨(pm_ik rfl), ⟨z10.2.1, ⟨(pm_ik rfl), ⟨z10.2.1, ⟨(pm_ik rfl), z10.2.2⟩⟩⟩⟩⟩⟩⟩⟩)⟩⟩⟩⟩⟩⟩⟩⟩))⟩⟩, fun z => absurd z (by decide)⟩⟩⟩⟩)⟩⟩⟩⟩)⟩⟩⟩⟩⟩))⟩⟩⟩⟩⟩⟩))⟩⟩)
set_option maxRecDepth 100000 in
set_option maxHeartbeats 4000000 in
theorem b_Mo_hearing_93 {d : Nat} {H : pmT} {Q : pmQ} (v2 : Int32) (v3 : Int32) (v4 : Int32) (v5 : Int32) (v6 : Int32) (v7 : Int32)
    (h : (v2 ≤ v7 → (¬ v3 = (2 : Int32) → vp_in v3 2 ∧ (Q (some (.int ((H.1 72 v3.toNatClampNeg) - (H.1 73 v3.toNatClampNeg)))) H)) ∧ (v3 = (2 : Int32) → Q (some (.int v6)) H)) ∧ (¬ v2 ≤ v7 → pm_R (d + 1) M_Mo_hearsDay [.ref 55, .int v4, .int v5] H (pm_v (fun H1 => (0 ≤ v6 → pm_RW none (d + 2) M_Mo_hearing Q 93 [(0, .ref 55), (2, .int v2), (3, .int v3), (4, .int v4), (5, .int v5), (6, .int v6), (7, .int (v7 + (1 : Int32)))] [] H1) ∧ (¬ 0 ≤ v6 → ((H1.1 76 0) = 0 → pm_RW none (d + 2) M_Mo_hearing Q 93 [(0, .ref 55), (2, .int v2), (3, .int v3), (4, .int v4), (5, .int v5), (6, .int v6), (7, .int (v7 + (1 : Int32)))] [] H1) ∧ (¬ (H1.1 76 0) = 0 → ((H1.1 76 1) = 0 → pm_RW none (d + 2) M_Mo_hearing Q 93 [(0, .ref 55), (2, .int v2), (3, .int v3), (4, .int v4), (5, .int v5), (6, .int v6), (7, .int (v7 + (1 : Int32)))] [] H1) ∧ (¬ (H1.1 76 1) = 0 → pm_RW none (d + 2) M_Mo_hearing Q 93 [(0, .ref 55), (2, .int v2), (3, .int v3), (4, .int v4), (5, .int v5), (6, .int v7), (7, .int (v7 + (1 : Int32)))] [] H1))))))) : pm_RW none (d + 2) M_Mo_hearing Q 93 [(0, .ref 55), (2, .int v2), (3, .int v3), (4, .int v4), (5, .int v5), (6, .int v6), (7, .int v7)] [] H :=
  pm_body tk_Mo_hearing 24 93 (show (v2 ≤ v7 → (¬ v3 = (2 : Int32) → vp_in v3 2 ∧ (vp_in v3 2 ∧ (Q (some (.int ((H.1 72 v3.toNatClampNeg) - (H.1 73 v3.toNatClampNeg)))) H))) ∧ (v3 = (2 : Int32) → Q (some (.int v6)) H)) ∧ (¬ v2 ≤ v7 → pm_R (d + 1) M_Mo_hearsDay [.ref 55, .int v4, .int v5] H (pm_v (fun H1 => (0 ≤ v6 → pm_RW none (d + 2) M_Mo_hearing Q 93 [(0, .ref 55), (2, .int v2), (3, .int v3), (4, .int v4), (5, .int v5), (6, .int v6), (7, .int (v7 + (1 : Int32)))] [] H1) ∧ (¬ 0 ≤ v6 → vp_in (0 : Int32) 2 ∧ (((H1.1 76 0) = 0 → pm_RW none (d + 2) M_Mo_hearing Q 93 [(0, .ref 55), (2, .int v2), (3, .int v3), (4, .int v4), (5, .int v5), (6, .int v6), (7, .int (v7 + (1 : Int32)))] [] H1) ∧ (¬ (H1.1 76 0) = 0 → vp_in (1 : Int32) 2 ∧ (((H1.1 76 1) = 0 → pm_RW none (d + 2) M_Mo_hearing Q 93 [(0, .ref 55), (2, .int v2), (3, .int v3), (4, .int v4), (5, .int v5), (6, .int v6), (7, .int (v7 + (1 : Int32)))] [] H1) ∧ (¬ (H1.1 76 1) = 0 → pm_RW none (d + 2) M_Mo_hearing Q 93 [(0, .ref 55), (2, .int v2), (3, .int v3), (4, .int v4), (5, .int v5), (6, .int v7), (7, .int (v7 + (1 : Int32)))] [] H1)))))))) from ⟨fun q1 => ⟨fun q2 => ⟨((h.1 q1).1 q2).1, ⟨((h.1 q1).1 q2).1, ((h.1 q1).1 q2).2⟩⟩, fun q2 => ((h.1 q1).2 q2)⟩, fun q1 => pm_mv' (h.2 q1) (fun H1 z3 => ⟨fun q4 => (z3.1 q4), fun q4 => ⟨(pm_ik rfl), ⟨fun q5 => ((z3.2 q4).1 q5), fun q5 => ⟨(pm_ik rfl), ⟨fun q6 => (((z3.2 q4).2 q5).1 q6), fun q6 => (((z3.2 q4).2 q5).2 q6)⟩⟩⟩⟩⟩)⟩)
def T_Mo_drawn : List pmE := [
  (0, [], .iload 2, 0, 0, 0),
  (1, [], .i2l, 0, 0, 0),
  (2, [], .jsr 1, 0, 0, 0),
  (3, [], .jsr 30, 1, 318, 1422),
  (6, [], .invokeinterface 143 13, 1, 114, 1152),
  (9, [], .ifCond .eq 22, 0, 0, 0),
  (12, [], .iload 3, 0, 0, 0),
  (13, [], .i2l, 0, 0, 0),
  (14, [], .jsr 0, 0, 0, 0),
  (15, [], .jsr 1, 0, 0, 0),
  (16, [], .invokeinterface 143 13, 1, 114, 1152),
  (19, [], .ifCond .ne 24, 0, 0, 0),
  (22, [], .iconst (-1), 0, 0, 0),
  (23, [], .ireturn, 0, 0, 0),
  (24, [], .iload 1, 0, 0, 0),
  (25, [], .istore 4, 1, 0, 0),
  (27, [], .iconst 0, 0, 0, 0),
  (28, [], .istore 5, 1, 0, 0),
  (30, [], .iconst 0, 0, 0, 0),
  (31, [], .istore 6, 1, 0, 0),
  (33, [], .iconst 0, 0, 0, 0),
  (34, [], .istore 7, 1, 0, 0),
  (36, [0, 2, 3, 4, 5, 6, 7], .iload 7, 1, 0, 0),
  (38, [], .iload 2, 0, 0, 0),
  (39, [], .if_icmp .ge 179, 0, 0, 0),
  (42, [], .iconst 0, 0, 0, 0),
  (43, [], .istore 8, 1, 0, 0),
  (45, [], .iconst 0, 0, 0, 0),
  (46, [], .istore 9, 1, 0, 0),
  (48, [0, 2, 3, 4, 5, 6, 7, 8, 9], .iload 9, 1, 0, 0),
  (50, [], .aload 0, 0, 0, 0),
  (51, [], .getfield 582, 0, 111, 984),
  (54, [], .if_icmp .ge 147, 0, 0, 0),
  (57, [], .iload 4, 1, 0, 0),
  (59, [], .iconst 1103515245, 4, 323, 1439),
  (62, [], .imul, 0, 0, 0),
  (63, [], .iconst 12345, 2, 0, 0),
  (66, [], .iadd, 0, 0, 0),
  (67, [], .istore 4, 1, 0, 0),
  (69, [], .aload 0, 0, 0, 0),
  (70, [], .getfield 576, 0, 11, 978),
  (73, [], .iload 9, 1, 0, 0),
  (75, [], .iaload, 0, 0, 0),
  (76, [], .aload 0, 0, 0, 0),
  (77, [], .getfield 576, 0, 11, 978),
  (80, [], .iconst 12, 1, 0, 0),
  (82, [], .iload 9, 1, 0, 0),
  (84, [], .iadd, 0, 0, 0),
  (85, [], .iaload, 0, 0, 0),
  (86, [], .iadd, 0, 0, 0),
  (87, [], .istore 10, 1, 0, 0),
  (89, [], .iload 8, 1, 0, 0),
  (91, [], .iload 10, 1, 0, 0),
  (93, [], .ifCond .ne 115, 0, 0, 0),
  (96, [], .iload 4, 1, 0, 0),
  (98, [], .iconst 8, 1, 0, 0),
  (100, [], .iushr, 0, 0, 0),
  (101, [], .iconst 2, 0, 0, 0),
  (102, [], .irem, 0, 0, 0),
  (103, [], .iconst 1, 0, 0, 0),
  (104, [], .if_icmp .ge 111, 0, 0, 0),
  (107, [], .iconst 1, 0, 0, 0),
  (108, [], .goto 138, 0, 0, 0),
  (111, [], .iconst 0, 0, 0, 0),
  (112, [], .goto 138, 0, 0, 0),
  (115, [], .iload 4, 1, 0, 0),
  (117, [], .iconst 8, 1, 0, 0),
  (119, [], .iushr, 0, 0, 0),
  (120, [], .iload 10, 1, 0, 0),
  (122, [], .irem, 0, 0, 0),
  (123, [], .aload 0, 0, 0, 0),
  (124, [], .getfield 576, 0, 11, 978),
  (127, [], .iload 9, 1, 0, 0),
  (129, [], .iaload, 0, 0, 0),
  (130, [], .if_icmp .ge 137, 0, 0, 0),
  (133, [], .iconst 1, 0, 0, 0),
  (134, [], .goto 138, 0, 0, 0),
  (137, [], .iconst 0, 0, 0, 0),
  (138, [], .iadd, 0, 0, 0),
  (139, [], .istore 8, 1, 0, 0),
  (141, [], .iinc 9 1, 0, 0, 0),
  (144, [], .goto 48, 0, 0, 0),
  (147, [], .iload 6, 1, 0, 0),
  (149, [], .iload 8, 1, 0, 0),
  (151, [], .iadd, 0, 0, 0),
  (152, [], .istore 6, 1, 0, 0),
  (154, [], .iload 5, 1, 0, 0),
  (156, [], .iload 8, 1, 0, 0),
  (158, [], .aload 0, 0, 0, 0),
  (159, [], .getfield 582, 0, 111, 984),
  (162, [], .if_icmp .ne 169, 0, 0, 0),
  (165, [], .iconst 1, 0, 0, 0),
  (166, [], .goto 170, 0, 0, 0),
  (169, [], .iconst 0, 0, 0, 0),
  (170, [], .iadd, 0, 0, 0),
  (171, [], .istore 5, 1, 0, 0),
  (173, [], .iinc 7 1, 0, 0, 0),
  (176, [], .goto 36, 0, 0, 0),
  (179, [], .iload 3, 0, 0, 0),
  (180, [], .ifCond .ne 188, 0, 0, 0),
  (183, [], .iload 5, 1, 0, 0),
  (185, [], .goto 190, 0, 0, 0),
  (188, [], .iload 6, 1, 0, 0),
  (190, [], .ireturn, 0, 0, 0)]
theorem tk_Mo_drawn : pm_okT M_Mo_drawn T_Mo_drawn = true := by decide +kernel
theorem ok_Mo_drawn : pm_okm M_Mo_drawn := pm_okm_of _ 1438 85 1436 1437 (by decide +kernel)
set_option maxRecDepth 100000 in
set_option maxHeartbeats 4000000 in
theorem m_Mo_drawn {d : Nat} {H : pmT} {Q : pmQ} (a1 : Int32) (a2 : Int32) (a3 : Int32)
    (h : ((lg_cmp a2.toInt64 (1 : Int64)) < 0 → Q (some (.int (-1 : Int32))) H) ∧ (¬ (lg_cmp a2.toInt64 (1 : Int64)) < 0 → (0 < (lg_cmp a2.toInt64 (30 : Int64)) → Q (some (.int (-1 : Int32))) H) ∧ (¬ 0 < (lg_cmp a2.toInt64 (30 : Int64)) → ((lg_cmp a3.toInt64 (0 : Int64)) < 0 → Q (some (.int (-1 : Int32))) H) ∧ (¬ (lg_cmp a3.toInt64 (0 : Int64)) < 0 → (0 < (lg_cmp a3.toInt64 (1 : Int64)) → Q (some (.int (-1 : Int32))) H) ∧ (¬ 0 < (lg_cmp a3.toInt64 (1 : Int64)) → pm_RW none (d + 1) M_Mo_drawn Q 36 [(0, .ref 55), (2, .int a2), (3, .int a3), (4, .int a1), (5, .int (0 : Int32)), (6, .int (0 : Int32)), (7, .int (0 : Int32))] [] H))))) : pm_R (d + 1) M_Mo_drawn [.ref 55, .int a1, .int a2, .int a3] H Q :=
  pm_walk (n := 21) ok_Mo_drawn tk_Mo_drawn rfl (Nat.le_of_ble_eq_true rfl) (show pm_R d M_Mo_within [.long a2.toInt64, .long (1 : Int64), .long (30 : Int64)] H (pm_i (fun x2 H1 => (x2 = 0 → Q (some (.int (-1 : Int32))) H1) ∧ (¬ x2 = 0 → pm_R d M_Mo_within [.long a3.toInt64, .long (0 : Int64), .long (1 : Int64)] H1 (pm_i (fun x4 H3 => (¬ x4 = 0 → pm_RW none (d + 1) M_Mo_drawn Q 36 [(0, .ref 55), (2, .int a2), (3, .int a3), (4, .int a1), (5, .int (0 : Int32)), (6, .int (0 : Int32)), (7, .int (0 : Int32))] [] H3) ∧ (x4 = 0 → Q (some (.int (-1 : Int32))) H3)))))) from u_Mo_within a2.toInt64 (1 : Int64) (30 : Int64) (⟨fun q1 => ⟨Or.inl rfl, ⟨fun _ => (h.1 q1), fun z => absurd (by decide) z⟩⟩, fun q1 => ⟨fun q2 => ⟨Or.inl rfl, ⟨fun _ => ((h.2 q1).1 q2), fun z => absurd (by decide) z⟩⟩, fun q2 => ⟨Or.inr rfl, ⟨fun z => absurd z (by decide), fun _ => u_Mo_within a3.toInt64 (0 : Int64) (1 : Int64) (⟨fun q3 => ⟨Or.inl rfl, ⟨fun z => absurd (by decide) z, fun _ => (((h.2 q1).2 q2).1 q3)⟩⟩, fun q3 => ⟨fun q4 => ⟨Or.inl rfl, ⟨fun z => absurd (by decide) z, fun _ => ((((h.2 q1).2 q2).2 q3).1 q4)⟩⟩, fun q4 => ⟨Or.inr rfl, ⟨fun _ => ((((h.2 q1).2 q2).2 q3).2 q4), fun z => absurd z (by decide)⟩⟩⟩⟩)⟩⟩⟩⟩))
set_option maxRecDepth 100000 in
set_option maxHeartbeats 4000000 in
theorem b_Mo_drawn_36 {d : Nat} {H : pmT} {Q : pmQ} (v2 : Int32) (v3 : Int32) (v4 : Int32) (v5 : Int32) (v6 : Int32) (v7 : Int32)
    (h : (v2 ≤ v7 → (¬ v3 = 0 → Q (some (.int v6)) H) ∧ (v3 = 0 → Q (some (.int v5)) H)) ∧ (¬ v2 ≤ v7 → pm_RW none (d + 1) M_Mo_drawn Q 48 [(0, .ref 55), (2, .int v2), (3, .int v3), (4, .int v4), (5, .int v5), (6, .int v6), (7, .int v7), (8, .int (0 : Int32)), (9, .int (0 : Int32))] [] H)) : pm_RW none (d + 1) M_Mo_drawn Q 36 [(0, .ref 55), (2, .int v2), (3, .int v3), (4, .int v4), (5, .int v5), (6, .int v6), (7, .int v7)] [] H :=
  pm_body tk_Mo_drawn 7 36 (show (v2 ≤ v7 → (¬ v3 = 0 → Q (some (.int v6)) H) ∧ (v3 = 0 → Q (some (.int v5)) H)) ∧ (¬ v2 ≤ v7 → pm_RW none (d + 1) M_Mo_drawn Q 48 [(0, .ref 55), (2, .int v2), (3, .int v3), (4, .int v4), (5, .int v5), (6, .int v6), (7, .int v7), (8, .int (0 : Int32)), (9, .int (0 : Int32))] [] H) from ⟨fun q1 => ⟨fun q2 => ((h.1 q1).1 q2), fun q2 => ((h.1 q1).2 q2)⟩, fun q1 => (h.2 q1)⟩)
set_option maxRecDepth 100000 in
set_option maxHeartbeats 4000000 in
theorem b_Mo_drawn_48 {d : Nat} {H : pmT} {Q : pmQ} (v2 : Int32) (v3 : Int32) (v4 : Int32) (v5 : Int32) (v6 : Int32) (v7 : Int32) (v8 : Int32) (v9 : Int32)
    (h : ((H.1 55 6) ≤ v9 → (¬ v8 = (H.1 55 6) → pm_RW none (d + 1) M_Mo_drawn Q 36 [(0, .ref 55), (2, .int v2), (3, .int v3), (4, .int v4), (5, .int (v5 + (0 : Int32))), (6, .int (v6 + v8)), (7, .int (v7 + (1 : Int32)))] [] H) ∧ (v8 = (H.1 55 6) → pm_RW none (d + 1) M_Mo_drawn Q 36 [(0, .ref 55), (2, .int v2), (3, .int v3), (4, .int v4), (5, .int (v5 + (1 : Int32))), (6, .int (v6 + v8)), (7, .int (v7 + (1 : Int32)))] [] H)) ∧ (¬ (H.1 55 6) ≤ v9 → vp_in v9 41 ∧ (vp_in ((12 : Int32) + v9) 41 ∧ ((¬ ((H.1 56 v9.toNatClampNeg) + (H.1 56 (((12 : Int32) + v9).toNatClampNeg))) = 0 → ((H.1 56 v9.toNatClampNeg) ≤ ((((v4 * (1103515245 : Int32)) + (12345 : Int32)).toUInt32 >>> ((8 : Int32).toUInt32 &&& Int32.toUInt32 31)).toInt32 - (((v4 * (1103515245 : Int32)) + (12345 : Int32)).toUInt32 >>> ((8 : Int32).toUInt32 &&& Int32.toUInt32 31)).toInt32 / ((H.1 56 v9.toNatClampNeg) + (H.1 56 (((12 : Int32) + v9).toNatClampNeg))) * ((H.1 56 v9.toNatClampNeg) + (H.1 56 (((12 : Int32) + v9).toNatClampNeg)))) → pm_RW none (d + 1) M_Mo_drawn Q 48 [(0, .ref 55), (2, .int v2), (3, .int v3), (4, .int ((v4 * (1103515245 : Int32)) + (12345 : Int32))), (5, .int v5), (6, .int v6), (7, .int v7), (8, .int (v8 + (0 : Int32))), (9, .int (v9 + (1 : Int32)))] [] H) ∧ (¬ (H.1 56 v9.toNatClampNeg) ≤ ((((v4 * (1103515245 : Int32)) + (12345 : Int32)).toUInt32 >>> ((8 : Int32).toUInt32 &&& Int32.toUInt32 31)).toInt32 - (((v4 * (1103515245 : Int32)) + (12345 : Int32)).toUInt32 >>> ((8 : Int32).toUInt32 &&& Int32.toUInt32 31)).toInt32 / ((H.1 56 v9.toNatClampNeg) + (H.1 56 (((12 : Int32) + v9).toNatClampNeg))) * ((H.1 56 v9.toNatClampNeg) + (H.1 56 (((12 : Int32) + v9).toNatClampNeg)))) → pm_RW none (d + 1) M_Mo_drawn Q 48 [(0, .ref 55), (2, .int v2), (3, .int v3), (4, .int ((v4 * (1103515245 : Int32)) + (12345 : Int32))), (5, .int v5), (6, .int v6), (7, .int v7), (8, .int (v8 + (1 : Int32))), (9, .int (v9 + (1 : Int32)))] [] H)) ∧ (((H.1 56 v9.toNatClampNeg) + (H.1 56 (((12 : Int32) + v9).toNatClampNeg))) = 0 → ((1 : Int32) ≤ ((((v4 * (1103515245 : Int32)) + (12345 : Int32)).toUInt32 >>> ((8 : Int32).toUInt32 &&& Int32.toUInt32 31)).toInt32 - (((v4 * (1103515245 : Int32)) + (12345 : Int32)).toUInt32 >>> ((8 : Int32).toUInt32 &&& Int32.toUInt32 31)).toInt32 / (2 : Int32) * (2 : Int32)) → pm_RW none (d + 1) M_Mo_drawn Q 48 [(0, .ref 55), (2, .int v2), (3, .int v3), (4, .int ((v4 * (1103515245 : Int32)) + (12345 : Int32))), (5, .int v5), (6, .int v6), (7, .int v7), (8, .int (v8 + (0 : Int32))), (9, .int (v9 + (1 : Int32)))] [] H) ∧ (¬ (1 : Int32) ≤ ((((v4 * (1103515245 : Int32)) + (12345 : Int32)).toUInt32 >>> ((8 : Int32).toUInt32 &&& Int32.toUInt32 31)).toInt32 - (((v4 * (1103515245 : Int32)) + (12345 : Int32)).toUInt32 >>> ((8 : Int32).toUInt32 &&& Int32.toUInt32 31)).toInt32 / (2 : Int32) * (2 : Int32)) → pm_RW none (d + 1) M_Mo_drawn Q 48 [(0, .ref 55), (2, .int v2), (3, .int v3), (4, .int ((v4 * (1103515245 : Int32)) + (12345 : Int32))), (5, .int v5), (6, .int v6), (7, .int v7), (8, .int (v8 + (1 : Int32))), (9, .int (v9 + (1 : Int32)))] [] H)))))) : pm_RW none (d + 1) M_Mo_drawn Q 48 [(0, .ref 55), (2, .int v2), (3, .int v3), (4, .int v4), (5, .int v5), (6, .int v6), (7, .int v7), (8, .int v8), (9, .int v9)] [] H :=
  pm_body tk_Mo_drawn 41 48 (show ((H.1 55 6) ≤ v9 → (¬ v8 = (H.1 55 6) → pm_RW none (d + 1) M_Mo_drawn Q 36 [(0, .ref 55), (2, .int v2), (3, .int v3), (4, .int v4), (5, .int (v5 + (0 : Int32))), (6, .int (v6 + v8)), (7, .int (v7 + (1 : Int32)))] [] H) ∧ (v8 = (H.1 55 6) → pm_RW none (d + 1) M_Mo_drawn Q 36 [(0, .ref 55), (2, .int v2), (3, .int v3), (4, .int v4), (5, .int (v5 + (1 : Int32))), (6, .int (v6 + v8)), (7, .int (v7 + (1 : Int32)))] [] H)) ∧ (¬ (H.1 55 6) ≤ v9 → vp_in v9 41 ∧ (vp_in ((12 : Int32) + v9) 41 ∧ ((¬ ((H.1 56 v9.toNatClampNeg) + (H.1 56 (((12 : Int32) + v9).toNatClampNeg))) = 0 → ¬ ((H.1 56 v9.toNatClampNeg) + (H.1 56 (((12 : Int32) + v9).toNatClampNeg))) = 0 ∧ (vp_in v9 41 ∧ (((H.1 56 v9.toNatClampNeg) ≤ ((((v4 * (1103515245 : Int32)) + (12345 : Int32)).toUInt32 >>> ((8 : Int32).toUInt32 &&& Int32.toUInt32 31)).toInt32 - (((v4 * (1103515245 : Int32)) + (12345 : Int32)).toUInt32 >>> ((8 : Int32).toUInt32 &&& Int32.toUInt32 31)).toInt32 / ((H.1 56 v9.toNatClampNeg) + (H.1 56 (((12 : Int32) + v9).toNatClampNeg))) * ((H.1 56 v9.toNatClampNeg) + (H.1 56 (((12 : Int32) + v9).toNatClampNeg)))) → pm_RW none (d + 1) M_Mo_drawn Q 48 [(0, .ref 55), (2, .int v2), (3, .int v3), (4, .int ((v4 * (1103515245 : Int32)) + (12345 : Int32))), (5, .int v5), (6, .int v6), (7, .int v7), (8, .int (v8 + (0 : Int32))), (9, .int (v9 + (1 : Int32)))] [] H) ∧ (¬ (H.1 56 v9.toNatClampNeg) ≤ ((((v4 * (1103515245 : Int32)) + (12345 : Int32)).toUInt32 >>> ((8 : Int32).toUInt32 &&& Int32.toUInt32 31)).toInt32 - (((v4 * (1103515245 : Int32)) + (12345 : Int32)).toUInt32 >>> ((8 : Int32).toUInt32 &&& Int32.toUInt32 31)).toInt32 / ((H.1 56 v9.toNatClampNeg) + (H.1 56 (((12 : Int32) + v9).toNatClampNeg))) * ((H.1 56 v9.toNatClampNeg) + (H.1 56 (((12 : Int32) + v9).toNatClampNeg)))) → pm_RW none (d + 1) M_Mo_drawn Q 48 [(0, .ref 55), (2, .int v2), (3, .int v3), (4, .int ((v4 * (1103515245 : Int32)) + (12345 : Int32))), (5, .int v5), (6, .int v6), (7, .int v7), (8, .int (v8 + (1 : Int32))), (9, .int (v9 + (1 : Int32)))] [] H)))) ∧ (((H.1 56 v9.toNatClampNeg) + (H.1 56 (((12 : Int32) + v9).toNatClampNeg))) = 0 → ¬ (2 : Int32) = 0 ∧ (((1 : Int32) ≤ ((((v4 * (1103515245 : Int32)) + (12345 : Int32)).toUInt32 >>> ((8 : Int32).toUInt32 &&& Int32.toUInt32 31)).toInt32 - (((v4 * (1103515245 : Int32)) + (12345 : Int32)).toUInt32 >>> ((8 : Int32).toUInt32 &&& Int32.toUInt32 31)).toInt32 / (2 : Int32) * (2 : Int32)) → pm_RW none (d + 1) M_Mo_drawn Q 48 [(0, .ref 55), (2, .int v2), (3, .int v3), (4, .int ((v4 * (1103515245 : Int32)) + (12345 : Int32))), (5, .int v5), (6, .int v6), (7, .int v7), (8, .int (v8 + (0 : Int32))), (9, .int (v9 + (1 : Int32)))] [] H) ∧ (¬ (1 : Int32) ≤ ((((v4 * (1103515245 : Int32)) + (12345 : Int32)).toUInt32 >>> ((8 : Int32).toUInt32 &&& Int32.toUInt32 31)).toInt32 - (((v4 * (1103515245 : Int32)) + (12345 : Int32)).toUInt32 >>> ((8 : Int32).toUInt32 &&& Int32.toUInt32 31)).toInt32 / (2 : Int32) * (2 : Int32)) → pm_RW none (d + 1) M_Mo_drawn Q 48 [(0, .ref 55), (2, .int v2), (3, .int v3), (4, .int ((v4 * (1103515245 : Int32)) + (12345 : Int32))), (5, .int v5), (6, .int v6), (7, .int v7), (8, .int (v8 + (1 : Int32))), (9, .int (v9 + (1 : Int32)))] [] H)))))) from ⟨fun q1 => ⟨fun q2 => ((h.1 q1).1 q2), fun q2 => ((h.1 q1).2 q2)⟩, fun q1 => ⟨(h.2 q1).1, ⟨(h.2 q1).2.1, ⟨fun q3 => ⟨q3, ⟨(h.2 q1).1, ⟨fun q4 => (((h.2 q1).2.2.1 q3).1 q4), fun q4 => (((h.2 q1).2.2.1 q3).2 q4)⟩⟩⟩, fun q3 => ⟨(by decide), ⟨fun q5 => (((h.2 q1).2.2.2 q3).1 q5), fun q5 => (((h.2 q1).2.2.2 q3).2 q5)⟩⟩⟩⟩⟩⟩)
def T_Mo_lays : List pmE := [
  (0, [], .iconst 0, 0, 0, 0),
  (1, [], .istore 1, 0, 0, 0),
  (2, [0, 1], .iload 1, 0, 0, 0),
  (3, [], .aload 0, 0, 0, 0),
  (4, [], .getfield 582, 0, 111, 984),
  (7, [], .if_icmp .ge 67, 0, 0, 0),
  (10, [], .aload 0, 0, 0, 0),
  (11, [], .getfield 576, 0, 11, 978),
  (14, [], .iload 1, 0, 0, 0),
  (15, [], .aload 0, 0, 0, 0),
  (16, [], .getfield 595, 0, 39, 997),
  (19, [], .iload 1, 0, 0, 0),
  (20, [], .iaload, 0, 0, 0),
  (21, [], .iastore, 0, 0, 0),
  (22, [], .aload 0, 0, 0, 0),
  (23, [], .getfield 576, 0, 11, 978),
  (26, [], .iconst 12, 1, 0, 0),
  (28, [], .iload 1, 0, 0, 0),
  (29, [], .iadd, 0, 0, 0),
  (30, [], .aload 0, 0, 0, 0),
  (31, [], .getfield 596, 0, 42, 998),
  (34, [], .iload 1, 0, 0, 0),
  (35, [], .iaload, 0, 0, 0),
  (36, [], .iastore, 0, 0, 0),
  (37, [], .aload 0, 0, 0, 0),
  (38, [], .getfield 583, 0, 24, 985),
  (41, [], .iload 1, 0, 0, 0),
  (42, [], .aload 0, 0, 0, 0),
  (43, [], .getfield 597, 0, 45, 999),
  (46, [], .iload 1, 0, 0, 0),
  (47, [], .iaload, 0, 0, 0),
  (48, [], .iastore, 0, 0, 0),
  (49, [], .aload 0, 0, 0, 0),
  (50, [], .getfield 584, 0, 27, 986),
  (53, [], .iload 1, 0, 0, 0),
  (54, [], .aload 0, 0, 0, 0),
  (55, [], .getfield 598, 0, 48, 1000),
  (58, [], .iload 1, 0, 0, 0),
  (59, [], .iaload, 0, 0, 0),
  (60, [], .iastore, 0, 0, 0),
  (61, [], .iinc 1 1, 0, 0, 0),
  (64, [], .goto 2, 0, 0, 0),
  (67, [], .return_, 0, 0, 0)]
theorem tk_Mo_lays : pm_okT M_Mo_lays T_Mo_lays = true := by decide +kernel
theorem ok_Mo_lays : pm_okm M_Mo_lays := pm_okm_of _ 1447 85 1446 66 (by decide +kernel)
set_option maxRecDepth 100000 in
set_option maxHeartbeats 4000000 in
theorem m_Mo_lays {d : Nat} {H : pmT} {Q : pmQ} 
    (h : pm_RW none d M_Mo_lays Q 2 [(0, .ref 55), (1, .int (0 : Int32))] [] H) : pm_R d M_Mo_lays [.ref 55] H Q :=
  pm_walk (n := 3) ok_Mo_lays tk_Mo_lays rfl (Nat.le_of_ble_eq_true rfl) (show pm_RW none d M_Mo_lays Q 2 [(0, .ref 55), (1, .int (0 : Int32))] [] H from h)
set_option maxRecDepth 100000 in
set_option maxHeartbeats 4000000 in
theorem b_Mo_lays_2 {d : Nat} {H : pmT} {Q : pmQ} (v1 : Int32)
    (h : ((H.1 55 6) ≤ v1 → Q none H) ∧ (¬ (H.1 55 6) ≤ v1 → vp_in v1 12 ∧ (vp_in v1 41 ∧ (vp_in ((12 : Int32) + v1) 41 ∧ (pm_RW none d M_Mo_lays Q 2 [(0, .ref 55), (1, .int (v1 + (1 : Int32)))] [] ((pm_up (pm_up (pm_up (pm_up H.1 56 v1.toNatClampNeg (H.1 65 v1.toNatClampNeg)) 56 (((12 : Int32) + v1).toNatClampNeg) (H.1 66 v1.toNatClampNeg)) 60 v1.toNatClampNeg (H.1 67 v1.toNatClampNeg)) 61 v1.toNatClampNeg (H.1 68 v1.toNatClampNeg)), H.2)))))) : pm_RW none d M_Mo_lays Q 2 [(0, .ref 55), (1, .int v1)] [] H :=
  pm_body tk_Mo_lays 40 2 (show ((H.1 55 6) ≤ v1 → Q none H) ∧ (¬ (H.1 55 6) ≤ v1 → vp_in v1 12 ∧ (vp_in v1 41 ∧ (vp_in v1 12 ∧ (vp_in ((12 : Int32) + v1) 41 ∧ (vp_in v1 12 ∧ (vp_in v1 12 ∧ (vp_in v1 12 ∧ (vp_in v1 12 ∧ (pm_RW none d M_Mo_lays Q 2 [(0, .ref 55), (1, .int (v1 + (1 : Int32)))] [] ((pm_up (pm_up (pm_up (pm_up H.1 56 v1.toNatClampNeg (H.1 65 v1.toNatClampNeg)) 56 (((12 : Int32) + v1).toNatClampNeg) (H.1 66 v1.toNatClampNeg)) 60 v1.toNatClampNeg (H.1 67 v1.toNatClampNeg)) 61 v1.toNatClampNeg (H.1 68 v1.toNatClampNeg)), H.2)))))))))) from ⟨fun q1 => (h.1 q1), fun q1 => ⟨(h.2 q1).1, ⟨(h.2 q1).2.1, ⟨(h.2 q1).1, ⟨(h.2 q1).2.2.1, ⟨(h.2 q1).1, ⟨(h.2 q1).1, ⟨(h.2 q1).1, ⟨(h.2 q1).1, (h.2 q1).2.2.2⟩⟩⟩⟩⟩⟩⟩⟩⟩)
def T_Mo_play : List pmE := [
  (0, [], .aload 0, 0, 0, 0),
  (1, [], .iload 1, 0, 0, 0),
  (2, [], .i2l, 0, 0, 0),
  (3, [], .invokeinterface 150 649, 0, 136, 1177),
  (6, [], .ifCond .eq 19, 0, 0, 0),
  (9, [], .iload 2, 0, 0, 0),
  (10, [], .i2l, 0, 0, 0),
  (11, [], .jsr 0, 0, 0, 0),
  (12, [], .jsr 1, 0, 0, 0),
  (13, [], .invokeinterface 143 13, 1, 114, 1152),
  (16, [], .ifCond .ne 21, 0, 0, 0),
  (19, [], .iconst (-1), 0, 0, 0),
  (20, [], .ireturn, 0, 0, 0),
  (21, [], .aload 0, 0, 0, 0),
  (22, [], .invokeinterface 172 644, 0, 228, 1250),
  (25, [], .aload 0, 0, 0, 0),
  (26, [], .iload 1, 0, 0, 0),
  (27, [], .iload 2, 0, 0, 0),
  (28, [], .invokeinterface 177 653, 0, 238, 1300),
  (31, [], .ifCond .eq 38, 0, 0, 0),
  (34, [], .iconst 1, 0, 0, 0),
  (35, [], .goto 39, 0, 0, 0),
  (38, [], .iconst 0, 0, 0, 0),
  (39, [], .istore 3, 0, 0, 0),
  (40, [], .aload 0, 0, 0, 0),
  (41, [], .invokeinterface 217 644, 0, 324, 1444),
  (44, [], .aload 0, 0, 0, 0),
  (45, [], .dup, 0, 0, 0),
  (46, [], .getfield 610, 0, 327, 1012),
  (49, [], .iconst 1, 0, 0, 0),
  (50, [], .iadd, 0, 0, 0),
  (51, [], .putfield 610, 0, 327, 1012),
  (54, [], .aload 0, 0, 0, 0),
  (55, [], .dup, 0, 0, 0),
  (56, [], .getfield 611, 0, 330, 1013),
  (59, [], .iload 3, 0, 0, 0),
  (60, [], .iadd, 0, 0, 0),
  (61, [], .putfield 611, 0, 330, 1013),
  (64, [], .iload 3, 0, 0, 0),
  (65, [], .ireturn, 0, 0, 0)]
theorem tk_Mo_play : pm_okT M_Mo_play T_Mo_play = true := by decide +kernel
theorem ok_Mo_play : pm_okm M_Mo_play := pm_okm_of _ 1443 85 1441 1442 (by decide +kernel)
set_option maxRecDepth 100000 in
set_option maxHeartbeats 4000000 in
theorem m_Mo_play {d : Nat} {H : pmT} {Q : pmQ} (a1 : Int32) (a2 : Int32)
    (h : ((lg_cmp a1.toInt64 (0 : Int64)) < 0 → Q (some (.int (-1 : Int32))) H) ∧ (¬ (lg_cmp a1.toInt64 (0 : Int64)) < 0 → (0 < (lg_cmp a1.toInt64 (((H.1 55 6) - (1 : Int32)).toInt64)) → Q (some (.int (-1 : Int32))) H) ∧ (¬ 0 < (lg_cmp a1.toInt64 (((H.1 55 6) - (1 : Int32)).toInt64)) → ((lg_cmp a2.toInt64 (0 : Int64)) < 0 → Q (some (.int (-1 : Int32))) H) ∧ (¬ (lg_cmp a2.toInt64 (0 : Int64)) < 0 → (0 < (lg_cmp a2.toInt64 (1 : Int64)) → Q (some (.int (-1 : Int32))) H) ∧ (¬ 0 < (lg_cmp a2.toInt64 (1 : Int64)) → pm_R (d + 1) M_Mo_begins1 [.ref 55] H (pm_v (fun H41 => pm_R (d + 1) M_Mo_plays [.ref 55, .int a1, .int a2] H41 (pm_i (fun x43 H42 => (x43 = 0 → pm_R (d + 1) M_Mo_lays [.ref 55] H42 (pm_v (fun H44 => Q (some (.int (0 : Int32))) ((pm_up (pm_up H44.1 55 34 ((H44.1 55 34) + (1 : Int32))) 55 35 ((H44.1 55 35) + (0 : Int32))), H44.2)))) ∧ (¬ x43 = 0 → pm_R (d + 1) M_Mo_lays [.ref 55] H42 (pm_v (fun H45 => Q (some (.int (1 : Int32))) ((pm_up (pm_up H45.1 55 34 ((H45.1 55 34) + (1 : Int32))) 55 35 ((H45.1 55 35) + (1 : Int32))), H45.2))))))))))))) : pm_R (d + 2) M_Mo_play [.ref 55, .int a1, .int a2] H Q :=
  pm_walk (n := 37) ok_Mo_play tk_Mo_play rfl (Nat.le_of_ble_eq_true rfl) (show pm_R (d + 1) M_Mo_isBar [.ref 55, .long a1.toInt64] H (pm_i (fun x2 H1 => (x2 = 0 → Q (some (.int (-1 : Int32))) H1) ∧ (¬ x2 = 0 → pm_R (d + 1) M_Mo_within [.long a2.toInt64, .long (0 : Int64), .long (1 : Int64)] H1 (pm_i (fun x4 H3 => (¬ x4 = 0 → pm_R (d + 1) M_Mo_begins1 [.ref 55] H3 (pm_v (fun H5 => pm_R (d + 1) M_Mo_plays [.ref 55, .int a1, .int a2] H5 (pm_i (fun x7 H6 => (x7 = 0 → pm_R (d + 1) M_Mo_lays [.ref 55] H6 (pm_v (fun H8 => Q (some (.int (0 : Int32))) ((pm_up (pm_up H8.1 55 34 ((H8.1 55 34) + (1 : Int32))) 55 35 ((H8.1 55 35) + (0 : Int32))), H8.2)))) ∧ (¬ x7 = 0 → pm_R (d + 1) M_Mo_lays [.ref 55] H6 (pm_v (fun H9 => Q (some (.int (1 : Int32))) ((pm_up (pm_up H9.1 55 34 ((H9.1 55 34) + (1 : Int32))) 55 35 ((H9.1 55 35) + (1 : Int32))), H9.2))))))))) ∧ (x4 = 0 → Q (some (.int (-1 : Int32))) H3)))))) from u_Mo_isBar a1.toInt64 (u_Mo_within a1.toInt64 (0 : Int64) (((H.1 55 6) - (1 : Int32)).toInt64) (⟨fun q1 => ⟨Or.inl rfl, ⟨Or.inl rfl, ⟨fun _ => (h.1 q1), fun z => absurd (by decide) z⟩⟩⟩, fun q1 => ⟨fun q2 => ⟨Or.inl rfl, ⟨Or.inl rfl, ⟨fun _ => ((h.2 q1).1 q2), fun z => absurd (by decide) z⟩⟩⟩, fun q2 => ⟨Or.inr rfl, ⟨Or.inr rfl, ⟨fun z => absurd z (by decide), fun _ => u_Mo_within a2.toInt64 (0 : Int64) (1 : Int64) (⟨fun q3 => ⟨Or.inl rfl, ⟨fun z => absurd (by decide) z, fun _ => (((h.2 q1).2 q2).1 q3)⟩⟩, fun q3 => ⟨fun q4 => ⟨Or.inl rfl, ⟨fun z => absurd (by decide) z, fun _ => ((((h.2 q1).2 q2).2 q3).1 q4)⟩⟩, fun q4 => ⟨Or.inr rfl, ⟨fun _ => pm_mv' ((((h.2 q1).2 q2).2 q3).2 q4) (fun H41 z5 => pm_mi z5 (fun x43 H42 z6 => ⟨fun q7 => (z6.1 q7), fun q7 => (z6.2 q7)⟩)), fun z => absurd z (by decide)⟩⟩⟩⟩)⟩⟩⟩⟩⟩)))
def T_Mo_night : List pmE := [
  (0, [], .aload 0, 0, 0, 0),
  (1, [], .invokeinterface 172 644, 0, 228, 1250),
  (4, [], .iconst 0, 0, 0, 0),
  (5, [], .istore 1, 0, 0, 0),
  (6, [0, 1], .iload 1, 0, 0, 0),
  (7, [], .aload 0, 0, 0, 0),
  (8, [], .getfield 582, 0, 111, 984),
  (11, [], .if_icmp .ge 25, 0, 0, 0),
  (14, [], .aload 0, 0, 0, 0),
  (15, [], .iload 1, 0, 0, 0),
  (16, [], .invokeinterface 178 648, 0, 235, 1296),
  (19, [], .iinc 1 1, 0, 0, 0),
  (22, [], .goto 6, 0, 0, 0),
  (25, [], .aload 0, 0, 0, 0),
  (26, [], .invokeinterface 217 644, 0, 324, 1444),
  (29, [], .aload 0, 0, 0, 0),
  (30, [], .dup, 0, 0, 0),
  (31, [], .getfield 612, 0, 333, 1014),
  (34, [], .iconst 1, 0, 0, 0),
  (35, [], .iadd, 0, 0, 0),
  (36, [], .putfield 612, 0, 333, 1014),
  (39, [], .aload 0, 0, 0, 0),
  (40, [], .getfield 612, 0, 333, 1014),
  (43, [], .ireturn, 0, 0, 0)]
theorem tk_Mo_night : pm_okT M_Mo_night T_Mo_night = true := by decide +kernel
theorem ok_Mo_night : pm_okm M_Mo_night := pm_okm_of _ 1451 85 1449 1450 (by decide +kernel)
set_option maxRecDepth 100000 in
set_option maxHeartbeats 4000000 in
theorem m_Mo_night {d : Nat} {H : pmT} {Q : pmQ} 
    (h : pm_R d M_Mo_begins1 [.ref 55] H (pm_v (fun H1 => pm_RW none (d + 1) M_Mo_night Q 6 [(0, .ref 55), (1, .int (0 : Int32))] [] H1))) : pm_R (d + 1) M_Mo_night [.ref 55] H Q :=
  pm_walk (n := 5) ok_Mo_night tk_Mo_night rfl (Nat.le_of_ble_eq_true rfl) (show pm_R d M_Mo_begins1 [.ref 55] H (pm_v (fun H1 => pm_RW none (d + 1) M_Mo_night Q 6 [(0, .ref 55), (1, .int (0 : Int32))] [] H1)) from h)
set_option maxRecDepth 100000 in
set_option maxHeartbeats 4000000 in
theorem b_Mo_night_6 {d : Nat} {H : pmT} {Q : pmQ} (v1 : Int32)
    (h : ((H.1 55 6) ≤ v1 → pm_R d M_Mo_lays [.ref 55] H (pm_v (fun H1 => Q (some (.int ((H1.1 55 36) + (1 : Int32)))) ((pm_up H1.1 55 36 ((H1.1 55 36) + (1 : Int32))), H1.2)))) ∧ (¬ (H.1 55 6) ≤ v1 → pm_R d M_Mo_nightOf [.ref 55, .int v1] H (pm_v (fun H2 => pm_RW none (d + 1) M_Mo_night Q 6 [(0, .ref 55), (1, .int (v1 + (1 : Int32)))] [] H2)))) : pm_RW none (d + 1) M_Mo_night Q 6 [(0, .ref 55), (1, .int v1)] [] H :=
  pm_body tk_Mo_night 14 6 (show ((H.1 55 6) ≤ v1 → pm_R d M_Mo_lays [.ref 55] H (pm_v (fun H1 => Q (some (.int ((H1.1 55 36) + (1 : Int32)))) ((pm_up H1.1 55 36 ((H1.1 55 36) + (1 : Int32))), H1.2)))) ∧ (¬ (H.1 55 6) ≤ v1 → pm_R d M_Mo_nightOf [.ref 55, .int v1] H (pm_v (fun H2 => pm_RW none (d + 1) M_Mo_night Q 6 [(0, .ref 55), (1, .int (v1 + (1 : Int32)))] [] H2))) from ⟨fun q1 => (h.1 q1), fun q1 => (h.2 q1)⟩)
def T_Mo_thursday : List pmE := [
  (0, [], .aload 0, 0, 0, 0),
  (1, [], .invokeinterface 172 644, 0, 228, 1250),
  (4, [], .aload 0, 0, 0, 0),
  (5, [], .invokeinterface 189 645, 0, 265, 1317),
  (8, [], .invokeinterface 145 5, 1, 268, 1325),
  (11, [], .istore 1, 0, 0, 0),
  (12, [], .aload 0, 0, 0, 0),
  (13, [], .dup, 0, 0, 0),
  (14, [], .getfield 613, 0, 336, 1015),
  (17, [], .iconst 1, 0, 0, 0),
  (18, [], .iadd, 0, 0, 0),
  (19, [], .putfield 613, 0, 336, 1015),
  (22, [], .aload 0, 0, 0, 0),
  (23, [], .iload 1, 0, 0, 0),
  (24, [], .aload 0, 0, 0, 0),
  (25, [], .getfield 614, 0, 339, 1016),
  (28, [], .if_icmp .le 35, 0, 0, 0),
  (31, [], .iload 1, 0, 0, 0),
  (32, [], .goto 39, 0, 0, 0),
  (35, [], .aload 0, 0, 0, 0),
  (36, [], .getfield 614, 0, 339, 1016),
  (39, [], .putfield 614, 0, 339, 1016),
  (42, [], .iload 1, 0, 0, 0),
  (43, [], .ireturn, 0, 0, 0)]
theorem tk_Mo_thursday : pm_okT M_Mo_thursday T_Mo_thursday = true := by decide +kernel
theorem ok_Mo_thursday : pm_okm M_Mo_thursday := pm_okm_of _ 1455 85 1453 1454 (by decide +kernel)
set_option maxRecDepth 100000 in
set_option maxHeartbeats 4000000 in
theorem m_Mo_thursday {d : Nat} {H : pmT} {Q : pmQ} 
    (h : pm_R d M_Mo_begins1 [.ref 55] H (pm_v (fun H1 => pm_R d M_Mo_rightSet [.ref 55] H1 (pm_i (fun x3 H2 => pm_R d M_Mo_bitsOf [.int x3] H2 (pm_i (fun x5 H4 => (x5 ≤ (H4.1 55 38) → Q (some (.int x5)) ((pm_up (pm_up H4.1 55 37 ((H4.1 55 37) + (1 : Int32))) 55 38 (H4.1 55 38)), H4.2)) ∧ (¬ x5 ≤ (H4.1 55 38) → Q (some (.int x5)) ((pm_up (pm_up H4.1 55 37 ((H4.1 55 37) + (1 : Int32))) 55 38 x5), H4.2))))))))) : pm_R (d + 1) M_Mo_thursday [.ref 55] H Q :=
  pm_walk (n := 22) ok_Mo_thursday tk_Mo_thursday rfl (Nat.le_of_ble_eq_true rfl) (show pm_R d M_Mo_begins1 [.ref 55] H (pm_v (fun H1 => pm_R d M_Mo_rightSet [.ref 55] H1 (pm_i (fun x3 H2 => pm_R d M_Mo_bitsOf [.int x3] H2 (pm_i (fun x5 H4 => (x5 ≤ (H4.1 55 38) → Q (some (.int x5)) ((pm_up (pm_up H4.1 55 37 ((H4.1 55 37) + (1 : Int32))) 55 38 (H4.1 55 38)), H4.2)) ∧ (¬ x5 ≤ (H4.1 55 38) → Q (some (.int x5)) ((pm_up (pm_up H4.1 55 37 ((H4.1 55 37) + (1 : Int32))) 55 38 x5), H4.2)))))))) from pm_mv' h (fun H1 z1 => pm_mi z1 (fun x3 H2 z2 => pm_mi z2 (fun x5 H4 z3 => ⟨fun q4 => (z3.1 q4), fun q4 => (z3.2 q4)⟩))))
def T_Mo_led : List pmE := [
  (0, [], .iload 1, 0, 0, 0),
  (1, [], .lookupswitch 61 #[(0, 36), (1, 41), (2, 46), (3, 51), (4, 56)], 1, 35, 0),
  (36, [], .aload 0, 0, 0, 0),
  (37, [], .getfield 610, 0, 327, 1012),
  (40, [], .ireturn, 0, 0, 0),
  (41, [], .aload 0, 0, 0, 0),
  (42, [], .getfield 611, 0, 330, 1013),
  (45, [], .ireturn, 0, 0, 0),
  (46, [], .aload 0, 0, 0, 0),
  (47, [], .getfield 612, 0, 333, 1014),
  (50, [], .ireturn, 0, 0, 0),
  (51, [], .aload 0, 0, 0, 0),
  (52, [], .getfield 613, 0, 336, 1015),
  (55, [], .ireturn, 0, 0, 0),
  (56, [], .aload 0, 0, 0, 0),
  (57, [], .getfield 614, 0, 339, 1016),
  (60, [], .ireturn, 0, 0, 0),
  (61, [], .iconst (-1), 0, 0, 0),
  (62, [], .ireturn, 0, 0, 0)]
theorem tk_Mo_led : pm_okT M_Mo_led T_Mo_led = true := by decide +kernel
theorem ok_Mo_led : pm_okm M_Mo_led := pm_okm_of _ 1459 85 1457 1458 (by decide +kernel)
set_option maxRecDepth 100000 in
set_option maxHeartbeats 4000000 in
theorem m_Mo_led {d : Nat} {H : pmT} {Q : pmQ} (a1 : Int32)
    (h : (a1 = (0 : Int32) → Q (some (.int (H.1 55 34))) H) ∧ (¬ a1 = (0 : Int32) → (a1 = (1 : Int32) → Q (some (.int (H.1 55 35))) H) ∧ (¬ a1 = (1 : Int32) → (a1 = (2 : Int32) → Q (some (.int (H.1 55 36))) H) ∧ (¬ a1 = (2 : Int32) → (a1 = (3 : Int32) → Q (some (.int (H.1 55 37))) H) ∧ (¬ a1 = (3 : Int32) → (a1 = (4 : Int32) → Q (some (.int (H.1 55 38))) H) ∧ (¬ a1 = (4 : Int32) → Q (some (.int (-1 : Int32))) H)))))) : pm_R d M_Mo_led [.ref 55, .int a1] H Q :=
  pm_walk (n := 5) ok_Mo_led tk_Mo_led rfl (Nat.le_of_ble_eq_true rfl) (show (a1 = (0 : Int32) → Q (some (.int (H.1 55 34))) H) ∧ (¬ a1 = (0 : Int32) → (a1 = (1 : Int32) → Q (some (.int (H.1 55 35))) H) ∧ (¬ a1 = (1 : Int32) → (a1 = (2 : Int32) → Q (some (.int (H.1 55 36))) H) ∧ (¬ a1 = (2 : Int32) → (a1 = (3 : Int32) → Q (some (.int (H.1 55 37))) H) ∧ (¬ a1 = (3 : Int32) → (a1 = (4 : Int32) → Q (some (.int (H.1 55 38))) H) ∧ (¬ a1 = (4 : Int32) → Q (some (.int (-1 : Int32))) H))))) from ⟨fun q1 => (h.1 q1), fun q1 => ⟨fun q2 => ((h.2 q1).1 q2), fun q2 => ⟨fun q3 => (((h.2 q1).2 q2).1 q3), fun q3 => ⟨fun q4 => ((((h.2 q1).2 q2).2 q3).1 q4), fun q4 => ⟨fun q5 => (((((h.2 q1).2 q2).2 q3).2 q4).1 q5), fun q5 => (((((h.2 q1).2 q2).2 q3).2 q4).2 q5)⟩⟩⟩⟩⟩)
def T_Mo_image : List pmE := [
  (0, [], .aload 0, 0, 0, 0),
  (1, [], .iconst 1, 0, 0, 0),
  (2, [], .putfield 615, 0, 342, 1017),
  (5, [], .aload 0, 0, 0, 0),
  (6, [], .aload 0, 0, 0, 0),
  (7, [], .getfield 582, 0, 111, 984),
  (10, [], .putfield 616, 0, 346, 1018),
  (13, [], .iconst 0, 0, 0, 0),
  (14, [], .istore 1, 0, 0, 0),
  (15, [0, 1], .iload 1, 0, 0, 0),
  (16, [], .aload 0, 0, 0, 0),
  (17, [], .getfield 582, 0, 111, 984),
  (20, [], .if_icmp .ge 94, 0, 0, 0),
  (23, [], .aload 0, 0, 0, 0),
  (24, [], .getfield 617, 0, 79, 1019),
  (27, [], .iconst 4, 0, 0, 0),
  (28, [], .iload 1, 0, 0, 0),
  (29, [], .imul, 0, 0, 0),
  (30, [], .aload 0, 0, 0, 0),
  (31, [], .getfield 576, 0, 11, 978),
  (34, [], .iload 1, 0, 0, 0),
  (35, [], .iaload, 0, 0, 0),
  (36, [], .iastore, 0, 0, 0),
  (37, [], .aload 0, 0, 0, 0),
  (38, [], .getfield 617, 0, 79, 1019),
  (41, [], .iconst 4, 0, 0, 0),
  (42, [], .iload 1, 0, 0, 0),
  (43, [], .imul, 0, 0, 0),
  (44, [], .iconst 1, 0, 0, 0),
  (45, [], .iadd, 0, 0, 0),
  (46, [], .aload 0, 0, 0, 0),
  (47, [], .getfield 576, 0, 11, 978),
  (50, [], .iconst 12, 1, 0, 0),
  (52, [], .iload 1, 0, 0, 0),
  (53, [], .iadd, 0, 0, 0),
  (54, [], .iaload, 0, 0, 0),
  (55, [], .iastore, 0, 0, 0),
  (56, [], .aload 0, 0, 0, 0),
  (57, [], .getfield 617, 0, 79, 1019),
  (60, [], .iconst 4, 0, 0, 0),
  (61, [], .iload 1, 0, 0, 0),
  (62, [], .imul, 0, 0, 0),
  (63, [], .iconst 2, 0, 0, 0),
  (64, [], .iadd, 0, 0, 0),
  (65, [], .aload 0, 0, 0, 0),
  (66, [], .getfield 583, 0, 24, 985),
  (69, [], .iload 1, 0, 0, 0),
  (70, [], .iaload, 0, 0, 0),
  (71, [], .iastore, 0, 0, 0),
  (72, [], .aload 0, 0, 0, 0),
  (73, [], .getfield 617, 0, 79, 1019),
  (76, [], .iconst 4, 0, 0, 0),
  (77, [], .iload 1, 0, 0, 0),
  (78, [], .imul, 0, 0, 0),
  (79, [], .iconst 3, 0, 0, 0),
  (80, [], .iadd, 0, 0, 0),
  (81, [], .aload 0, 0, 0, 0),
  (82, [], .getfield 584, 0, 27, 986),
  (85, [], .iload 1, 0, 0, 0),
  (86, [], .iaload, 0, 0, 0),
  (87, [], .iastore, 0, 0, 0),
  (88, [], .iinc 1 1, 0, 0, 0),
  (91, [], .goto 15, 0, 0, 0),
  (94, [], .iconst 0, 0, 0, 0),
  (95, [], .istore 1, 0, 0, 0),
  (96, [0, 1], .iload 1, 0, 0, 0),
  (97, [], .iconst 5, 0, 0, 0),
  (98, [], .if_icmp .ge 121, 0, 0, 0),
  (101, [], .aload 0, 0, 0, 0),
  (102, [], .getfield 617, 0, 79, 1019),
  (105, [], .iconst 48, 1, 0, 0),
  (107, [], .iload 1, 0, 0, 0),
  (108, [], .iadd, 0, 0, 0),
  (109, [], .aload 0, 0, 0, 0),
  (110, [], .iload 1, 0, 0, 0),
  (111, [], .invokeinterface 221 649, 0, 349, 1464),
  (114, [], .iastore, 0, 0, 0),
  (115, [], .iinc 1 1, 0, 0, 0),
  (118, [], .goto 96, 0, 0, 0),
  (121, [], .aload 0, 0, 0, 0),
  (122, [], .getfield 610, 0, 327, 1012),
  (125, [], .ireturn, 0, 0, 0)]
theorem tk_Mo_image : pm_okT M_Mo_image T_Mo_image = true := by decide +kernel
theorem ok_Mo_image : pm_okm M_Mo_image := pm_okm_of _ 1463 85 1461 1462 (by decide +kernel)
set_option maxRecDepth 100000 in
set_option maxHeartbeats 4000000 in
theorem m_Mo_image {d : Nat} {H : pmT} {Q : pmQ} 
    (h : pm_RW none (d + 1) M_Mo_image Q 15 [(0, .ref 55), (1, .int (0 : Int32))] [] ((pm_up (pm_up H.1 55 39 (1 : Int32)) 55 40 (H.1 55 6)), H.2)) : pm_R (d + 1) M_Mo_image [.ref 55] H Q :=
  pm_walk (n := 10) ok_Mo_image tk_Mo_image rfl (Nat.le_of_ble_eq_true rfl) (show ((1 : Int32) = 0 ∨ (1 : Int32) = 1) ∧ (pm_RW none (d + 1) M_Mo_image Q 15 [(0, .ref 55), (1, .int (0 : Int32))] [] ((pm_up (pm_up H.1 55 39 (1 : Int32)) 55 40 (H.1 55 6)), H.2)) from ⟨Or.inr rfl, h⟩)
set_option maxRecDepth 100000 in
set_option maxHeartbeats 4000000 in
theorem b_Mo_image_15 {d : Nat} {H : pmT} {Q : pmQ} (v1 : Int32)
    (h : ((H.1 55 6) ≤ v1 → pm_RW none (d + 1) M_Mo_image Q 96 [(0, .ref 55), (1, .int (0 : Int32))] [] H) ∧ (¬ (H.1 55 6) ≤ v1 → vp_in v1 41 ∧ (vp_in ((4 : Int32) * v1) 53 ∧ (vp_in ((12 : Int32) + v1) 41 ∧ (vp_in (((4 : Int32) * v1) + (1 : Int32)) 53 ∧ (vp_in v1 12 ∧ (vp_in (((4 : Int32) * v1) + (2 : Int32)) 53 ∧ (vp_in (((4 : Int32) * v1) + (3 : Int32)) 53 ∧ (pm_RW none (d + 1) M_Mo_image Q 15 [(0, .ref 55), (1, .int (v1 + (1 : Int32)))] [] ((pm_up (pm_up (pm_up (pm_up H.1 78 (((4 : Int32) * v1).toNatClampNeg) (H.1 56 v1.toNatClampNeg)) 78 ((((4 : Int32) * v1) + (1 : Int32)).toNatClampNeg) (H.1 56 (((12 : Int32) + v1).toNatClampNeg))) 78 ((((4 : Int32) * v1) + (2 : Int32)).toNatClampNeg) (H.1 60 v1.toNatClampNeg)) 78 ((((4 : Int32) * v1) + (3 : Int32)).toNatClampNeg) (H.1 61 v1.toNatClampNeg)), H.2)))))))))) : pm_RW none (d + 1) M_Mo_image Q 15 [(0, .ref 55), (1, .int v1)] [] H :=
  pm_body tk_Mo_image 54 15 (show ((H.1 55 6) ≤ v1 → pm_RW none (d + 1) M_Mo_image Q 96 [(0, .ref 55), (1, .int (0 : Int32))] [] H) ∧ (¬ (H.1 55 6) ≤ v1 → vp_in v1 41 ∧ (vp_in ((4 : Int32) * v1) 53 ∧ (vp_in ((12 : Int32) + v1) 41 ∧ (vp_in (((4 : Int32) * v1) + (1 : Int32)) 53 ∧ (vp_in v1 12 ∧ (vp_in (((4 : Int32) * v1) + (2 : Int32)) 53 ∧ (vp_in v1 12 ∧ (vp_in (((4 : Int32) * v1) + (3 : Int32)) 53 ∧ (pm_RW none (d + 1) M_Mo_image Q 15 [(0, .ref 55), (1, .int (v1 + (1 : Int32)))] [] ((pm_up (pm_up (pm_up (pm_up H.1 78 (((4 : Int32) * v1).toNatClampNeg) (H.1 56 v1.toNatClampNeg)) 78 ((((4 : Int32) * v1) + (1 : Int32)).toNatClampNeg) (H.1 56 (((12 : Int32) + v1).toNatClampNeg))) 78 ((((4 : Int32) * v1) + (2 : Int32)).toNatClampNeg) (H.1 60 v1.toNatClampNeg)) 78 ((((4 : Int32) * v1) + (3 : Int32)).toNatClampNeg) (H.1 61 v1.toNatClampNeg)), H.2)))))))))) from ⟨fun q1 => (h.1 q1), fun q1 => ⟨(h.2 q1).1, ⟨(h.2 q1).2.1, ⟨(h.2 q1).2.2.1, ⟨(h.2 q1).2.2.2.1, ⟨(h.2 q1).2.2.2.2.1, ⟨(h.2 q1).2.2.2.2.2.1, ⟨(h.2 q1).2.2.2.2.1, ⟨(h.2 q1).2.2.2.2.2.2.1, (h.2 q1).2.2.2.2.2.2.2⟩⟩⟩⟩⟩⟩⟩⟩⟩)
set_option maxRecDepth 100000 in
set_option maxHeartbeats 4000000 in
theorem b_Mo_image_96 {d : Nat} {H : pmT} {Q : pmQ} (v1 : Int32)
    (h : ((5 : Int32) ≤ v1 → Q (some (.int (H.1 55 34))) H) ∧ (¬ (5 : Int32) ≤ v1 → pm_R d M_Mo_led [.ref 55, .int v1] H (pm_i (fun x2 H1 => vp_in ((48 : Int32) + v1) 53 ∧ (pm_RW none (d + 1) M_Mo_image Q 96 [(0, .ref 55), (1, .int (v1 + (1 : Int32)))] [] ((pm_up H1.1 78 (((48 : Int32) + v1).toNatClampNeg) x2), H1.2)))))) : pm_RW none (d + 1) M_Mo_image Q 96 [(0, .ref 55), (1, .int v1)] [] H :=
  pm_body tk_Mo_image 14 96 (show ((5 : Int32) ≤ v1 → Q (some (.int (H.1 55 34))) H) ∧ (¬ (5 : Int32) ≤ v1 → pm_R d M_Mo_led [.ref 55, .int v1] H (pm_i (fun x2 H1 => vp_in ((48 : Int32) + v1) 53 ∧ (pm_RW none (d + 1) M_Mo_image Q 96 [(0, .ref 55), (1, .int (v1 + (1 : Int32)))] [] ((pm_up H1.1 78 (((48 : Int32) + v1).toNatClampNeg) x2), H1.2))))) from ⟨fun q1 => (h.1 q1), fun q1 => pm_mi (h.2 q1) (fun x2 H1 z2 => ⟨z2.1, z2.2⟩)⟩)
def T_Mo_back : List pmE := [
  (0, [], .aload 0, 0, 0, 0),
  (1, [], .getfield 615, 0, 342, 1017),
  (4, [], .ifCond .ne 10, 0, 0, 0),
  (7, [], .iconst (-5), 1, 0, 0),
  (9, [], .ireturn, 0, 0, 0),
  (10, [], .iconst 0, 0, 0, 0),
  (11, [], .istore 1, 0, 0, 0),
  (12, [0, 1], .iload 1, 0, 0, 0),
  (13, [], .aload 0, 0, 0, 0),
  (14, [], .getfield 616, 0, 346, 1018),
  (17, [], .if_icmp .ge 91, 0, 0, 0),
  (20, [], .aload 0, 0, 0, 0),
  (21, [], .getfield 576, 0, 11, 978),
  (24, [], .iload 1, 0, 0, 0),
  (25, [], .aload 0, 0, 0, 0),
  (26, [], .getfield 617, 0, 79, 1019),
  (29, [], .iconst 4, 0, 0, 0),
  (30, [], .iload 1, 0, 0, 0),
  (31, [], .imul, 0, 0, 0),
  (32, [], .iaload, 0, 0, 0),
  (33, [], .iastore, 0, 0, 0),
  (34, [], .aload 0, 0, 0, 0),
  (35, [], .getfield 576, 0, 11, 978),
  (38, [], .iconst 12, 1, 0, 0),
  (40, [], .iload 1, 0, 0, 0),
  (41, [], .iadd, 0, 0, 0),
  (42, [], .aload 0, 0, 0, 0),
  (43, [], .getfield 617, 0, 79, 1019),
  (46, [], .iconst 4, 0, 0, 0),
  (47, [], .iload 1, 0, 0, 0),
  (48, [], .imul, 0, 0, 0),
  (49, [], .iconst 1, 0, 0, 0),
  (50, [], .iadd, 0, 0, 0),
  (51, [], .iaload, 0, 0, 0),
  (52, [], .iastore, 0, 0, 0),
  (53, [], .aload 0, 0, 0, 0),
  (54, [], .getfield 583, 0, 24, 985),
  (57, [], .iload 1, 0, 0, 0),
  (58, [], .aload 0, 0, 0, 0),
  (59, [], .getfield 617, 0, 79, 1019),
  (62, [], .iconst 4, 0, 0, 0),
  (63, [], .iload 1, 0, 0, 0),
  (64, [], .imul, 0, 0, 0),
  (65, [], .iconst 2, 0, 0, 0),
  (66, [], .iadd, 0, 0, 0),
  (67, [], .iaload, 0, 0, 0),
  (68, [], .iastore, 0, 0, 0),
  (69, [], .aload 0, 0, 0, 0),
  (70, [], .getfield 584, 0, 27, 986),
  (73, [], .iload 1, 0, 0, 0),
  (74, [], .aload 0, 0, 0, 0),
  (75, [], .getfield 617, 0, 79, 1019),
  (78, [], .iconst 4, 0, 0, 0),
  (79, [], .iload 1, 0, 0, 0),
  (80, [], .imul, 0, 0, 0),
  (81, [], .iconst 3, 0, 0, 0),
  (82, [], .iadd, 0, 0, 0),
  (83, [], .iaload, 0, 0, 0),
  (84, [], .iastore, 0, 0, 0),
  (85, [], .iinc 1 1, 0, 0, 0),
  (88, [], .goto 12, 0, 0, 0),
  (91, [], .aload 0, 0, 0, 0),
  (92, [], .aload 0, 0, 0, 0),
  (93, [], .getfield 617, 0, 79, 1019),
  (96, [], .iconst 48, 1, 0, 0),
  (98, [], .iaload, 0, 0, 0),
  (99, [], .putfield 610, 0, 327, 1012),
  (102, [], .aload 0, 0, 0, 0),
  (103, [], .aload 0, 0, 0, 0),
  (104, [], .getfield 617, 0, 79, 1019),
  (107, [], .iconst 49, 1, 0, 0),
  (109, [], .iaload, 0, 0, 0),
  (110, [], .putfield 611, 0, 330, 1013),
  (113, [], .aload 0, 0, 0, 0),
  (114, [], .aload 0, 0, 0, 0),
  (115, [], .getfield 617, 0, 79, 1019),
  (118, [], .iconst 50, 1, 0, 0),
  (120, [], .iaload, 0, 0, 0),
  (121, [], .putfield 612, 0, 333, 1014),
  (124, [], .aload 0, 0, 0, 0),
  (125, [], .aload 0, 0, 0, 0),
  (126, [], .getfield 617, 0, 79, 1019),
  (129, [], .iconst 51, 1, 0, 0),
  (131, [], .iaload, 0, 0, 0),
  (132, [], .putfield 613, 0, 336, 1015),
  (135, [], .aload 0, 0, 0, 0),
  (136, [], .aload 0, 0, 0, 0),
  (137, [], .getfield 617, 0, 79, 1019),
  (140, [], .iconst 52, 1, 0, 0),
  (142, [], .iaload, 0, 0, 0),
  (143, [], .putfield 614, 0, 339, 1016),
  (146, [], .aload 0, 0, 0, 0),
  (147, [], .getfield 610, 0, 327, 1012),
  (150, [], .ireturn, 0, 0, 0)]
theorem tk_Mo_back : pm_okT M_Mo_back T_Mo_back = true := by decide +kernel
theorem ok_Mo_back : pm_okm M_Mo_back := pm_okm_of _ 1468 85 1466 1467 (by decide +kernel)
set_option maxRecDepth 100000 in
set_option maxHeartbeats 4000000 in
theorem m_Mo_back {d : Nat} {H : pmT} {Q : pmQ} 
    (h : (¬ (H.1 55 39) = 0 → pm_RW none d M_Mo_back Q 12 [(0, .ref 55), (1, .int (0 : Int32))] [] H) ∧ ((H.1 55 39) = 0 → Q (some (.int (-5 : Int32))) H)) : pm_R d M_Mo_back [.ref 55] H Q :=
  pm_walk (n := 6) ok_Mo_back tk_Mo_back rfl (Nat.le_of_ble_eq_true rfl) (show (¬ (H.1 55 39) = 0 → pm_RW none d M_Mo_back Q 12 [(0, .ref 55), (1, .int (0 : Int32))] [] H) ∧ ((H.1 55 39) = 0 → Q (some (.int (-5 : Int32))) H) from ⟨fun q1 => (h.1 q1), fun q1 => (h.2 q1)⟩)
set_option maxRecDepth 100000 in
set_option maxHeartbeats 4000000 in
theorem b_Mo_back_12 {d : Nat} {H : pmT} {Q : pmQ} (v1 : Int32)
    (h : ((H.1 55 40) ≤ v1 → Q (some (.int (H.1 78 48))) ((pm_up (pm_up (pm_up (pm_up (pm_up H.1 55 34 (H.1 78 48)) 55 35 (H.1 78 49)) 55 36 (H.1 78 50)) 55 37 (H.1 78 51)) 55 38 (H.1 78 52)), H.2)) ∧ (¬ (H.1 55 40) ≤ v1 → vp_in ((4 : Int32) * v1) 53 ∧ (vp_in v1 41 ∧ (vp_in (((4 : Int32) * v1) + (1 : Int32)) 53 ∧ (vp_in ((12 : Int32) + v1) 41 ∧ (vp_in (((4 : Int32) * v1) + (2 : Int32)) 53 ∧ (vp_in v1 12 ∧ (vp_in (((4 : Int32) * v1) + (3 : Int32)) 53 ∧ (pm_RW none d M_Mo_back Q 12 [(0, .ref 55), (1, .int (v1 + (1 : Int32)))] [] ((pm_up (pm_up (pm_up (pm_up H.1 56 v1.toNatClampNeg (H.1 78 (((4 : Int32) * v1).toNatClampNeg))) 56 (((12 : Int32) + v1).toNatClampNeg) (H.1 78 ((((4 : Int32) * v1) + (1 : Int32)).toNatClampNeg))) 60 v1.toNatClampNeg (H.1 78 ((((4 : Int32) * v1) + (2 : Int32)).toNatClampNeg))) 61 v1.toNatClampNeg (H.1 78 ((((4 : Int32) * v1) + (3 : Int32)).toNatClampNeg))), H.2)))))))))) : pm_RW none d M_Mo_back Q 12 [(0, .ref 55), (1, .int v1)] [] H :=
  pm_body tk_Mo_back 54 12 (show ((H.1 55 40) ≤ v1 → vp_in (48 : Int32) 53 ∧ (vp_in (49 : Int32) 53 ∧ (vp_in (50 : Int32) 53 ∧ (vp_in (51 : Int32) 53 ∧ (vp_in (52 : Int32) 53 ∧ (Q (some (.int (H.1 78 48))) ((pm_up (pm_up (pm_up (pm_up (pm_up H.1 55 34 (H.1 78 48)) 55 35 (H.1 78 49)) 55 36 (H.1 78 50)) 55 37 (H.1 78 51)) 55 38 (H.1 78 52)), H.2))))))) ∧ (¬ (H.1 55 40) ≤ v1 → vp_in ((4 : Int32) * v1) 53 ∧ (vp_in v1 41 ∧ (vp_in (((4 : Int32) * v1) + (1 : Int32)) 53 ∧ (vp_in ((12 : Int32) + v1) 41 ∧ (vp_in (((4 : Int32) * v1) + (2 : Int32)) 53 ∧ (vp_in v1 12 ∧ (vp_in (((4 : Int32) * v1) + (3 : Int32)) 53 ∧ (vp_in v1 12 ∧ (pm_RW none d M_Mo_back Q 12 [(0, .ref 55), (1, .int (v1 + (1 : Int32)))] [] ((pm_up (pm_up (pm_up (pm_up H.1 56 v1.toNatClampNeg (H.1 78 (((4 : Int32) * v1).toNatClampNeg))) 56 (((12 : Int32) + v1).toNatClampNeg) (H.1 78 ((((4 : Int32) * v1) + (1 : Int32)).toNatClampNeg))) 60 v1.toNatClampNeg (H.1 78 ((((4 : Int32) * v1) + (2 : Int32)).toNatClampNeg))) 61 v1.toNatClampNeg (H.1 78 ((((4 : Int32) * v1) + (3 : Int32)).toNatClampNeg))), H.2)))))))))) from ⟨fun q1 => ⟨(pm_ik rfl), ⟨(pm_ik rfl), ⟨(pm_ik rfl), ⟨(pm_ik rfl), ⟨(pm_ik rfl), (h.1 q1)⟩⟩⟩⟩⟩, fun q1 => ⟨(h.2 q1).1, ⟨(h.2 q1).2.1, ⟨(h.2 q1).2.2.1, ⟨(h.2 q1).2.2.2.1, ⟨(h.2 q1).2.2.2.2.1, ⟨(h.2 q1).2.2.2.2.2.1, ⟨(h.2 q1).2.2.2.2.2.2.1, ⟨(h.2 q1).2.2.2.2.2.1, (h.2 q1).2.2.2.2.2.2.2⟩⟩⟩⟩⟩⟩⟩⟩⟩)
def T_Mo_body : List pmE := [
  (0, [], .iload 1, 0, 0, 0),
  (1, [], .i2l, 0, 0, 0),
  (2, [], .jsr 0, 0, 0, 0),
  (3, [], .jsr 7, 1, 142, 1182),
  (6, [], .invokeinterface 143 13, 1, 114, 1152),
  (9, [], .ifCond .ne 14, 0, 0, 0),
  (12, [], .iconst (-1), 0, 0, 0),
  (13, [], .ireturn, 0, 0, 0),
  (14, [], .aload 0, 0, 0, 0),
  (15, [], .getfield 618, 0, 352, 1020),
  (18, [], .iconst 50, 1, 0, 0),
  (20, [], .if_icmp .ne 26, 0, 0, 0),
  (23, [], .iconst (-3), 1, 0, 0),
  (25, [], .ireturn, 0, 0, 0),
  (26, [], .aload 0, 0, 0, 0),
  (27, [], .getfield 619, 0, 82, 1021),
  (30, [], .aload 0, 0, 0, 0),
  (31, [], .getfield 618, 0, 352, 1020),
  (34, [], .iload 1, 0, 0, 0),
  (35, [], .iastore, 0, 0, 0),
  (36, [], .aload 0, 0, 0, 0),
  (37, [], .dup, 0, 0, 0),
  (38, [], .getfield 618, 0, 352, 1020),
  (41, [], .iconst 1, 0, 0, 0),
  (42, [], .iadd, 0, 0, 0),
  (43, [], .putfield 618, 0, 352, 1020),
  (46, [], .aload 0, 0, 0, 0),
  (47, [], .getfield 618, 0, 352, 1020),
  (50, [], .iconst 1, 0, 0, 0),
  (51, [], .isub, 0, 0, 0),
  (52, [], .ireturn, 0, 0, 0)]
theorem tk_Mo_body : pm_okT M_Mo_body T_Mo_body = true := by decide +kernel
theorem ok_Mo_body : pm_okm M_Mo_body := pm_okm_of _ 1472 85 1470 1471 (by decide +kernel)
set_option maxRecDepth 100000 in
set_option maxHeartbeats 4000000 in
theorem m_Mo_body {d : Nat} {H : pmT} {Q : pmQ} (a1 : Int32)
    (h : ((lg_cmp a1.toInt64 (0 : Int64)) < 0 → Q (some (.int (-1 : Int32))) H) ∧ (¬ (lg_cmp a1.toInt64 (0 : Int64)) < 0 → (0 < (lg_cmp a1.toInt64 (7 : Int64)) → Q (some (.int (-1 : Int32))) H) ∧ (¬ 0 < (lg_cmp a1.toInt64 (7 : Int64)) → (¬ (H.1 55 42) = (50 : Int32) → vp_in (H.1 55 42) 50 ∧ (Q (some (.int (((H.1 55 42) + (1 : Int32)) - (1 : Int32)))) ((pm_up (pm_up H.1 79 ((H.1 55 42).toNatClampNeg) a1) 55 42 ((H.1 55 42) + (1 : Int32))), H.2))) ∧ ((H.1 55 42) = (50 : Int32) → Q (some (.int (-3 : Int32))) H)))) : pm_R (d + 1) M_Mo_body [.ref 55, .int a1] H Q :=
  pm_walk (n := 27) ok_Mo_body tk_Mo_body rfl (Nat.le_of_ble_eq_true rfl) (show pm_R d M_Mo_within [.long a1.toInt64, .long (0 : Int64), .long (7 : Int64)] H (pm_i (fun x2 H1 => (¬ x2 = 0 → (¬ (H1.1 55 42) = (50 : Int32) → vp_in (H1.1 55 42) 50 ∧ (Q (some (.int (((H1.1 55 42) + (1 : Int32)) - (1 : Int32)))) ((pm_up (pm_up H1.1 79 ((H1.1 55 42).toNatClampNeg) a1) 55 42 ((H1.1 55 42) + (1 : Int32))), H1.2))) ∧ ((H1.1 55 42) = (50 : Int32) → Q (some (.int (-3 : Int32))) H1)) ∧ (x2 = 0 → Q (some (.int (-1 : Int32))) H1))) from u_Mo_within a1.toInt64 (0 : Int64) (7 : Int64) (⟨fun q1 => ⟨Or.inl rfl, ⟨fun z => absurd (by decide) z, fun _ => (h.1 q1)⟩⟩, fun q1 => ⟨fun q2 => ⟨Or.inl rfl, ⟨fun z => absurd (by decide) z, fun _ => ((h.2 q1).1 q2)⟩⟩, fun q2 => ⟨Or.inr rfl, ⟨fun _ => ⟨fun q3 => ⟨(((h.2 q1).2 q2).1 q3).1, (((h.2 q1).2 q2).1 q3).2⟩, fun q3 => (((h.2 q1).2 q2).2 q3)⟩, fun z => absurd z (by decide)⟩⟩⟩⟩))
def T_Mo_above : List pmE := [
  (0, [], .iload 0, 0, 0, 0),
  (1, [], .iconst 3, 0, 0, 0),
  (2, [], .if_icmp .ne 9, 0, 0, 0),
  (5, [], .iconst 2, 0, 0, 0),
  (6, [], .goto 38, 0, 0, 0),
  (9, [], .iload 0, 0, 0, 0),
  (10, [], .iconst 4, 0, 0, 0),
  (11, [], .if_icmp .ne 18, 0, 0, 0),
  (14, [], .iconst 1, 0, 0, 0),
  (15, [], .goto 38, 0, 0, 0),
  (18, [], .iload 0, 0, 0, 0),
  (19, [], .iconst 5, 0, 0, 0),
  (20, [], .if_icmp .ne 27, 0, 0, 0),
  (23, [], .iconst 3, 0, 0, 0),
  (24, [], .goto 38, 0, 0, 0),
  (27, [], .iload 0, 0, 0, 0),
  (28, [], .iconst 7, 1, 0, 0),
  (30, [], .if_icmp .ne 37, 0, 0, 0),
  (33, [], .iconst 4, 0, 0, 0),
  (34, [], .goto 38, 0, 0, 0),
  (37, [], .iconst 0, 0, 0, 0),
  (38, [], .ireturn, 0, 0, 0)]
theorem tk_Mo_above : pm_okT M_Mo_above T_Mo_above = true := by decide +kernel
theorem ok_Mo_above : pm_okm M_Mo_above := pm_okm_of _ 1542 85 1541 0 (by decide +kernel)
set_option maxRecDepth 100000 in
set_option maxHeartbeats 4000000 in
theorem m_Mo_above {d : Nat} {H : pmT} {Q : pmQ} (a1 : Int32)
    (h : (¬ a1 = (3 : Int32) → (¬ a1 = (4 : Int32) → (¬ a1 = (5 : Int32) → (¬ a1 = (7 : Int32) → Q (some (.int (0 : Int32))) H) ∧ (a1 = (7 : Int32) → Q (some (.int (4 : Int32))) H)) ∧ (a1 = (5 : Int32) → Q (some (.int (3 : Int32))) H)) ∧ (a1 = (4 : Int32) → Q (some (.int (1 : Int32))) H)) ∧ (a1 = (3 : Int32) → Q (some (.int (2 : Int32))) H)) : pm_R d M_Mo_above [.int a1] H Q :=
  pm_walk (n := 15) ok_Mo_above tk_Mo_above rfl (Nat.le_of_ble_eq_true rfl) (show (¬ a1 = (3 : Int32) → (¬ a1 = (4 : Int32) → (¬ a1 = (5 : Int32) → (¬ a1 = (7 : Int32) → Q (some (.int (0 : Int32))) H) ∧ (a1 = (7 : Int32) → Q (some (.int (4 : Int32))) H)) ∧ (a1 = (5 : Int32) → Q (some (.int (3 : Int32))) H)) ∧ (a1 = (4 : Int32) → Q (some (.int (1 : Int32))) H)) ∧ (a1 = (3 : Int32) → Q (some (.int (2 : Int32))) H) from ⟨fun q1 => ⟨fun q2 => ⟨fun q3 => ⟨fun q4 => ((((h.1 q1).1 q2).1 q3).1 q4), fun q4 => ((((h.1 q1).1 q2).1 q3).2 q4)⟩, fun q3 => (((h.1 q1).1 q2).2 q3)⟩, fun q2 => ((h.1 q1).2 q2)⟩, fun q1 => (h.2 q1)⟩)
def T_Mo_playsAs : List pmE := [
  (0, [], .iload 1, 0, 0, 0),
  (1, [], .iconst 1, 0, 0, 0),
  (2, [], .if_icmp .eq 16, 0, 0, 0),
  (5, [], .iload 1, 0, 0, 0),
  (6, [], .iconst 4, 0, 0, 0),
  (7, [], .if_icmp .eq 16, 0, 0, 0),
  (10, [], .iload 1, 0, 0, 0),
  (11, [], .iconst 7, 1, 0, 0),
  (13, [], .if_icmp .ne 31, 0, 0, 0),
  (16, [], .aload 0, 0, 0, 0),
  (17, [], .iconst 20, 1, 0, 0),
  (19, [], .invokeinterface 228 648, 0, 358, 1485),
  (22, [], .aload 0, 0, 0, 0),
  (23, [], .iconst 0, 0, 0, 0),
  (24, [], .iload 2, 0, 0, 0),
  (25, [], .invokeinterface 229 653, 0, 361, 1481),
  (28, [], .iconst 3, 0, 0, 0),
  (29, [], .iadd, 0, 0, 0),
  (30, [], .ireturn, 0, 0, 0),
  (31, [], .iload 1, 0, 0, 0),
  (32, [], .iconst 6, 1, 0, 0),
  (34, [], .if_icmp .ne 52, 0, 0, 0),
  (37, [], .aload 0, 0, 0, 0),
  (38, [], .iconst 70, 1, 0, 0),
  (40, [], .invokeinterface 228 648, 0, 358, 1485),
  (43, [], .aload 0, 0, 0, 0),
  (44, [], .iconst 0, 0, 0, 0),
  (45, [], .iload 2, 0, 0, 0),
  (46, [], .invokeinterface 229 653, 0, 361, 1481),
  (49, [], .iconst 2, 0, 0, 0),
  (50, [], .imul, 0, 0, 0),
  (51, [], .ireturn, 0, 0, 0),
  (52, [], .aload 0, 0, 0, 0),
  (53, [], .iconst 1, 0, 0, 0),
  (54, [], .invokeinterface 228 648, 0, 358, 1485),
  (57, [], .iload 2, 0, 0, 0),
  (58, [], .aload 0, 0, 0, 0),
  (59, [], .getfield 623, 0, 364, 1025),
  (62, [], .iadd, 0, 0, 0),
  (63, [], .ireturn, 0, 0, 0)]
theorem tk_Mo_playsAs : pm_okT M_Mo_playsAs T_Mo_playsAs = true := by decide +kernel
theorem ok_Mo_playsAs : pm_okm M_Mo_playsAs := pm_okm_of _ 1484 85 1483 68 (by decide +kernel)
set_option maxRecDepth 100000 in
set_option maxHeartbeats 4000000 in
theorem m_Mo_playsAs {d : Nat} {H : pmT} {Q : pmQ} (a1 : Int32) (a2 : Int32)
    (h : (a1 = (1 : Int32) → ((24 : Int32) ≤ (H.1 55 45) → pm_R d M_Mo_playsAs [.ref 55, .int (0 : Int32), .int a2] ((pm_up H.1 55 45 ((H.1 55 45) + (1 : Int32))), H.2) (pm_i (fun x2 H1 => Q (some (.int (x2 + (3 : Int32)))) H1))) ∧ (¬ (24 : Int32) ≤ (H.1 55 45) → vp_in (H.1 55 45) 24 ∧ (pm_R d M_Mo_playsAs [.ref 55, .int (0 : Int32), .int a2] ((pm_up (pm_up H.1 80 ((H.1 55 45).toNatClampNeg) (20 : Int32)) 55 45 ((H.1 55 45) + (1 : Int32))), H.2) (pm_i (fun x4 H3 => Q (some (.int (x4 + (3 : Int32)))) H3))))) ∧ (¬ a1 = (1 : Int32) → (a1 = (4 : Int32) → ((24 : Int32) ≤ (H.1 55 45) → pm_R d M_Mo_playsAs [.ref 55, .int (0 : Int32), .int a2] ((pm_up H.1 55 45 ((H.1 55 45) + (1 : Int32))), H.2) (pm_i (fun x6 H5 => Q (some (.int (x6 + (3 : Int32)))) H5))) ∧ (¬ (24 : Int32) ≤ (H.1 55 45) → vp_in (H.1 55 45) 24 ∧ (pm_R d M_Mo_playsAs [.ref 55, .int (0 : Int32), .int a2] ((pm_up (pm_up H.1 80 ((H.1 55 45).toNatClampNeg) (20 : Int32)) 55 45 ((H.1 55 45) + (1 : Int32))), H.2) (pm_i (fun x8 H7 => Q (some (.int (x8 + (3 : Int32)))) H7))))) ∧ (¬ a1 = (4 : Int32) → (¬ a1 = (7 : Int32) → (¬ a1 = (6 : Int32) → ((24 : Int32) ≤ (H.1 55 45) → Q (some (.int (a2 + (H.1 55 47)))) ((pm_up H.1 55 45 ((H.1 55 45) + (1 : Int32))), H.2)) ∧ (¬ (24 : Int32) ≤ (H.1 55 45) → vp_in (H.1 55 45) 24 ∧ (Q (some (.int (a2 + (H.1 55 47)))) ((pm_up (pm_up H.1 80 ((H.1 55 45).toNatClampNeg) (1 : Int32)) 55 45 ((H.1 55 45) + (1 : Int32))), H.2)))) ∧ (a1 = (6 : Int32) → ((24 : Int32) ≤ (H.1 55 45) → pm_R d M_Mo_playsAs [.ref 55, .int (0 : Int32), .int a2] ((pm_up H.1 55 45 ((H.1 55 45) + (1 : Int32))), H.2) (pm_i (fun x10 H9 => Q (some (.int (x10 * (2 : Int32)))) H9))) ∧ (¬ (24 : Int32) ≤ (H.1 55 45) → vp_in (H.1 55 45) 24 ∧ (pm_R d M_Mo_playsAs [.ref 55, .int (0 : Int32), .int a2] ((pm_up (pm_up H.1 80 ((H.1 55 45).toNatClampNeg) (70 : Int32)) 55 45 ((H.1 55 45) + (1 : Int32))), H.2) (pm_i (fun x12 H11 => Q (some (.int (x12 * (2 : Int32)))) H11)))))) ∧ (a1 = (7 : Int32) → ((24 : Int32) ≤ (H.1 55 45) → pm_R d M_Mo_playsAs [.ref 55, .int (0 : Int32), .int a2] ((pm_up H.1 55 45 ((H.1 55 45) + (1 : Int32))), H.2) (pm_i (fun x14 H13 => Q (some (.int (x14 + (3 : Int32)))) H13))) ∧ (¬ (24 : Int32) ≤ (H.1 55 45) → vp_in (H.1 55 45) 24 ∧ (pm_R d M_Mo_playsAs [.ref 55, .int (0 : Int32), .int a2] ((pm_up (pm_up H.1 80 ((H.1 55 45).toNatClampNeg) (20 : Int32)) 55 45 ((H.1 55 45) + (1 : Int32))), H.2) (pm_i (fun x16 H15 => Q (some (.int (x16 + (3 : Int32)))) H15)))))))) : pm_R (d + 1) M_Mo_playsAs [.ref 55, .int a1, .int a2] H Q :=
  pm_walk (n := 22) ok_Mo_playsAs tk_Mo_playsAs rfl (Nat.le_of_ble_eq_true rfl) (show (a1 = (1 : Int32) → pm_R d M_Mo_begins [.ref 55, .int (20 : Int32)] H (pm_v (fun H1 => pm_R d M_Mo_playsAs [.ref 55, .int (0 : Int32), .int a2] H1 (pm_i (fun x3 H2 => Q (some (.int (x3 + (3 : Int32)))) H2))))) ∧ (¬ a1 = (1 : Int32) → (a1 = (4 : Int32) → pm_R d M_Mo_begins [.ref 55, .int (20 : Int32)] H (pm_v (fun H4 => pm_R d M_Mo_playsAs [.ref 55, .int (0 : Int32), .int a2] H4 (pm_i (fun x6 H5 => Q (some (.int (x6 + (3 : Int32)))) H5))))) ∧ (¬ a1 = (4 : Int32) → (¬ a1 = (7 : Int32) → (¬ a1 = (6 : Int32) → pm_R d M_Mo_begins [.ref 55, .int (1 : Int32)] H (pm_v (fun H7 => Q (some (.int (a2 + (H7.1 55 47)))) H7))) ∧ (a1 = (6 : Int32) → pm_R d M_Mo_begins [.ref 55, .int (70 : Int32)] H (pm_v (fun H8 => pm_R d M_Mo_playsAs [.ref 55, .int (0 : Int32), .int a2] H8 (pm_i (fun x10 H9 => Q (some (.int (x10 * (2 : Int32)))) H9)))))) ∧ (a1 = (7 : Int32) → pm_R d M_Mo_begins [.ref 55, .int (20 : Int32)] H (pm_v (fun H11 => pm_R d M_Mo_playsAs [.ref 55, .int (0 : Int32), .int a2] H11 (pm_i (fun x13 H12 => Q (some (.int (x13 + (3 : Int32)))) H12))))))) from ⟨fun q1 => u_Mo_begins (20 : Int32) (⟨fun q2 => ((h.1 q1).1 q2), fun q2 => ⟨((h.1 q1).2 q2).1, ((h.1 q1).2 q2).2⟩⟩), fun q1 => ⟨fun q5 => u_Mo_begins (20 : Int32) (⟨fun q6 => (((h.2 q1).1 q5).1 q6), fun q6 => ⟨(((h.2 q1).1 q5).2 q6).1, (((h.2 q1).1 q5).2 q6).2⟩⟩), fun q5 => ⟨fun q9 => ⟨fun q10 => u_Mo_begins (1 : Int32) (⟨fun q11 => (((((h.2 q1).2 q5).1 q9).1 q10).1 q11), fun q11 => ⟨(((((h.2 q1).2 q5).1 q9).1 q10).2 q11).1, (((((h.2 q1).2 q5).1 q9).1 q10).2 q11).2⟩⟩), fun q10 => u_Mo_begins (70 : Int32) (⟨fun q12 => (((((h.2 q1).2 q5).1 q9).2 q10).1 q12), fun q12 => ⟨(((((h.2 q1).2 q5).1 q9).2 q10).2 q12).1, (((((h.2 q1).2 q5).1 q9).2 q10).2 q12).2⟩⟩)⟩, fun q9 => u_Mo_begins (20 : Int32) (⟨fun q15 => ((((h.2 q1).2 q5).2 q9).1 q15), fun q15 => ⟨((((h.2 q1).2 q5).2 q9).2 q15).1, ((((h.2 q1).2 q5).2 q9).2 q15).2⟩⟩)⟩⟩⟩)
def T_Mo_addsAs : List pmE := [
  (0, [], .iload 1, 0, 0, 0),
  (1, [], .iconst 3, 0, 0, 0),
  (2, [], .if_icmp .eq 10, 0, 0, 0),
  (5, [], .iload 1, 0, 0, 0),
  (6, [], .iconst 5, 0, 0, 0),
  (7, [], .if_icmp .ne 25, 0, 0, 0),
  (10, [], .aload 0, 0, 0, 0),
  (11, [], .iconst 41, 1, 0, 0),
  (13, [], .invokeinterface 228 648, 0, 358, 1485),
  (16, [], .aload 0, 0, 0, 0),
  (17, [], .iconst 2, 0, 0, 0),
  (18, [], .iload 2, 0, 0, 0),
  (19, [], .iconst 1, 0, 0, 0),
  (20, [], .iadd, 0, 0, 0),
  (21, [], .invokeinterface 230 653, 0, 367, 1489),
  (24, [], .ireturn, 0, 0, 0),
  (25, [], .iload 1, 0, 0, 0),
  (26, [], .iconst 2, 0, 0, 0),
  (27, [], .if_icmp .ne 44, 0, 0, 0),
  (30, [], .aload 0, 0, 0, 0),
  (31, [], .iconst 30, 1, 0, 0),
  (33, [], .invokeinterface 228 648, 0, 358, 1485),
  (36, [], .aload 0, 0, 0, 0),
  (37, [], .iconst 0, 0, 0, 0),
  (38, [], .iload 2, 0, 0, 0),
  (39, [], .invokeinterface 230 653, 0, 367, 1489),
  (42, [], .ineg, 0, 0, 0),
  (43, [], .ireturn, 0, 0, 0),
  (44, [], .iload 1, 0, 0, 0),
  (45, [], .iconst 7, 1, 0, 0),
  (47, [], .if_icmp .ne 75, 0, 0, 0),
  (50, [], .aload 0, 0, 0, 0),
  (51, [], .iconst 80, 1, 0, 0),
  (53, [], .invokeinterface 228 648, 0, 358, 1485),
  (56, [], .aload 0, 0, 0, 0),
  (57, [], .iconst 4, 0, 0, 0),
  (58, [], .iload 2, 0, 0, 0),
  (59, [], .invokeinterface 230 653, 0, 367, 1489),
  (62, [], .istore 3, 0, 0, 0),
  (63, [], .iload 3, 0, 0, 0),
  (64, [], .aload 0, 0, 0, 0),
  (65, [], .aload 0, 0, 0, 0),
  (66, [], .getfield 622, 0, 370, 1024),
  (69, [], .iconst 2, 0, 0, 0),
  (70, [], .invokeinterface 231 653, 0, 373, 1493),
  (73, [], .iadd, 0, 0, 0),
  (74, [], .ireturn, 0, 0, 0),
  (75, [], .aload 0, 0, 0, 0),
  (76, [], .iconst 10, 1, 0, 0),
  (78, [], .invokeinterface 228 648, 0, 358, 1485),
  (81, [], .aload 0, 0, 0, 0),
  (82, [], .aload 0, 0, 0, 0),
  (83, [], .getfield 622, 0, 370, 1024),
  (86, [], .iload 2, 0, 0, 0),
  (87, [], .invokeinterface 229 653, 0, 361, 1481),
  (90, [], .iconst 2, 0, 0, 0),
  (91, [], .imul, 0, 0, 0),
  (92, [], .ireturn, 0, 0, 0)]
theorem tk_Mo_addsAs : pm_okT M_Mo_addsAs T_Mo_addsAs = true := by decide +kernel
theorem ok_Mo_addsAs : pm_okm M_Mo_addsAs := pm_okm_of _ 1492 85 1491 70 (by decide +kernel)
set_option maxRecDepth 100000 in
set_option maxHeartbeats 4000000 in
theorem m_Mo_addsAs {d : Nat} {H : pmT} {Q : pmQ} (a1 : Int32) (a2 : Int32)
    (h : (a1 = (3 : Int32) → ((24 : Int32) ≤ (H.1 55 45) → pm_R d M_Mo_addsAs [.ref 55, .int (2 : Int32), .int (a2 + (1 : Int32))] ((pm_up H.1 55 45 ((H.1 55 45) + (1 : Int32))), H.2) (pm_i (fun x2 H1 => Q (some (.int x2)) H1))) ∧ (¬ (24 : Int32) ≤ (H.1 55 45) → vp_in (H.1 55 45) 24 ∧ (pm_R d M_Mo_addsAs [.ref 55, .int (2 : Int32), .int (a2 + (1 : Int32))] ((pm_up (pm_up H.1 80 ((H.1 55 45).toNatClampNeg) (41 : Int32)) 55 45 ((H.1 55 45) + (1 : Int32))), H.2) (pm_i (fun x4 H3 => Q (some (.int x4)) H3))))) ∧ (¬ a1 = (3 : Int32) → (¬ a1 = (5 : Int32) → (¬ a1 = (2 : Int32) → (¬ a1 = (7 : Int32) → ((24 : Int32) ≤ (H.1 55 45) → pm_R d M_Mo_playsAs [.ref 55, .int (H.1 55 46), .int a2] ((pm_up H.1 55 45 ((H.1 55 45) + (1 : Int32))), H.2) (pm_i (fun x6 H5 => Q (some (.int (x6 * (2 : Int32)))) H5))) ∧ (¬ (24 : Int32) ≤ (H.1 55 45) → vp_in (H.1 55 45) 24 ∧ (pm_R d M_Mo_playsAs [.ref 55, .int (H.1 55 46), .int a2] ((pm_up (pm_up H.1 80 ((H.1 55 45).toNatClampNeg) (10 : Int32)) 55 45 ((H.1 55 45) + (1 : Int32))), H.2) (pm_i (fun x8 H7 => Q (some (.int (x8 * (2 : Int32)))) H7))))) ∧ (a1 = (7 : Int32) → ((24 : Int32) ≤ (H.1 55 45) → pm_R d M_Mo_addsAs [.ref 55, .int (4 : Int32), .int a2] ((pm_up H.1 55 45 ((H.1 55 45) + (1 : Int32))), H.2) (pm_i (fun x10 H9 => pm_R d M_Mo_fadesAs [.ref 55, .int (H9.1 55 46), .int (2 : Int32)] H9 (pm_i (fun x12 H11 => Q (some (.int (x10 + x12))) H11))))) ∧ (¬ (24 : Int32) ≤ (H.1 55 45) → vp_in (H.1 55 45) 24 ∧ (pm_R d M_Mo_addsAs [.ref 55, .int (4 : Int32), .int a2] ((pm_up (pm_up H.1 80 ((H.1 55 45).toNatClampNeg) (80 : Int32)) 55 45 ((H.1 55 45) + (1 : Int32))), H.2) (pm_i (fun x14 H13 => pm_R d M_Mo_fadesAs [.ref 55, .int (H13.1 55 46), .int (2 : Int32)] H13 (pm_i (fun x16 H15 => Q (some (.int (x14 + x16))) H15)))))))) ∧ (a1 = (2 : Int32) → ((24 : Int32) ≤ (H.1 55 45) → pm_R d M_Mo_addsAs [.ref 55, .int (0 : Int32), .int a2] ((pm_up H.1 55 45 ((H.1 55 45) + (1 : Int32))), H.2) (pm_i (fun x18 H17 => Q (some (.int (-x18))) H17))) ∧ (¬ (24 : Int32) ≤ (H.1 55 45) → vp_in (H.1 55 45) 24 ∧ (pm_R d M_Mo_addsAs [.ref 55, .int (0 : Int32), .int a2] ((pm_up (pm_up H.1 80 ((H.1 55 45).toNatClampNeg) (30 : Int32)) 55 45 ((H.1 55 45) + (1 : Int32))), H.2) (pm_i (fun x20 H19 => Q (some (.int (-x20))) H19)))))) ∧ (a1 = (5 : Int32) → ((24 : Int32) ≤ (H.1 55 45) → pm_R d M_Mo_addsAs [.ref 55, .int (2 : Int32), .int (a2 + (1 : Int32))] ((pm_up H.1 55 45 ((H.1 55 45) + (1 : Int32))), H.2) (pm_i (fun x22 H21 => Q (some (.int x22)) H21))) ∧ (¬ (24 : Int32) ≤ (H.1 55 45) → vp_in (H.1 55 45) 24 ∧ (pm_R d M_Mo_addsAs [.ref 55, .int (2 : Int32), .int (a2 + (1 : Int32))] ((pm_up (pm_up H.1 80 ((H.1 55 45).toNatClampNeg) (41 : Int32)) 55 45 ((H.1 55 45) + (1 : Int32))), H.2) (pm_i (fun x24 H23 => Q (some (.int x24)) H23))))))) : pm_R (d + 1) M_Mo_addsAs [.ref 55, .int a1, .int a2] H Q :=
  pm_walk (n := 28) ok_Mo_addsAs tk_Mo_addsAs rfl (Nat.le_of_ble_eq_true rfl) (show (a1 = (3 : Int32) → pm_R d M_Mo_begins [.ref 55, .int (41 : Int32)] H (pm_v (fun H1 => pm_R d M_Mo_addsAs [.ref 55, .int (2 : Int32), .int (a2 + (1 : Int32))] H1 (pm_i (fun x3 H2 => Q (some (.int x3)) H2))))) ∧ (¬ a1 = (3 : Int32) → (¬ a1 = (5 : Int32) → (¬ a1 = (2 : Int32) → (¬ a1 = (7 : Int32) → pm_R d M_Mo_begins [.ref 55, .int (10 : Int32)] H (pm_v (fun H4 => pm_R d M_Mo_playsAs [.ref 55, .int (H4.1 55 46), .int a2] H4 (pm_i (fun x6 H5 => Q (some (.int (x6 * (2 : Int32)))) H5))))) ∧ (a1 = (7 : Int32) → pm_R d M_Mo_begins [.ref 55, .int (80 : Int32)] H (pm_v (fun H7 => pm_R d M_Mo_addsAs [.ref 55, .int (4 : Int32), .int a2] H7 (pm_i (fun x9 H8 => pm_R d M_Mo_fadesAs [.ref 55, .int (H8.1 55 46), .int (2 : Int32)] H8 (pm_i (fun x11 H10 => Q (some (.int (x9 + x11))) H10)))))))) ∧ (a1 = (2 : Int32) → pm_R d M_Mo_begins [.ref 55, .int (30 : Int32)] H (pm_v (fun H12 => pm_R d M_Mo_addsAs [.ref 55, .int (0 : Int32), .int a2] H12 (pm_i (fun x14 H13 => Q (some (.int (-x14))) H13)))))) ∧ (a1 = (5 : Int32) → pm_R d M_Mo_begins [.ref 55, .int (41 : Int32)] H (pm_v (fun H15 => pm_R d M_Mo_addsAs [.ref 55, .int (2 : Int32), .int (a2 + (1 : Int32))] H15 (pm_i (fun x17 H16 => Q (some (.int x17)) H16)))))) from ⟨fun q1 => u_Mo_begins (41 : Int32) (⟨fun q2 => ((h.1 q1).1 q2), fun q2 => ⟨((h.1 q1).2 q2).1, ((h.1 q1).2 q2).2⟩⟩), fun q1 => ⟨fun q5 => ⟨fun q6 => ⟨fun q7 => u_Mo_begins (10 : Int32) (⟨fun q8 => (((((h.2 q1).1 q5).1 q6).1 q7).1 q8), fun q8 => ⟨(((((h.2 q1).1 q5).1 q6).1 q7).2 q8).1, (((((h.2 q1).1 q5).1 q6).1 q7).2 q8).2⟩⟩), fun q7 => u_Mo_begins (80 : Int32) (⟨fun q11 => (((((h.2 q1).1 q5).1 q6).2 q7).1 q11), fun q11 => ⟨(((((h.2 q1).1 q5).1 q6).2 q7).2 q11).1, (((((h.2 q1).1 q5).1 q6).2 q7).2 q11).2⟩⟩)⟩, fun q6 => u_Mo_begins (30 : Int32) (⟨fun q16 => ((((h.2 q1).1 q5).2 q6).1 q16), fun q16 => ⟨((((h.2 q1).1 q5).2 q6).2 q16).1, ((((h.2 q1).1 q5).2 q6).2 q16).2⟩⟩)⟩, fun q5 => u_Mo_begins (41 : Int32) (⟨fun q19 => (((h.2 q1).2 q5).1 q19), fun q19 => ⟨(((h.2 q1).2 q5).2 q19).1, (((h.2 q1).2 q5).2 q19).2⟩⟩)⟩⟩)
def T_Mo_fadesAs : List pmE := [
  (0, [], .iload 1, 0, 0, 0),
  (1, [], .iconst 3, 0, 0, 0),
  (2, [], .if_icmp .eq 10, 0, 0, 0),
  (5, [], .iload 1, 0, 0, 0),
  (6, [], .iconst 5, 0, 0, 0),
  (7, [], .if_icmp .ne 25, 0, 0, 0),
  (10, [], .aload 0, 0, 0, 0),
  (11, [], .iconst 40, 1, 0, 0),
  (13, [], .invokeinterface 228 648, 0, 358, 1485),
  (16, [], .aload 0, 0, 0, 0),
  (17, [], .iconst 2, 0, 0, 0),
  (18, [], .iload 2, 0, 0, 0),
  (19, [], .invokeinterface 231 653, 0, 373, 1493),
  (22, [], .iconst 3, 0, 0, 0),
  (23, [], .imul, 0, 0, 0),
  (24, [], .ireturn, 0, 0, 0),
  (25, [], .iload 1, 0, 0, 0),
  (26, [], .iconst 4, 0, 0, 0),
  (27, [], .if_icmp .eq 36, 0, 0, 0),
  (30, [], .iload 1, 0, 0, 0),
  (31, [], .iconst 7, 1, 0, 0),
  (33, [], .if_icmp .ne 61, 0, 0, 0),
  (36, [], .aload 0, 0, 0, 0),
  (37, [], .iconst 50, 1, 0, 0),
  (39, [], .invokeinterface 228 648, 0, 358, 1485),
  (42, [], .aload 0, 0, 0, 0),
  (43, [], .iconst 1, 0, 0, 0),
  (44, [], .iload 2, 0, 0, 0),
  (45, [], .invokeinterface 231 653, 0, 373, 1493),
  (48, [], .istore 3, 0, 0, 0),
  (49, [], .iload 3, 0, 0, 0),
  (50, [], .aload 0, 0, 0, 0),
  (51, [], .aload 0, 0, 0, 0),
  (52, [], .getfield 622, 0, 370, 1024),
  (55, [], .iconst 2, 0, 0, 0),
  (56, [], .invokeinterface 229 653, 0, 361, 1481),
  (59, [], .isub, 0, 0, 0),
  (60, [], .ireturn, 0, 0, 0),
  (61, [], .aload 0, 0, 0, 0),
  (62, [], .iconst 11, 1, 0, 0),
  (64, [], .invokeinterface 228 648, 0, 358, 1485),
  (67, [], .iload 2, 0, 0, 0),
  (68, [], .aload 0, 0, 0, 0),
  (69, [], .getfield 623, 0, 364, 1025),
  (72, [], .ixor, 0, 0, 0),
  (73, [], .ireturn, 0, 0, 0)]
theorem tk_Mo_fadesAs : pm_okT M_Mo_fadesAs T_Mo_fadesAs = true := by decide +kernel
theorem ok_Mo_fadesAs : pm_okm M_Mo_fadesAs := pm_okm_of _ 1496 85 1495 71 (by decide +kernel)
set_option maxRecDepth 100000 in
set_option maxHeartbeats 4000000 in
theorem m_Mo_fadesAs {d : Nat} {H : pmT} {Q : pmQ} (a1 : Int32) (a2 : Int32)
    (h : (a1 = (3 : Int32) → ((24 : Int32) ≤ (H.1 55 45) → pm_R d M_Mo_fadesAs [.ref 55, .int (2 : Int32), .int a2] ((pm_up H.1 55 45 ((H.1 55 45) + (1 : Int32))), H.2) (pm_i (fun x2 H1 => Q (some (.int (x2 * (3 : Int32)))) H1))) ∧ (¬ (24 : Int32) ≤ (H.1 55 45) → vp_in (H.1 55 45) 24 ∧ (pm_R d M_Mo_fadesAs [.ref 55, .int (2 : Int32), .int a2] ((pm_up (pm_up H.1 80 ((H.1 55 45).toNatClampNeg) (40 : Int32)) 55 45 ((H.1 55 45) + (1 : Int32))), H.2) (pm_i (fun x4 H3 => Q (some (.int (x4 * (3 : Int32)))) H3))))) ∧ (¬ a1 = (3 : Int32) → (¬ a1 = (5 : Int32) → (a1 = (4 : Int32) → ((24 : Int32) ≤ (H.1 55 45) → pm_R d M_Mo_fadesAs [.ref 55, .int (1 : Int32), .int a2] ((pm_up H.1 55 45 ((H.1 55 45) + (1 : Int32))), H.2) (pm_i (fun x6 H5 => pm_R d M_Mo_playsAs [.ref 55, .int (H5.1 55 46), .int (2 : Int32)] H5 (pm_i (fun x8 H7 => Q (some (.int (x6 - x8))) H7))))) ∧ (¬ (24 : Int32) ≤ (H.1 55 45) → vp_in (H.1 55 45) 24 ∧ (pm_R d M_Mo_fadesAs [.ref 55, .int (1 : Int32), .int a2] ((pm_up (pm_up H.1 80 ((H.1 55 45).toNatClampNeg) (50 : Int32)) 55 45 ((H.1 55 45) + (1 : Int32))), H.2) (pm_i (fun x10 H9 => pm_R d M_Mo_playsAs [.ref 55, .int (H9.1 55 46), .int (2 : Int32)] H9 (pm_i (fun x12 H11 => Q (some (.int (x10 - x12))) H11))))))) ∧ (¬ a1 = (4 : Int32) → (¬ a1 = (7 : Int32) → ((24 : Int32) ≤ (H.1 55 45) → Q (some (.int (a2 ^^^ (H.1 55 47)))) ((pm_up H.1 55 45 ((H.1 55 45) + (1 : Int32))), H.2)) ∧ (¬ (24 : Int32) ≤ (H.1 55 45) → vp_in (H.1 55 45) 24 ∧ (Q (some (.int (a2 ^^^ (H.1 55 47)))) ((pm_up (pm_up H.1 80 ((H.1 55 45).toNatClampNeg) (11 : Int32)) 55 45 ((H.1 55 45) + (1 : Int32))), H.2)))) ∧ (a1 = (7 : Int32) → ((24 : Int32) ≤ (H.1 55 45) → pm_R d M_Mo_fadesAs [.ref 55, .int (1 : Int32), .int a2] ((pm_up H.1 55 45 ((H.1 55 45) + (1 : Int32))), H.2) (pm_i (fun x14 H13 => pm_R d M_Mo_playsAs [.ref 55, .int (H13.1 55 46), .int (2 : Int32)] H13 (pm_i (fun x16 H15 => Q (some (.int (x14 - x16))) H15))))) ∧ (¬ (24 : Int32) ≤ (H.1 55 45) → vp_in (H.1 55 45) 24 ∧ (pm_R d M_Mo_fadesAs [.ref 55, .int (1 : Int32), .int a2] ((pm_up (pm_up H.1 80 ((H.1 55 45).toNatClampNeg) (50 : Int32)) 55 45 ((H.1 55 45) + (1 : Int32))), H.2) (pm_i (fun x18 H17 => pm_R d M_Mo_playsAs [.ref 55, .int (H17.1 55 46), .int (2 : Int32)] H17 (pm_i (fun x20 H19 => Q (some (.int (x18 - x20))) H19))))))))) ∧ (a1 = (5 : Int32) → ((24 : Int32) ≤ (H.1 55 45) → pm_R d M_Mo_fadesAs [.ref 55, .int (2 : Int32), .int a2] ((pm_up H.1 55 45 ((H.1 55 45) + (1 : Int32))), H.2) (pm_i (fun x22 H21 => Q (some (.int (x22 * (3 : Int32)))) H21))) ∧ (¬ (24 : Int32) ≤ (H.1 55 45) → vp_in (H.1 55 45) 24 ∧ (pm_R d M_Mo_fadesAs [.ref 55, .int (2 : Int32), .int a2] ((pm_up (pm_up H.1 80 ((H.1 55 45).toNatClampNeg) (40 : Int32)) 55 45 ((H.1 55 45) + (1 : Int32))), H.2) (pm_i (fun x24 H23 => Q (some (.int (x24 * (3 : Int32)))) H23))))))) : pm_R (d + 1) M_Mo_fadesAs [.ref 55, .int a1, .int a2] H Q :=
  pm_walk (n := 28) ok_Mo_fadesAs tk_Mo_fadesAs rfl (Nat.le_of_ble_eq_true rfl) (show (a1 = (3 : Int32) → pm_R d M_Mo_begins [.ref 55, .int (40 : Int32)] H (pm_v (fun H1 => pm_R d M_Mo_fadesAs [.ref 55, .int (2 : Int32), .int a2] H1 (pm_i (fun x3 H2 => Q (some (.int (x3 * (3 : Int32)))) H2))))) ∧ (¬ a1 = (3 : Int32) → (¬ a1 = (5 : Int32) → (a1 = (4 : Int32) → pm_R d M_Mo_begins [.ref 55, .int (50 : Int32)] H (pm_v (fun H4 => pm_R d M_Mo_fadesAs [.ref 55, .int (1 : Int32), .int a2] H4 (pm_i (fun x6 H5 => pm_R d M_Mo_playsAs [.ref 55, .int (H5.1 55 46), .int (2 : Int32)] H5 (pm_i (fun x8 H7 => Q (some (.int (x6 - x8))) H7))))))) ∧ (¬ a1 = (4 : Int32) → (¬ a1 = (7 : Int32) → pm_R d M_Mo_begins [.ref 55, .int (11 : Int32)] H (pm_v (fun H9 => Q (some (.int (a2 ^^^ (H9.1 55 47)))) H9))) ∧ (a1 = (7 : Int32) → pm_R d M_Mo_begins [.ref 55, .int (50 : Int32)] H (pm_v (fun H10 => pm_R d M_Mo_fadesAs [.ref 55, .int (1 : Int32), .int a2] H10 (pm_i (fun x12 H11 => pm_R d M_Mo_playsAs [.ref 55, .int (H11.1 55 46), .int (2 : Int32)] H11 (pm_i (fun x14 H13 => Q (some (.int (x12 - x14))) H13))))))))) ∧ (a1 = (5 : Int32) → pm_R d M_Mo_begins [.ref 55, .int (40 : Int32)] H (pm_v (fun H15 => pm_R d M_Mo_fadesAs [.ref 55, .int (2 : Int32), .int a2] H15 (pm_i (fun x17 H16 => Q (some (.int (x17 * (3 : Int32)))) H16)))))) from ⟨fun q1 => u_Mo_begins (40 : Int32) (⟨fun q2 => ((h.1 q1).1 q2), fun q2 => ⟨((h.1 q1).2 q2).1, ((h.1 q1).2 q2).2⟩⟩), fun q1 => ⟨fun q5 => ⟨fun q6 => u_Mo_begins (50 : Int32) (⟨fun q7 => ((((h.2 q1).1 q5).1 q6).1 q7), fun q7 => ⟨((((h.2 q1).1 q5).1 q6).2 q7).1, ((((h.2 q1).1 q5).1 q6).2 q7).2⟩⟩), fun q6 => ⟨fun q12 => u_Mo_begins (11 : Int32) (⟨fun q13 => (((((h.2 q1).1 q5).2 q6).1 q12).1 q13), fun q13 => ⟨(((((h.2 q1).1 q5).2 q6).1 q12).2 q13).1, (((((h.2 q1).1 q5).2 q6).1 q12).2 q13).2⟩⟩), fun q12 => u_Mo_begins (50 : Int32) (⟨fun q14 => (((((h.2 q1).1 q5).2 q6).2 q12).1 q14), fun q14 => ⟨(((((h.2 q1).1 q5).2 q6).2 q12).2 q14).1, (((((h.2 q1).1 q5).2 q6).2 q12).2 q14).2⟩⟩)⟩⟩, fun q5 => u_Mo_begins (40 : Int32) (⟨fun q19 => (((h.2 q1).2 q5).1 q19), fun q19 => ⟨(((h.2 q1).2 q5).2 q19).1, (((h.2 q1).2 q5).2 q19).2⟩⟩)⟩⟩)
def T_Mo_tellsAs : List pmE := [
  (0, [], .iload 1, 0, 0, 0),
  (1, [], .iconst 5, 0, 0, 0),
  (2, [], .if_icmp .ne 20, 0, 0, 0),
  (5, [], .aload 0, 0, 0, 0),
  (6, [], .iconst 60, 1, 0, 0),
  (8, [], .invokeinterface 228 648, 0, 358, 1485),
  (11, [], .aload 0, 0, 0, 0),
  (12, [], .iconst 3, 0, 0, 0),
  (13, [], .iload 2, 0, 0, 0),
  (14, [], .invokeinterface 232 653, 0, 376, 1497),
  (17, [], .iconst 5, 0, 0, 0),
  (18, [], .ixor, 0, 0, 0),
  (19, [], .ireturn, 0, 0, 0),
  (20, [], .iload 1, 0, 0, 0),
  (21, [], .iconst 7, 1, 0, 0),
  (23, [], .if_icmp .ne 41, 0, 0, 0),
  (26, [], .aload 0, 0, 0, 0),
  (27, [], .iconst 81, 1, 0, 0),
  (29, [], .invokeinterface 228 648, 0, 358, 1485),
  (32, [], .aload 0, 0, 0, 0),
  (33, [], .iconst 4, 0, 0, 0),
  (34, [], .iload 2, 0, 0, 0),
  (35, [], .invokeinterface 232 653, 0, 376, 1497),
  (38, [], .iconst 1, 0, 0, 0),
  (39, [], .isub, 0, 0, 0),
  (40, [], .ireturn, 0, 0, 0),
  (41, [], .aload 0, 0, 0, 0),
  (42, [], .iconst 2, 0, 0, 0),
  (43, [], .invokeinterface 228 648, 0, 358, 1485),
  (46, [], .aload 0, 0, 0, 0),
  (47, [], .aload 0, 0, 0, 0),
  (48, [], .getfield 622, 0, 370, 1024),
  (51, [], .iload 2, 0, 0, 0),
  (52, [], .invokeinterface 230 653, 0, 367, 1489),
  (55, [], .istore 3, 0, 0, 0),
  (56, [], .iload 3, 0, 0, 0),
  (57, [], .aload 0, 0, 0, 0),
  (58, [], .aload 0, 0, 0, 0),
  (59, [], .getfield 622, 0, 370, 1024),
  (62, [], .iconst 1, 0, 0, 0),
  (63, [], .invokeinterface 231 653, 0, 373, 1493),
  (66, [], .isub, 0, 0, 0),
  (67, [], .ireturn, 0, 0, 0)]
theorem tk_Mo_tellsAs : pm_okT M_Mo_tellsAs T_Mo_tellsAs = true := by decide +kernel
theorem ok_Mo_tellsAs : pm_okm M_Mo_tellsAs := pm_okm_of _ 1500 85 1499 72 (by decide +kernel)
set_option maxRecDepth 100000 in
set_option maxHeartbeats 4000000 in
theorem m_Mo_tellsAs {d : Nat} {H : pmT} {Q : pmQ} (a1 : Int32) (a2 : Int32)
    (h : (¬ a1 = (5 : Int32) → (¬ a1 = (7 : Int32) → ((24 : Int32) ≤ (H.1 55 45) → pm_R d M_Mo_addsAs [.ref 55, .int (H.1 55 46), .int a2] ((pm_up H.1 55 45 ((H.1 55 45) + (1 : Int32))), H.2) (pm_i (fun x2 H1 => pm_R d M_Mo_fadesAs [.ref 55, .int (H1.1 55 46), .int (1 : Int32)] H1 (pm_i (fun x4 H3 => Q (some (.int (x2 - x4))) H3))))) ∧ (¬ (24 : Int32) ≤ (H.1 55 45) → vp_in (H.1 55 45) 24 ∧ (pm_R d M_Mo_addsAs [.ref 55, .int (H.1 55 46), .int a2] ((pm_up (pm_up H.1 80 ((H.1 55 45).toNatClampNeg) (2 : Int32)) 55 45 ((H.1 55 45) + (1 : Int32))), H.2) (pm_i (fun x6 H5 => pm_R d M_Mo_fadesAs [.ref 55, .int (H5.1 55 46), .int (1 : Int32)] H5 (pm_i (fun x8 H7 => Q (some (.int (x6 - x8))) H7))))))) ∧ (a1 = (7 : Int32) → ((24 : Int32) ≤ (H.1 55 45) → pm_R d M_Mo_tellsAs [.ref 55, .int (4 : Int32), .int a2] ((pm_up H.1 55 45 ((H.1 55 45) + (1 : Int32))), H.2) (pm_i (fun x10 H9 => Q (some (.int (x10 - (1 : Int32)))) H9))) ∧ (¬ (24 : Int32) ≤ (H.1 55 45) → vp_in (H.1 55 45) 24 ∧ (pm_R d M_Mo_tellsAs [.ref 55, .int (4 : Int32), .int a2] ((pm_up (pm_up H.1 80 ((H.1 55 45).toNatClampNeg) (81 : Int32)) 55 45 ((H.1 55 45) + (1 : Int32))), H.2) (pm_i (fun x12 H11 => Q (some (.int (x12 - (1 : Int32)))) H11)))))) ∧ (a1 = (5 : Int32) → ((24 : Int32) ≤ (H.1 55 45) → pm_R d M_Mo_tellsAs [.ref 55, .int (3 : Int32), .int a2] ((pm_up H.1 55 45 ((H.1 55 45) + (1 : Int32))), H.2) (pm_i (fun x14 H13 => Q (some (.int (x14 ^^^ (5 : Int32)))) H13))) ∧ (¬ (24 : Int32) ≤ (H.1 55 45) → vp_in (H.1 55 45) 24 ∧ (pm_R d M_Mo_tellsAs [.ref 55, .int (3 : Int32), .int a2] ((pm_up (pm_up H.1 80 ((H.1 55 45).toNatClampNeg) (60 : Int32)) 55 45 ((H.1 55 45) + (1 : Int32))), H.2) (pm_i (fun x16 H15 => Q (some (.int (x16 ^^^ (5 : Int32)))) H15)))))) : pm_R (d + 1) M_Mo_tellsAs [.ref 55, .int a1, .int a2] H Q :=
  pm_walk (n := 23) ok_Mo_tellsAs tk_Mo_tellsAs rfl (Nat.le_of_ble_eq_true rfl) (show (¬ a1 = (5 : Int32) → (¬ a1 = (7 : Int32) → pm_R d M_Mo_begins [.ref 55, .int (2 : Int32)] H (pm_v (fun H1 => pm_R d M_Mo_addsAs [.ref 55, .int (H1.1 55 46), .int a2] H1 (pm_i (fun x3 H2 => pm_R d M_Mo_fadesAs [.ref 55, .int (H2.1 55 46), .int (1 : Int32)] H2 (pm_i (fun x5 H4 => Q (some (.int (x3 - x5))) H4))))))) ∧ (a1 = (7 : Int32) → pm_R d M_Mo_begins [.ref 55, .int (81 : Int32)] H (pm_v (fun H6 => pm_R d M_Mo_tellsAs [.ref 55, .int (4 : Int32), .int a2] H6 (pm_i (fun x8 H7 => Q (some (.int (x8 - (1 : Int32)))) H7)))))) ∧ (a1 = (5 : Int32) → pm_R d M_Mo_begins [.ref 55, .int (60 : Int32)] H (pm_v (fun H9 => pm_R d M_Mo_tellsAs [.ref 55, .int (3 : Int32), .int a2] H9 (pm_i (fun x11 H10 => Q (some (.int (x11 ^^^ (5 : Int32)))) H10))))) from ⟨fun q1 => ⟨fun q2 => u_Mo_begins (2 : Int32) (⟨fun q3 => (((h.1 q1).1 q2).1 q3), fun q3 => ⟨(((h.1 q1).1 q2).2 q3).1, (((h.1 q1).1 q2).2 q3).2⟩⟩), fun q2 => u_Mo_begins (81 : Int32) (⟨fun q8 => (((h.1 q1).2 q2).1 q8), fun q8 => ⟨(((h.1 q1).2 q2).2 q8).1, (((h.1 q1).2 q2).2 q8).2⟩⟩)⟩, fun q1 => u_Mo_begins (60 : Int32) (⟨fun q11 => ((h.2 q1).1 q11), fun q11 => ⟨((h.2 q1).2 q11).1, ((h.2 q1).2 q11).2⟩⟩)⟩)
def T_Mo_act : List pmE := [
  (0, [], .aload 0, 0, 0, 0),
  (1, [], .iconst 0, 0, 0, 0),
  (2, [], .putfield 621, 0, 355, 1023),
  (5, [], .aload 0, 0, 0, 0),
  (6, [], .iload 1, 0, 0, 0),
  (7, [], .invokeinterface 224 649, 0, 379, 1477),
  (10, [], .ifCond .ne 15, 0, 0, 0),
  (13, [], .iconst 0, 0, 0, 0),
  (14, [], .ireturn, 0, 0, 0),
  (15, [], .aload 0, 0, 0, 0),
  (16, [], .aload 0, 0, 0, 0),
  (17, [], .getfield 619, 0, 82, 1021),
  (20, [], .iload 1, 0, 0, 0),
  (21, [], .iaload, 0, 0, 0),
  (22, [], .putfield 622, 0, 370, 1024),
  (25, [], .aload 0, 0, 0, 0),
  (26, [], .iload 1, 0, 0, 0),
  (27, [], .putfield 623, 0, 364, 1025),
  (30, [], .iload 2, 0, 0, 0),
  (31, [], .lookupswitch 100 #[(0, 60), (1, 70), (2, 80), (3, 90)], 1, 29, 0),
  (60, [], .aload 0, 0, 0, 0),
  (61, [], .aload 0, 0, 0, 0),
  (62, [], .getfield 622, 0, 370, 1024),
  (65, [], .iload 3, 0, 0, 0),
  (66, [], .invokeinterface 229 653, 0, 361, 1481),
  (69, [], .ireturn, 0, 0, 0),
  (70, [], .aload 0, 0, 0, 0),
  (71, [], .aload 0, 0, 0, 0),
  (72, [], .getfield 622, 0, 370, 1024),
  (75, [], .iload 3, 0, 0, 0),
  (76, [], .invokeinterface 230 653, 0, 367, 1489),
  (79, [], .ireturn, 0, 0, 0),
  (80, [], .aload 0, 0, 0, 0),
  (81, [], .aload 0, 0, 0, 0),
  (82, [], .getfield 622, 0, 370, 1024),
  (85, [], .iload 3, 0, 0, 0),
  (86, [], .invokeinterface 231 653, 0, 373, 1493),
  (89, [], .ireturn, 0, 0, 0),
  (90, [], .aload 0, 0, 0, 0),
  (91, [], .aload 0, 0, 0, 0),
  (92, [], .getfield 622, 0, 370, 1024),
  (95, [], .iload 3, 0, 0, 0),
  (96, [], .invokeinterface 232 653, 0, 376, 1497),
  (99, [], .ireturn, 0, 0, 0),
  (100, [], .iconst 0, 0, 0, 0),
  (101, [], .ireturn, 0, 0, 0)]
theorem tk_Mo_act : pm_okT M_Mo_act T_Mo_act = true := by decide +kernel
theorem ok_Mo_act : pm_okm M_Mo_act := pm_okm_of _ 1476 85 1474 1475 (by decide +kernel)
set_option maxRecDepth 100000 in
set_option maxHeartbeats 4000000 in
theorem m_Mo_act {d : Nat} {H : pmT} {Q : pmQ} (a1 : Int32) (a2 : Int32) (a3 : Int32)
    (h : ((lg_cmp a1.toInt64 (0 : Int64)) < 0 → Q (some (.int (0 : Int32))) ((pm_up H.1 55 45 (0 : Int32)), H.2)) ∧ (¬ (lg_cmp a1.toInt64 (0 : Int64)) < 0 → (0 < (lg_cmp a1.toInt64 (((H.1 55 42) - (1 : Int32)).toInt64)) → Q (some (.int (0 : Int32))) ((pm_up H.1 55 45 (0 : Int32)), H.2)) ∧ (¬ 0 < (lg_cmp a1.toInt64 (((H.1 55 42) - (1 : Int32)).toInt64)) → vp_in a1 50 ∧ ((a2 = (0 : Int32) → pm_R (d + 1) M_Mo_playsAs [.ref 55, .int (H.1 79 a1.toNatClampNeg), .int a3] ((pm_up (pm_up (pm_up H.1 55 45 (0 : Int32)) 55 46 (H.1 79 a1.toNatClampNeg)) 55 47 a1), H.2) (pm_i (fun x24 H23 => Q (some (.int x24)) H23))) ∧ (¬ a2 = (0 : Int32) → (a2 = (1 : Int32) → pm_R (d + 1) M_Mo_addsAs [.ref 55, .int (H.1 79 a1.toNatClampNeg), .int a3] ((pm_up (pm_up (pm_up H.1 55 45 (0 : Int32)) 55 46 (H.1 79 a1.toNatClampNeg)) 55 47 a1), H.2) (pm_i (fun x22 H21 => Q (some (.int x22)) H21))) ∧ (¬ a2 = (1 : Int32) → (a2 = (2 : Int32) → pm_R (d + 1) M_Mo_fadesAs [.ref 55, .int (H.1 79 a1.toNatClampNeg), .int a3] ((pm_up (pm_up (pm_up H.1 55 45 (0 : Int32)) 55 46 (H.1 79 a1.toNatClampNeg)) 55 47 a1), H.2) (pm_i (fun x20 H19 => Q (some (.int x20)) H19))) ∧ (¬ a2 = (2 : Int32) → (a2 = (3 : Int32) → pm_R (d + 1) M_Mo_tellsAs [.ref 55, .int (H.1 79 a1.toNatClampNeg), .int a3] ((pm_up (pm_up (pm_up H.1 55 45 (0 : Int32)) 55 46 (H.1 79 a1.toNatClampNeg)) 55 47 a1), H.2) (pm_i (fun x18 H17 => Q (some (.int x18)) H17))) ∧ (¬ a2 = (3 : Int32) → Q (some (.int (0 : Int32))) ((pm_up (pm_up (pm_up H.1 55 45 (0 : Int32)) 55 46 (H.1 79 a1.toNatClampNeg)) 55 47 a1), H.2))))))))) : pm_R (d + 2) M_Mo_act [.ref 55, .int a1, .int a2, .int a3] H Q :=
  pm_walk (n := 24) ok_Mo_act tk_Mo_act rfl (Nat.le_of_ble_eq_true rfl) (show pm_R (d + 1) M_Mo_isBody [.ref 55, .int a1] ((pm_up H.1 55 45 (0 : Int32)), H.2) (pm_i (fun x2 H1 => (¬ x2 = 0 → vp_in a1 50 ∧ ((a2 = (0 : Int32) → pm_R (d + 1) M_Mo_playsAs [.ref 55, .int (H1.1 79 a1.toNatClampNeg), .int a3] ((pm_up (pm_up H1.1 55 46 (H1.1 79 a1.toNatClampNeg)) 55 47 a1), H1.2) (pm_i (fun x10 H9 => Q (some (.int x10)) H9))) ∧ (¬ a2 = (0 : Int32) → (a2 = (1 : Int32) → pm_R (d + 1) M_Mo_addsAs [.ref 55, .int (H1.1 79 a1.toNatClampNeg), .int a3] ((pm_up (pm_up H1.1 55 46 (H1.1 79 a1.toNatClampNeg)) 55 47 a1), H1.2) (pm_i (fun x8 H7 => Q (some (.int x8)) H7))) ∧ (¬ a2 = (1 : Int32) → (a2 = (2 : Int32) → pm_R (d + 1) M_Mo_fadesAs [.ref 55, .int (H1.1 79 a1.toNatClampNeg), .int a3] ((pm_up (pm_up H1.1 55 46 (H1.1 79 a1.toNatClampNeg)) 55 47 a1), H1.2) (pm_i (fun x6 H5 => Q (some (.int x6)) H5))) ∧ (¬ a2 = (2 : Int32) → (a2 = (3 : Int32) → pm_R (d + 1) M_Mo_tellsAs [.ref 55, .int (H1.1 79 a1.toNatClampNeg), .int a3] ((pm_up (pm_up H1.1 55 46 (H1.1 79 a1.toNatClampNeg)) 55 47 a1), H1.2) (pm_i (fun x4 H3 => Q (some (.int x4)) H3))) ∧ (¬ a2 = (3 : Int32) → Q (some (.int (0 : Int32))) ((pm_up (pm_up H1.1 55 46 (H1.1 79 a1.toNatClampNeg)) 55 47 a1), H1.2))))))) ∧ (x2 = 0 → Q (some (.int (0 : Int32))) H1))) from u_Mo_isBody a1 (u_Mo_within a1.toInt64 (0 : Int64) (((H.1 55 42) - (1 : Int32)).toInt64) (⟨fun q1 => ⟨Or.inl rfl, ⟨Or.inl rfl, ⟨fun z => absurd (by decide) z, fun _ => (h.1 q1)⟩⟩⟩, fun q1 => ⟨fun q2 => ⟨Or.inl rfl, ⟨Or.inl rfl, ⟨fun z => absurd (by decide) z, fun _ => ((h.2 q1).1 q2)⟩⟩⟩, fun q2 => ⟨Or.inr rfl, ⟨Or.inr rfl, ⟨fun _ => ⟨((h.2 q1).2 q2).1, ⟨fun q3 => (((h.2 q1).2 q2).2.1 q3), fun q3 => ⟨fun q5 => ((((h.2 q1).2 q2).2.2 q3).1 q5), fun q5 => ⟨fun q7 => (((((h.2 q1).2 q2).2.2 q3).2 q5).1 q7), fun q7 => ⟨fun q9 => ((((((h.2 q1).2 q2).2.2 q3).2 q5).2 q7).1 q9), fun q9 => ((((((h.2 q1).2 q2).2.2 q3).2 q5).2 q7).2 q9)⟩⟩⟩⟩⟩, fun z => absurd z (by decide)⟩⟩⟩⟩⟩)))
def T_Mo_trace : List pmE := [
  (0, [], .iload 1, 0, 0, 0),
  (1, [], .ifCond .lt 27, 0, 0, 0),
  (4, [], .iload 1, 0, 0, 0),
  (5, [], .aload 0, 0, 0, 0),
  (6, [], .getfield 621, 0, 355, 1023),
  (9, [], .if_icmp .ge 27, 0, 0, 0),
  (12, [], .iload 1, 0, 0, 0),
  (13, [], .iconst 24, 1, 0, 0),
  (15, [], .if_icmp .ge 27, 0, 0, 0),
  (18, [], .aload 0, 0, 0, 0),
  (19, [], .getfield 620, 0, 85, 1022),
  (22, [], .iload 1, 0, 0, 0),
  (23, [], .iaload, 0, 0, 0),
  (24, [], .goto 28, 0, 0, 0),
  (27, [], .iconst (-1), 0, 0, 0),
  (28, [], .ireturn, 0, 0, 0)]
theorem tk_Mo_trace : pm_okT M_Mo_trace T_Mo_trace = true := by decide +kernel
theorem ok_Mo_trace : pm_okm M_Mo_trace := pm_okm_of _ 1504 85 1502 1503 (by decide +kernel)
set_option maxRecDepth 100000 in
set_option maxHeartbeats 4000000 in
theorem m_Mo_trace {d : Nat} {H : pmT} {Q : pmQ} (a1 : Int32)
    (h : (a1 < 0 → Q (some (.int (-1 : Int32))) H) ∧ (¬ a1 < 0 → ((H.1 55 45) ≤ a1 → Q (some (.int (-1 : Int32))) H) ∧ (¬ (H.1 55 45) ≤ a1 → ((24 : Int32) ≤ a1 → Q (some (.int (-1 : Int32))) H) ∧ (¬ (24 : Int32) ≤ a1 → vp_in a1 24 ∧ (Q (some (.int (H.1 80 a1.toNatClampNeg))) H))))) : pm_R d M_Mo_trace [.ref 55, .int a1] H Q :=
  pm_walk (n := 15) ok_Mo_trace tk_Mo_trace rfl (Nat.le_of_ble_eq_true rfl) (show (a1 < 0 → Q (some (.int (-1 : Int32))) H) ∧ (¬ a1 < 0 → ((H.1 55 45) ≤ a1 → Q (some (.int (-1 : Int32))) H) ∧ (¬ (H.1 55 45) ≤ a1 → ((24 : Int32) ≤ a1 → Q (some (.int (-1 : Int32))) H) ∧ (¬ (24 : Int32) ≤ a1 → vp_in a1 24 ∧ (Q (some (.int (H.1 80 a1.toNatClampNeg))) H)))) from ⟨fun q1 => (h.1 q1), fun q1 => ⟨fun q2 => ((h.2 q1).1 q2), fun q2 => ⟨fun q3 => (((h.2 q1).2 q2).1 q3), fun q3 => ⟨(((h.2 q1).2 q2).2 q3).1, (((h.2 q1).2 q2).2 q3).2⟩⟩⟩⟩)
def T_Mo_keep : List pmE := [
  (0, [], .iload 1, 0, 0, 0),
  (1, [], .invokeinterface 235 5, 1, 128, 1163),
  (4, [], .ifCond .eq 20, 0, 0, 0),
  (7, [], .iload 2, 0, 0, 0),
  (8, [], .iconst (-1), 0, 0, 0),
  (9, [], .if_icmp .eq 22, 0, 0, 0),
  (12, [], .aload 0, 0, 0, 0),
  (13, [], .iload 2, 0, 0, 0),
  (14, [], .invokeinterface 224 649, 0, 379, 1477),
  (17, [], .ifCond .ne 22, 0, 0, 0),
  (20, [], .iconst (-1), 0, 0, 0),
  (21, [], .ireturn, 0, 0, 0),
  (22, [], .aload 0, 0, 0, 0),
  (23, [], .getfield 624, 0, 88, 1026),
  (26, [], .iload 1, 0, 0, 0),
  (27, [], .iload 2, 0, 0, 0),
  (28, [], .iastore, 0, 0, 0),
  (29, [], .aload 0, 0, 0, 0),
  (30, [], .getfield 625, 0, 91, 1027),
  (33, [], .iload 1, 0, 0, 0),
  (34, [], .iconst 0, 0, 0, 0),
  (35, [], .iastore, 0, 0, 0),
  (36, [], .iconst 1, 0, 0, 0),
  (37, [], .ireturn, 0, 0, 0)]
theorem tk_Mo_keep : pm_okT M_Mo_keep T_Mo_keep = true := by decide +kernel
theorem ok_Mo_keep : pm_okm M_Mo_keep := pm_okm_of _ 1508 85 1506 1507 (by decide +kernel)
set_option maxRecDepth 100000 in
set_option maxHeartbeats 4000000 in
theorem m_Mo_keep {d : Nat} {H : pmT} {Q : pmQ} (a1 : Int32) (a2 : Int32)
    (h : ((lg_cmp a1.toInt64 (0 : Int64)) < 0 → Q (some (.int (-1 : Int32))) H) ∧ (¬ (lg_cmp a1.toInt64 (0 : Int64)) < 0 → (0 < (lg_cmp a1.toInt64 (5 : Int64)) → Q (some (.int (-1 : Int32))) H) ∧ (¬ 0 < (lg_cmp a1.toInt64 (5 : Int64)) → (a2 = (-1 : Int32) → vp_in a1 6 ∧ (Q (some (.int (1 : Int32))) ((pm_up (pm_up H.1 81 a1.toNatClampNeg a2) 82 a1.toNatClampNeg (0 : Int32)), H.2))) ∧ (¬ a2 = (-1 : Int32) → ((lg_cmp a2.toInt64 (0 : Int64)) < 0 → Q (some (.int (-1 : Int32))) H) ∧ (¬ (lg_cmp a2.toInt64 (0 : Int64)) < 0 → (0 < (lg_cmp a2.toInt64 (((H.1 55 42) - (1 : Int32)).toInt64)) → Q (some (.int (-1 : Int32))) H) ∧ (¬ 0 < (lg_cmp a2.toInt64 (((H.1 55 42) - (1 : Int32)).toInt64)) → vp_in a1 6 ∧ (Q (some (.int (1 : Int32))) ((pm_up (pm_up H.1 81 a1.toNatClampNeg a2) 82 a1.toNatClampNeg (0 : Int32)), H.2)))))))) : pm_R (d + 2) M_Mo_keep [.ref 55, .int a1, .int a2] H Q :=
  pm_walk (n := 22) ok_Mo_keep tk_Mo_keep rfl (Nat.le_of_ble_eq_true rfl) (show pm_R (d + 1) M_Mo_isShelf [.int a1] H (pm_i (fun x2 H1 => (x2 = 0 → Q (some (.int (-1 : Int32))) H1) ∧ (¬ x2 = 0 → (a2 = (-1 : Int32) → vp_in a1 6 ∧ (vp_in a1 6 ∧ (Q (some (.int (1 : Int32))) ((pm_up (pm_up H1.1 81 a1.toNatClampNeg a2) 82 a1.toNatClampNeg (0 : Int32)), H1.2)))) ∧ (¬ a2 = (-1 : Int32) → pm_R (d + 1) M_Mo_isBody [.ref 55, .int a2] H1 (pm_i (fun x4 H3 => (¬ x4 = 0 → vp_in a1 6 ∧ (vp_in a1 6 ∧ (Q (some (.int (1 : Int32))) ((pm_up (pm_up H3.1 81 a1.toNatClampNeg a2) 82 a1.toNatClampNeg (0 : Int32)), H3.2)))) ∧ (x4 = 0 → Q (some (.int (-1 : Int32))) H3))))))) from u_Mo_isShelf a1 (u_Mo_within a1.toInt64 (0 : Int64) (5 : Int64) (⟨fun q1 => ⟨Or.inl rfl, ⟨Or.inl rfl, ⟨fun _ => (h.1 q1), fun z => absurd (by decide) z⟩⟩⟩, fun q1 => ⟨fun q2 => ⟨Or.inl rfl, ⟨Or.inl rfl, ⟨fun _ => ((h.2 q1).1 q2), fun z => absurd (by decide) z⟩⟩⟩, fun q2 => ⟨Or.inr rfl, ⟨Or.inr rfl, ⟨fun z => absurd z (by decide), fun _ => ⟨fun q3 => ⟨(((h.2 q1).2 q2).1 q3).1, ⟨(((h.2 q1).2 q2).1 q3).1, (((h.2 q1).2 q2).1 q3).2⟩⟩, fun q3 => u_Mo_isBody a2 (u_Mo_within a2.toInt64 (0 : Int64) (((H.1 55 42) - (1 : Int32)).toInt64) (⟨fun q4 => ⟨Or.inl rfl, ⟨Or.inl rfl, ⟨fun z => absurd (by decide) z, fun _ => ((((h.2 q1).2 q2).2 q3).1 q4)⟩⟩⟩, fun q4 => ⟨fun q5 => ⟨Or.inl rfl, ⟨Or.inl rfl, ⟨fun z => absurd (by decide) z, fun _ => (((((h.2 q1).2 q2).2 q3).2 q4).1 q5)⟩⟩⟩, fun q5 => ⟨Or.inr rfl, ⟨Or.inr rfl, ⟨fun _ => ⟨(((((h.2 q1).2 q2).2 q3).2 q4).2 q5).1, ⟨(((((h.2 q1).2 q2).2 q3).2 q4).2 q5).1, (((((h.2 q1).2 q2).2 q3).2 q4).2 q5).2⟩⟩, fun z => absurd z (by decide)⟩⟩⟩⟩⟩))⟩⟩⟩⟩⟩⟩)))
def T_Mo_row : List pmE := [
  (0, [], .iload 1, 0, 0, 0),
  (1, [], .invokeinterface 235 5, 1, 128, 1163),
  (4, [], .ifCond .eq 25, 0, 0, 0),
  (7, [], .iload 2, 0, 0, 0),
  (8, [], .i2l, 0, 0, 0),
  (9, [], .jsr 0, 0, 0, 0),
  (10, [], .jsr 4, 1, 263, 1316),
  (13, [], .invokeinterface 143 13, 1, 114, 1152),
  (16, [], .ifCond .eq 25, 0, 0, 0),
  (19, [], .iload 3, 0, 0, 0),
  (20, [], .iconst 60, 1, 0, 0),
  (22, [], .if_icmp .le 27, 0, 0, 0),
  (25, [], .iconst (-1), 0, 0, 0),
  (26, [], .ireturn, 0, 0, 0),
  (27, [], .iload 3, 0, 0, 0),
  (28, [], .ifCond .ge 34, 0, 0, 0),
  (31, [], .iconst (-14), 1, 0, 0),
  (33, [], .ireturn, 0, 0, 0),
  (34, [], .aload 0, 0, 0, 0),
  (35, [], .getfield 624, 0, 88, 1026),
  (38, [], .iload 1, 0, 0, 0),
  (39, [], .iconst 50, 1, 0, 0),
  (41, [], .iload 2, 0, 0, 0),
  (42, [], .iadd, 0, 0, 0),
  (43, [], .iastore, 0, 0, 0),
  (44, [], .aload 0, 0, 0, 0),
  (45, [], .getfield 625, 0, 91, 1027),
  (48, [], .iload 1, 0, 0, 0),
  (49, [], .iload 3, 0, 0, 0),
  (50, [], .iastore, 0, 0, 0),
  (51, [], .iconst 60, 1, 0, 0),
  (53, [], .iload 1, 0, 0, 0),
  (54, [], .imul, 0, 0, 0),
  (55, [], .istore 4, 1, 0, 0),
  (57, [0, 1, 4], .iload 4, 1, 0, 0),
  (59, [], .iconst 60, 1, 0, 0),
  (61, [], .iload 1, 0, 0, 0),
  (62, [], .imul, 0, 0, 0),
  (63, [], .iconst 60, 1, 0, 0),
  (65, [], .iadd, 0, 0, 0),
  (66, [], .if_icmp .ge 83, 0, 0, 0),
  (69, [], .aload 0, 0, 0, 0),
  (70, [], .getfield 626, 0, 94, 1028),
  (73, [], .iload 4, 1, 0, 0),
  (75, [], .jsr 0, 0, 0, 0),
  (76, [], .lastore, 0, 0, 0),
  (77, [], .iinc 4 1, 0, 0, 0),
  (80, [], .goto 57, 0, 0, 0),
  (83, [], .iconst 1, 0, 0, 0),
  (84, [], .ireturn, 0, 0, 0)]
theorem tk_Mo_row : pm_okT M_Mo_row T_Mo_row = true := by decide +kernel
theorem ok_Mo_row : pm_okm M_Mo_row := pm_okm_of _ 1512 85 1510 1511 (by decide +kernel)
set_option maxRecDepth 100000 in
set_option maxHeartbeats 4000000 in
theorem m_Mo_row {d : Nat} {H : pmT} {Q : pmQ} (a1 : Int32) (a2 : Int32) (a3 : Int32)
    (h : ((lg_cmp a1.toInt64 (0 : Int64)) < 0 → Q (some (.int (-1 : Int32))) H) ∧ (¬ (lg_cmp a1.toInt64 (0 : Int64)) < 0 → (0 < (lg_cmp a1.toInt64 (5 : Int64)) → Q (some (.int (-1 : Int32))) H) ∧ (¬ 0 < (lg_cmp a1.toInt64 (5 : Int64)) → ((lg_cmp a2.toInt64 (0 : Int64)) < 0 → Q (some (.int (-1 : Int32))) H) ∧ (¬ (lg_cmp a2.toInt64 (0 : Int64)) < 0 → (0 < (lg_cmp a2.toInt64 (4 : Int64)) → Q (some (.int (-1 : Int32))) H) ∧ (¬ 0 < (lg_cmp a2.toInt64 (4 : Int64)) → (a3 ≤ (60 : Int32) → (0 ≤ a3 → vp_in a1 6 ∧ (pm_RW none (d + 2) M_Mo_row Q 57 [(0, .ref 55), (1, .int a1), (4, .int ((60 : Int32) * a1))] [] ((pm_up (pm_up H.1 81 a1.toNatClampNeg ((50 : Int32) + a2)) 82 a1.toNatClampNeg a3), H.2))) ∧ (¬ 0 ≤ a3 → Q (some (.int (-14 : Int32))) H)) ∧ (¬ a3 ≤ (60 : Int32) → Q (some (.int (-1 : Int32))) H)))))) : pm_R (d + 2) M_Mo_row [.ref 55, .int a1, .int a2, .int a3] H Q :=
  pm_walk (n := 31) ok_Mo_row tk_Mo_row rfl (Nat.le_of_ble_eq_true rfl) (show pm_R (d + 1) M_Mo_isShelf [.int a1] H (pm_i (fun x2 H1 => (x2 = 0 → Q (some (.int (-1 : Int32))) H1) ∧ (¬ x2 = 0 → pm_R (d + 1) M_Mo_within [.long a2.toInt64, .long (0 : Int64), .long (4 : Int64)] H1 (pm_i (fun x4 H3 => (x4 = 0 → Q (some (.int (-1 : Int32))) H3) ∧ (¬ x4 = 0 → (a3 ≤ (60 : Int32) → (0 ≤ a3 → vp_in a1 6 ∧ (vp_in a1 6 ∧ (pm_RW none (d + 2) M_Mo_row Q 57 [(0, .ref 55), (1, .int a1), (4, .int ((60 : Int32) * a1))] [] ((pm_up (pm_up H3.1 81 a1.toNatClampNeg ((50 : Int32) + a2)) 82 a1.toNatClampNeg a3), H3.2)))) ∧ (¬ 0 ≤ a3 → Q (some (.int (-14 : Int32))) H3)) ∧ (¬ a3 ≤ (60 : Int32) → Q (some (.int (-1 : Int32))) H3))))))) from u_Mo_isShelf a1 (u_Mo_within a1.toInt64 (0 : Int64) (5 : Int64) (⟨fun q1 => ⟨Or.inl rfl, ⟨Or.inl rfl, ⟨fun _ => (h.1 q1), fun z => absurd (by decide) z⟩⟩⟩, fun q1 => ⟨fun q2 => ⟨Or.inl rfl, ⟨Or.inl rfl, ⟨fun _ => ((h.2 q1).1 q2), fun z => absurd (by decide) z⟩⟩⟩, fun q2 => ⟨Or.inr rfl, ⟨Or.inr rfl, ⟨fun z => absurd z (by decide), fun _ => u_Mo_within a2.toInt64 (0 : Int64) (4 : Int64) (⟨fun q3 => ⟨Or.inl rfl, ⟨fun _ => (((h.2 q1).2 q2).1 q3), fun z => absurd (by decide) z⟩⟩, fun q3 => ⟨fun q4 => ⟨Or.inl rfl, ⟨fun _ => ((((h.2 q1).2 q2).2 q3).1 q4), fun z => absurd (by decide) z⟩⟩, fun q4 => ⟨Or.inr rfl, ⟨fun z => absurd z (by decide), fun _ => ⟨fun q5 => ⟨fun q6 => ⟨((((((h.2 q1).2 q2).2 q3).2 q4).1 q5).1 q6).1, ⟨((((((h.2 q1).2 q2).2 q3).2 q4).1 q5).1 q6).1, ((((((h.2 q1).2 q2).2 q3).2 q4).1 q5).1 q6).2⟩⟩, fun q6 => ((((((h.2 q1).2 q2).2 q3).2 q4).1 q5).2 q6)⟩, fun q5 => (((((h.2 q1).2 q2).2 q3).2 q4).2 q5)⟩⟩⟩⟩⟩)⟩⟩⟩⟩⟩)))
set_option maxRecDepth 100000 in
set_option maxHeartbeats 4000000 in
theorem b_Mo_row_57 {d : Nat} {H : pmT} {Q : pmQ} (v1 : Int32) (v4 : Int32)
    (h : ((((60 : Int32) * v1) + (60 : Int32)) ≤ v4 → Q (some (.int (1 : Int32))) H) ∧ (¬ (((60 : Int32) * v1) + (60 : Int32)) ≤ v4 → vp_in v4 360 ∧ (pm_RW none (d + 2) M_Mo_row Q 57 [(0, .ref 55), (1, .int v1), (4, .int (v4 + (1 : Int32)))] [] (H.1, (pm_upL H.2.1 83 v4.toNatClampNeg (0 : Int64)), H.2.2)))) : pm_RW none (d + 2) M_Mo_row Q 57 [(0, .ref 55), (1, .int v1), (4, .int v4)] [] H :=
  pm_body tk_Mo_row 14 57 (show ((((60 : Int32) * v1) + (60 : Int32)) ≤ v4 → Q (some (.int (1 : Int32))) H) ∧ (¬ (((60 : Int32) * v1) + (60 : Int32)) ≤ v4 → vp_in v4 360 ∧ (pm_RW none (d + 2) M_Mo_row Q 57 [(0, .ref 55), (1, .int v1), (4, .int (v4 + (1 : Int32)))] [] (H.1, (pm_upL H.2.1 83 v4.toNatClampNeg (0 : Int64)), H.2.2))) from ⟨fun q1 => (h.1 q1), fun q1 => ⟨(h.2 q1).1, (h.2 q1).2⟩⟩)
def T_Mo_put : List pmE := [
  (0, [], .aload 0, 0, 0, 0),
  (1, [], .iload 1, 0, 0, 0),
  (2, [], .iload 2, 0, 0, 0),
  (3, [], .invokeinterface 238 653, 0, 382, 1517),
  (6, [], .istore 5, 1, 0, 0),
  (8, [], .iload 5, 1, 0, 0),
  (10, [], .ifCond .ne 37, 0, 0, 0),
  (13, [], .aload 0, 0, 0, 0),
  (14, [], .getfield 626, 0, 94, 1028),
  (17, [], .iconst 60, 1, 0, 0),
  (19, [], .iload 1, 0, 0, 0),
  (20, [], .imul, 0, 0, 0),
  (21, [], .iload 2, 0, 0, 0),
  (22, [], .iadd, 0, 0, 0),
  (23, [], .aload 0, 0, 0, 0),
  (24, [], .getfield 624, 0, 88, 1026),
  (27, [], .iload 1, 0, 0, 0),
  (28, [], .iaload, 0, 0, 0),
  (29, [], .iconst 50, 1, 0, 0),
  (31, [], .isub, 0, 0, 0),
  (32, [], .lload 3, 0, 0, 0),
  (33, [], .invokeinterface 239 10, 1, 385, 1521),
  (36, [], .lastore, 0, 0, 0),
  (37, [], .iload 5, 1, 0, 0),
  (39, [], .ifCond .ne 46, 0, 0, 0),
  (42, [], .iconst 1, 0, 0, 0),
  (43, [], .goto 48, 0, 0, 0),
  (46, [], .iload 5, 1, 0, 0),
  (48, [], .ireturn, 0, 0, 0)]
theorem tk_Mo_put : pm_okT M_Mo_put T_Mo_put = true := by decide +kernel
theorem ok_Mo_put : pm_okm M_Mo_put := pm_okm_of _ 1516 85 1514 1515 (by decide +kernel)
set_option maxRecDepth 100000 in
set_option maxHeartbeats 4000000 in
theorem m_Mo_put {d : Nat} {H : pmT} {Q : pmQ} (a1 : Int32) (a2 : Int32) (a3 : Int64)
    (h : ((lg_cmp a1.toInt64 (0 : Int64)) < 0 → Q (some (.int (-1 : Int32))) H) ∧ (¬ (lg_cmp a1.toInt64 (0 : Int64)) < 0 → (0 < (lg_cmp a1.toInt64 (5 : Int64)) → Q (some (.int (-1 : Int32))) H) ∧ (¬ 0 < (lg_cmp a1.toInt64 (5 : Int64)) → vp_in a1 6 ∧ ((0 ≤ (H.1 81 a1.toNatClampNeg) → ((50 : Int32) ≤ (H.1 81 a1.toNatClampNeg) → (a2 < 0 → Q (some (.int (-13 : Int32))) H) ∧ (¬ a2 < 0 → ((H.1 82 a1.toNatClampNeg) ≤ a2 → Q (some (.int (-13 : Int32))) H) ∧ (¬ (H.1 82 a1.toNatClampNeg) ≤ a2 → (¬ ((H.1 81 a1.toNatClampNeg) - (50 : Int32)) = 0 → (¬ ((H.1 81 a1.toNatClampNeg) - (50 : Int32)) = (1 : Int32) → (¬ ((H.1 81 a1.toNatClampNeg) - (50 : Int32)) = (2 : Int32) → (¬ ((H.1 81 a1.toNatClampNeg) - (50 : Int32)) = (4 : Int32) → vp_in (((60 : Int32) * a1) + a2) 360 ∧ (Q (some (.int (1 : Int32))) (H.1, (pm_upL H.2.1 83 ((((60 : Int32) * a1) + a2).toNatClampNeg) a3), H.2.2))) ∧ (((H.1 81 a1.toNatClampNeg) - (50 : Int32)) = (4 : Int32) → ((lg_cmp a3 (0 : Int64)) = 0 → vp_in (((60 : Int32) * a1) + a2) 360 ∧ (Q (some (.int (1 : Int32))) (H.1, (pm_upL H.2.1 83 ((((60 : Int32) * a1) + a2).toNatClampNeg) (0 : Int64)), H.2.2))) ∧ (¬ (lg_cmp a3 (0 : Int64)) = 0 → vp_in (((60 : Int32) * a1) + a2) 360 ∧ (Q (some (.int (1 : Int32))) (H.1, (pm_upL H.2.1 83 ((((60 : Int32) * a1) + a2).toNatClampNeg) (1 : Int64)), H.2.2))))) ∧ (((H.1 81 a1.toNatClampNeg) - (50 : Int32)) = (2 : Int32) → vp_in (((60 : Int32) * a1) + a2) 360 ∧ (Q (some (.int (1 : Int32))) (H.1, (pm_upL H.2.1 83 ((((60 : Int32) * a1) + a2).toNatClampNeg) a3.toInt32.toInt64), H.2.2)))) ∧ (((H.1 81 a1.toNatClampNeg) - (50 : Int32)) = (1 : Int32) → vp_in (((60 : Int32) * a1) + a2) 360 ∧ (Q (some (.int (1 : Int32))) (H.1, (pm_upL H.2.1 83 ((((60 : Int32) * a1) + a2).toNatClampNeg) a3.toInt32.toInt16.toInt32.toInt64), H.2.2)))) ∧ (((H.1 81 a1.toNatClampNeg) - (50 : Int32)) = 0 → vp_in (((60 : Int32) * a1) + a2) 360 ∧ (Q (some (.int (1 : Int32))) (H.1, (pm_upL H.2.1 83 ((((60 : Int32) * a1) + a2).toNatClampNeg) a3.toInt32.toInt8.toInt32.toInt64), H.2.2)))))) ∧ (¬ (50 : Int32) ≤ (H.1 81 a1.toNatClampNeg) → Q (some (.int (-12 : Int32))) H)) ∧ (¬ 0 ≤ (H.1 81 a1.toNatClampNeg) → Q (some (.int (-11 : Int32))) H))))) : pm_R (d + 3) M_Mo_put [.ref 55, .int a1, .int a2, .long a3] H Q :=
  pm_walk (n := 28) ok_Mo_put tk_Mo_put rfl (Nat.le_of_ble_eq_true rfl) (show pm_R (d + 2) M_Mo_refusal [.ref 55, .int a1, .int a2] H (pm_i (fun x2 H1 => (¬ x2 = 0 → (¬ x2 = 0 → Q (some (.int x2)) H1) ∧ (x2 = 0 → Q (some (.int (1 : Int32))) H1)) ∧ (x2 = 0 → vp_in a1 6 ∧ (pm_R (d + 2) M_Mo_asSort [.int ((H1.1 81 a1.toNatClampNeg) - (50 : Int32)), .long a3] H1 (pm_l (fun x4 H3 => vp_in (((60 : Int32) * a1) + a2) 360 ∧ ((¬ x2 = 0 → Q (some (.int x2)) (H3.1, (pm_upL H3.2.1 83 ((((60 : Int32) * a1) + a2).toNatClampNeg) x4), H3.2.2)) ∧ (x2 = 0 → Q (some (.int (1 : Int32))) (H3.1, (pm_upL H3.2.1 83 ((((60 : Int32) * a1) + a2).toNatClampNeg) x4), H3.2.2))))))))) from u_Mo_refusal a1 a2 (u_Mo_isShelf a1 (u_Mo_within a1.toInt64 (0 : Int64) (5 : Int64) (⟨fun q1 => ⟨Or.inl rfl, ⟨Or.inl rfl, ⟨fun z => absurd (by decide) z, fun _ => ⟨fun _ => ⟨fun _ => (h.1 q1), fun z => absurd z (by decide)⟩, fun z => absurd z (by decide)⟩⟩⟩⟩, fun q1 => ⟨fun q2 => ⟨Or.inl rfl, ⟨Or.inl rfl, ⟨fun z => absurd (by decide) z, fun _ => ⟨fun _ => ⟨fun _ => ((h.2 q1).1 q2), fun z => absurd z (by decide)⟩, fun z => absurd z (by decide)⟩⟩⟩⟩, fun q2 => ⟨Or.inr rfl, ⟨Or.inr rfl, ⟨fun _ => ⟨((h.2 q1).2 q2).1, ⟨fun q3 => ⟨((h.2 q1).2 q2).1, ⟨fun q4 => ⟨fun q5 => ⟨fun _ => ⟨fun _ => (((((h.2 q1).2 q2).2.1 q3).1 q4).1 q5), fun z => absurd z (by decide)⟩, fun z => absurd z (by decide)⟩, fun q5 => ⟨((h.2 q1).2 q2).1, ⟨fun q6 => ⟨fun _ => ⟨fun _ => ((((((h.2 q1).2 q2).2.1 q3).1 q4).2 q5).1 q6), fun z => absurd z (by decide)⟩, fun z => absurd z (by decide)⟩, fun q6 => ⟨fun z => absurd (by decide) z, fun _ => ⟨((h.2 q1).2 q2).1, u_Mo_asSort ((H.1 81 a1.toNatClampNeg) - (50 : Int32)) a3 (⟨fun q7 => ⟨fun q8 => ⟨fun q9 => ⟨fun q10 => ⟨((((((((((h.2 q1).2 q2).2.1 q3).1 q4).2 q5).2 q6).1 q7).1 q8).1 q9).1 q10).1, ⟨fun z => absurd (by decide) z, fun _ => ((((((((((h.2 q1).2 q2).2.1 q3).1 q4).2 q5).2 q6).1 q7).1 q8).1 q9).1 q10).2⟩⟩, fun q10 => ⟨fun q11 => ⟨(((((((((((h.2 q1).2 q2).2.1 q3).1 q4).2 q5).2 q6).1 q7).1 q8).1 q9).2 q10).1 q11).1, ⟨fun z => absurd (by decide) z, fun _ => (((((((((((h.2 q1).2 q2).2.1 q3).1 q4).2 q5).2 q6).1 q7).1 q8).1 q9).2 q10).1 q11).2⟩⟩, fun q11 => ⟨(((((((((((h.2 q1).2 q2).2.1 q3).1 q4).2 q5).2 q6).1 q7).1 q8).1 q9).2 q10).2 q11).1, ⟨fun z => absurd (by decide) z, fun _ => (((((((((((h.2 q1).2 q2).2.1 q3).1 q4).2 q5).2 q6).1 q7).1 q8).1 q9).2 q10).2 q11).2⟩⟩⟩⟩, fun q9 => ⟨(((((((((h.2 q1).2 q2).2.1 q3).1 q4).2 q5).2 q6).1 q7).1 q8).2 q9).1, ⟨fun z => absurd (by decide) z, fun _ => (((((((((h.2 q1).2 q2).2.1 q3).1 q4).2 q5).2 q6).1 q7).1 q8).2 q9).2⟩⟩⟩, fun q8 => ⟨((((((((h.2 q1).2 q2).2.1 q3).1 q4).2 q5).2 q6).1 q7).2 q8).1, ⟨fun z => absurd (by decide) z, fun _ => ((((((((h.2 q1).2 q2).2.1 q3).1 q4).2 q5).2 q6).1 q7).2 q8).2⟩⟩⟩, fun q7 => ⟨(((((((h.2 q1).2 q2).2.1 q3).1 q4).2 q5).2 q6).2 q7).1, ⟨fun z => absurd (by decide) z, fun _ => (((((((h.2 q1).2 q2).2.1 q3).1 q4).2 q5).2 q6).2 q7).2⟩⟩⟩)⟩⟩⟩⟩⟩, fun q4 => ⟨fun _ => ⟨fun _ => ((((h.2 q1).2 q2).2.1 q3).2 q4), fun z => absurd z (by decide)⟩, fun z => absurd z (by decide)⟩⟩⟩, fun q3 => ⟨fun _ => ⟨fun _ => (((h.2 q1).2 q2).2.2 q3), fun z => absurd z (by decide)⟩, fun z => absurd z (by decide)⟩⟩⟩, fun z => absurd z (by decide)⟩⟩⟩⟩⟩))))
def T_Mo_element : List pmE := [
  (0, [], .aload 0, 0, 0, 0),
  (1, [], .iload 1, 0, 0, 0),
  (2, [], .iload 2, 0, 0, 0),
  (3, [], .invokeinterface 238 653, 0, 382, 1517),
  (6, [], .ifCond .eq 15, 0, 0, 0),
  (9, [], .jsr (-9223372036854775808), 1, 298, 1385),
  (12, [], .goto 26, 0, 0, 0),
  (15, [], .aload 0, 0, 0, 0),
  (16, [], .getfield 626, 0, 94, 1028),
  (19, [], .iconst 60, 1, 0, 0),
  (21, [], .iload 1, 0, 0, 0),
  (22, [], .imul, 0, 0, 0),
  (23, [], .iload 2, 0, 0, 0),
  (24, [], .iadd, 0, 0, 0),
  (25, [], .laload, 0, 0, 0),
  (26, [], .lreturn, 0, 0, 0)]
theorem tk_Mo_element : pm_okT M_Mo_element T_Mo_element = true := by decide +kernel
theorem ok_Mo_element : pm_okm M_Mo_element := pm_okm_of _ 1527 85 1525 1526 (by decide +kernel)
set_option maxRecDepth 100000 in
set_option maxHeartbeats 4000000 in
theorem m_Mo_element {d : Nat} {H : pmT} {Q : pmQ} (a1 : Int32) (a2 : Int32)
    (h : ((lg_cmp a1.toInt64 (0 : Int64)) < 0 → Q (some (.long (-9223372036854775808 : Int64))) H) ∧ (¬ (lg_cmp a1.toInt64 (0 : Int64)) < 0 → (0 < (lg_cmp a1.toInt64 (5 : Int64)) → Q (some (.long (-9223372036854775808 : Int64))) H) ∧ (¬ 0 < (lg_cmp a1.toInt64 (5 : Int64)) → vp_in a1 6 ∧ ((0 ≤ (H.1 81 a1.toNatClampNeg) → ((50 : Int32) ≤ (H.1 81 a1.toNatClampNeg) → (a2 < 0 → Q (some (.long (-9223372036854775808 : Int64))) H) ∧ (¬ a2 < 0 → ((H.1 82 a1.toNatClampNeg) ≤ a2 → Q (some (.long (-9223372036854775808 : Int64))) H) ∧ (¬ (H.1 82 a1.toNatClampNeg) ≤ a2 → vp_in (((60 : Int32) * a1) + a2) 360 ∧ (Q (some (.long (H.2.1 83 ((((60 : Int32) * a1) + a2).toNatClampNeg)))) H)))) ∧ (¬ (50 : Int32) ≤ (H.1 81 a1.toNatClampNeg) → Q (some (.long (-9223372036854775808 : Int64))) H)) ∧ (¬ 0 ≤ (H.1 81 a1.toNatClampNeg) → Q (some (.long (-9223372036854775808 : Int64))) H))))) : pm_R (d + 3) M_Mo_element [.ref 55, .int a1, .int a2] H Q :=
  pm_walk (n := 14) ok_Mo_element tk_Mo_element rfl (Nat.le_of_ble_eq_true rfl) (show pm_R (d + 2) M_Mo_refusal [.ref 55, .int a1, .int a2] H (pm_i (fun x2 H1 => (x2 = 0 → vp_in (((60 : Int32) * a1) + a2) 360 ∧ (Q (some (.long (H1.2.1 83 ((((60 : Int32) * a1) + a2).toNatClampNeg)))) H1)) ∧ (¬ x2 = 0 → Q (some (.long (-9223372036854775808 : Int64))) H1))) from u_Mo_refusal a1 a2 (u_Mo_isShelf a1 (u_Mo_within a1.toInt64 (0 : Int64) (5 : Int64) (⟨fun q1 => ⟨Or.inl rfl, ⟨Or.inl rfl, ⟨fun z => absurd (by decide) z, fun _ => ⟨fun z => absurd z (by decide), fun _ => (h.1 q1)⟩⟩⟩⟩, fun q1 => ⟨fun q2 => ⟨Or.inl rfl, ⟨Or.inl rfl, ⟨fun z => absurd (by decide) z, fun _ => ⟨fun z => absurd z (by decide), fun _ => ((h.2 q1).1 q2)⟩⟩⟩⟩, fun q2 => ⟨Or.inr rfl, ⟨Or.inr rfl, ⟨fun _ => ⟨((h.2 q1).2 q2).1, ⟨fun q3 => ⟨((h.2 q1).2 q2).1, ⟨fun q4 => ⟨fun q5 => ⟨fun z => absurd z (by decide), fun _ => (((((h.2 q1).2 q2).2.1 q3).1 q4).1 q5)⟩, fun q5 => ⟨((h.2 q1).2 q2).1, ⟨fun q6 => ⟨fun z => absurd z (by decide), fun _ => ((((((h.2 q1).2 q2).2.1 q3).1 q4).2 q5).1 q6)⟩, fun q6 => ⟨fun _ => ⟨((((((h.2 q1).2 q2).2.1 q3).1 q4).2 q5).2 q6).1, ((((((h.2 q1).2 q2).2.1 q3).1 q4).2 q5).2 q6).2⟩, fun z => absurd (by decide) z⟩⟩⟩⟩, fun q4 => ⟨fun z => absurd z (by decide), fun _ => ((((h.2 q1).2 q2).2.1 q3).2 q4)⟩⟩⟩, fun q3 => ⟨fun z => absurd z (by decide), fun _ => (((h.2 q1).2 q2).2.2 q3)⟩⟩⟩, fun z => absurd z (by decide)⟩⟩⟩⟩⟩))))
def T_Mo_shift : List pmE := [
  (0, [], .iload 1, 0, 0, 0),
  (1, [], .invokeinterface 235 5, 1, 128, 1163),
  (4, [], .ifCond .eq 14, 0, 0, 0),
  (7, [], .iload 3, 0, 0, 0),
  (8, [], .invokeinterface 235 5, 1, 128, 1163),
  (11, [], .ifCond .ne 16, 0, 0, 0),
  (14, [], .iconst (-1), 0, 0, 0),
  (15, [], .ireturn, 0, 0, 0),
  (16, [], .aload 0, 0, 0, 0),
  (17, [], .getfield 624, 0, 88, 1026),
  (20, [], .iload 1, 0, 0, 0),
  (21, [], .iaload, 0, 0, 0),
  (22, [], .ifCond .lt 34, 0, 0, 0),
  (25, [], .aload 0, 0, 0, 0),
  (26, [], .getfield 624, 0, 88, 1026),
  (29, [], .iload 3, 0, 0, 0),
  (30, [], .iaload, 0, 0, 0),
  (31, [], .ifCond .ge 37, 0, 0, 0),
  (34, [], .iconst (-11), 1, 0, 0),
  (36, [], .ireturn, 0, 0, 0),
  (37, [], .aload 0, 0, 0, 0),
  (38, [], .getfield 624, 0, 88, 1026),
  (41, [], .iload 1, 0, 0, 0),
  (42, [], .iaload, 0, 0, 0),
  (43, [], .iconst 50, 1, 0, 0),
  (45, [], .if_icmp .lt 63, 0, 0, 0),
  (48, [], .aload 0, 0, 0, 0),
  (49, [], .getfield 624, 0, 88, 1026),
  (52, [], .iload 1, 0, 0, 0),
  (53, [], .iaload, 0, 0, 0),
  (54, [], .aload 0, 0, 0, 0),
  (55, [], .getfield 624, 0, 88, 1026),
  (58, [], .iload 3, 0, 0, 0),
  (59, [], .iaload, 0, 0, 0),
  (60, [], .if_icmp .eq 66, 0, 0, 0),
  (63, [], .iconst (-12), 1, 0, 0),
  (65, [], .ireturn, 0, 0, 0),
  (66, [], .iload 5, 1, 0, 0),
  (68, [], .ifCond .lt 107, 0, 0, 0),
  (71, [], .iload 2, 0, 0, 0),
  (72, [], .ifCond .lt 107, 0, 0, 0),
  (75, [], .iload 4, 1, 0, 0),
  (77, [], .ifCond .lt 107, 0, 0, 0),
  (80, [], .iload 2, 0, 0, 0),
  (81, [], .aload 0, 0, 0, 0),
  (82, [], .getfield 625, 0, 91, 1027),
  (85, [], .iload 1, 0, 0, 0),
  (86, [], .iaload, 0, 0, 0),
  (87, [], .iload 5, 1, 0, 0),
  (89, [], .isub, 0, 0, 0),
  (90, [], .if_icmp .gt 107, 0, 0, 0),
  (93, [], .iload 4, 1, 0, 0),
  (95, [], .aload 0, 0, 0, 0),
  (96, [], .getfield 625, 0, 91, 1027),
  (99, [], .iload 3, 0, 0, 0),
  (100, [], .iaload, 0, 0, 0),
  (101, [], .iload 5, 1, 0, 0),
  (103, [], .isub, 0, 0, 0),
  (104, [], .if_icmp .le 110, 0, 0, 0),
  (107, [], .iconst (-13), 1, 0, 0),
  (109, [], .ireturn, 0, 0, 0),
  (110, [], .iconst 0, 0, 0, 0),
  (111, [], .istore 6, 1, 0, 0),
  (113, [0, 1, 2, 3, 4, 5, 6], .iload 6, 1, 0, 0),
  (115, [], .iload 5, 1, 0, 0),
  (117, [], .if_icmp .ge 147, 0, 0, 0),
  (120, [], .aload 0, 0, 0, 0),
  (121, [], .getfield 627, 0, 98, 1029),
  (124, [], .iload 6, 1, 0, 0),
  (126, [], .aload 0, 0, 0, 0),
  (127, [], .getfield 626, 0, 94, 1028),
  (130, [], .iconst 60, 1, 0, 0),
  (132, [], .iload 1, 0, 0, 0),
  (133, [], .imul, 0, 0, 0),
  (134, [], .iload 2, 0, 0, 0),
  (135, [], .iadd, 0, 0, 0),
  (136, [], .iload 6, 1, 0, 0),
  (138, [], .iadd, 0, 0, 0),
  (139, [], .laload, 0, 0, 0),
  (140, [], .lastore, 0, 0, 0),
  (141, [], .iinc 6 1, 0, 0, 0),
  (144, [], .goto 113, 0, 0, 0),
  (147, [], .iconst 0, 0, 0, 0),
  (148, [], .istore 6, 1, 0, 0),
  (150, [0, 3, 4, 5, 6], .iload 6, 1, 0, 0),
  (152, [], .iload 5, 1, 0, 0),
  (154, [], .if_icmp .ge 185, 0, 0, 0),
  (157, [], .aload 0, 0, 0, 0),
  (158, [], .getfield 626, 0, 94, 1028),
  (161, [], .iconst 60, 1, 0, 0),
  (163, [], .iload 3, 0, 0, 0),
  (164, [], .imul, 0, 0, 0),
  (165, [], .iload 4, 1, 0, 0),
  (167, [], .iadd, 0, 0, 0),
  (168, [], .iload 6, 1, 0, 0),
  (170, [], .iadd, 0, 0, 0),
  (171, [], .aload 0, 0, 0, 0),
  (172, [], .getfield 627, 0, 98, 1029),
  (175, [], .iload 6, 1, 0, 0),
  (177, [], .laload, 0, 0, 0),
  (178, [], .lastore, 0, 0, 0),
  (179, [], .iinc 6 1, 0, 0, 0),
  (182, [], .goto 150, 0, 0, 0),
  (185, [], .iload 5, 1, 0, 0),
  (187, [], .ireturn, 0, 0, 0)]
theorem tk_Mo_shift : pm_okT M_Mo_shift T_Mo_shift = true := by decide +kernel
theorem ok_Mo_shift : pm_okm M_Mo_shift := pm_okm_of _ 1531 85 1529 1530 (by decide +kernel)
set_option maxRecDepth 100000 in
set_option maxHeartbeats 4000000 in
theorem m_Mo_shift {d : Nat} {H : pmT} {Q : pmQ} (a1 : Int32) (a2 : Int32) (a3 : Int32) (a4 : Int32) (a5 : Int32)
    (h : ((lg_cmp a1.toInt64 (0 : Int64)) < 0 → Q (some (.int (-1 : Int32))) H) ∧ (¬ (lg_cmp a1.toInt64 (0 : Int64)) < 0 → (0 < (lg_cmp a1.toInt64 (5 : Int64)) → Q (some (.int (-1 : Int32))) H) ∧ (¬ 0 < (lg_cmp a1.toInt64 (5 : Int64)) → ((lg_cmp a3.toInt64 (0 : Int64)) < 0 → Q (some (.int (-1 : Int32))) H) ∧ (¬ (lg_cmp a3.toInt64 (0 : Int64)) < 0 → (0 < (lg_cmp a3.toInt64 (5 : Int64)) → Q (some (.int (-1 : Int32))) H) ∧ (¬ 0 < (lg_cmp a3.toInt64 (5 : Int64)) → vp_in a1 6 ∧ (((H.1 81 a1.toNatClampNeg) < 0 → Q (some (.int (-11 : Int32))) H) ∧ (¬ (H.1 81 a1.toNatClampNeg) < 0 → vp_in a3 6 ∧ ((0 ≤ (H.1 81 a3.toNatClampNeg) → ((H.1 81 a1.toNatClampNeg) < (50 : Int32) → Q (some (.int (-12 : Int32))) H) ∧ (¬ (H.1 81 a1.toNatClampNeg) < (50 : Int32) → ((H.1 81 a1.toNatClampNeg) = (H.1 81 a3.toNatClampNeg) → (a5 < 0 → Q (some (.int (-13 : Int32))) H) ∧ (¬ a5 < 0 → (a2 < 0 → Q (some (.int (-13 : Int32))) H) ∧ (¬ a2 < 0 → (a4 < 0 → Q (some (.int (-13 : Int32))) H) ∧ (¬ a4 < 0 → (((H.1 82 a1.toNatClampNeg) - a5) < a2 → Q (some (.int (-13 : Int32))) H) ∧ (¬ ((H.1 82 a1.toNatClampNeg) - a5) < a2 → (a4 ≤ ((H.1 82 a3.toNatClampNeg) - a5) → pm_RW none (d + 2) M_Mo_shift Q 113 [(0, .ref 55), (1, .int a1), (2, .int a2), (3, .int a3), (4, .int a4), (5, .int a5), (6, .int (0 : Int32))] [] H) ∧ (¬ a4 ≤ ((H.1 82 a3.toNatClampNeg) - a5) → Q (some (.int (-13 : Int32))) H)))))) ∧ (¬ (H.1 81 a1.toNatClampNeg) = (H.1 81 a3.toNatClampNeg) → Q (some (.int (-12 : Int32))) H))) ∧ (¬ 0 ≤ (H.1 81 a3.toNatClampNeg) → Q (some (.int (-11 : Int32))) H))))))))) : pm_R (d + 2) M_Mo_shift [.ref 55, .int a1, .int a2, .int a3, .int a4, .int a5] H Q :=
  pm_walk (n := 56) ok_Mo_shift tk_Mo_shift rfl (Nat.le_of_ble_eq_true rfl) (show pm_R (d + 1) M_Mo_isShelf [.int a1] H (pm_i (fun x2 H1 => (x2 = 0 → Q (some (.int (-1 : Int32))) H1) ∧ (¬ x2 = 0 → pm_R (d + 1) M_Mo_isShelf [.int a3] H1 (pm_i (fun x4 H3 => (¬ x4 = 0 → vp_in a1 6 ∧ (((H3.1 81 a1.toNatClampNeg) < 0 → Q (some (.int (-11 : Int32))) H3) ∧ (¬ (H3.1 81 a1.toNatClampNeg) < 0 → vp_in a3 6 ∧ ((0 ≤ (H3.1 81 a3.toNatClampNeg) → vp_in a1 6 ∧ (((H3.1 81 a1.toNatClampNeg) < (50 : Int32) → Q (some (.int (-12 : Int32))) H3) ∧ (¬ (H3.1 81 a1.toNatClampNeg) < (50 : Int32) → vp_in a1 6 ∧ (vp_in a3 6 ∧ (((H3.1 81 a1.toNatClampNeg) = (H3.1 81 a3.toNatClampNeg) → (a5 < 0 → Q (some (.int (-13 : Int32))) H3) ∧ (¬ a5 < 0 → (a2 < 0 → Q (some (.int (-13 : Int32))) H3) ∧ (¬ a2 < 0 → (a4 < 0 → Q (some (.int (-13 : Int32))) H3) ∧ (¬ a4 < 0 → vp_in a1 6 ∧ ((((H3.1 82 a1.toNatClampNeg) - a5) < a2 → Q (some (.int (-13 : Int32))) H3) ∧ (¬ ((H3.1 82 a1.toNatClampNeg) - a5) < a2 → vp_in a3 6 ∧ ((a4 ≤ ((H3.1 82 a3.toNatClampNeg) - a5) → pm_RW none (d + 2) M_Mo_shift Q 113 [(0, .ref 55), (1, .int a1), (2, .int a2), (3, .int a3), (4, .int a4), (5, .int a5), (6, .int (0 : Int32))] [] H3) ∧ (¬ a4 ≤ ((H3.1 82 a3.toNatClampNeg) - a5) → Q (some (.int (-13 : Int32))) H3)))))))) ∧ (¬ (H3.1 81 a1.toNatClampNeg) = (H3.1 81 a3.toNatClampNeg) → Q (some (.int (-12 : Int32))) H3)))))) ∧ (¬ 0 ≤ (H3.1 81 a3.toNatClampNeg) → Q (some (.int (-11 : Int32))) H3))))) ∧ (x4 = 0 → Q (some (.int (-1 : Int32))) H3)))))) from u_Mo_isShelf a1 (u_Mo_within a1.toInt64 (0 : Int64) (5 : Int64) (⟨fun q1 => ⟨Or.inl rfl, ⟨Or.inl rfl, ⟨fun _ => (h.1 q1), fun z => absurd (by decide) z⟩⟩⟩, fun q1 => ⟨fun q2 => ⟨Or.inl rfl, ⟨Or.inl rfl, ⟨fun _ => ((h.2 q1).1 q2), fun z => absurd (by decide) z⟩⟩⟩, fun q2 => ⟨Or.inr rfl, ⟨Or.inr rfl, ⟨fun z => absurd z (by decide), fun _ => u_Mo_isShelf a3 (u_Mo_within a3.toInt64 (0 : Int64) (5 : Int64) (⟨fun q3 => ⟨Or.inl rfl, ⟨Or.inl rfl, ⟨fun z => absurd (by decide) z, fun _ => (((h.2 q1).2 q2).1 q3)⟩⟩⟩, fun q3 => ⟨fun q4 => ⟨Or.inl rfl, ⟨Or.inl rfl, ⟨fun z => absurd (by decide) z, fun _ => ((((h.2 q1).2 q2).2 q3).1 q4)⟩⟩⟩, fun q4 => ⟨Or.inr rfl, ⟨Or.inr rfl, ⟨fun _ => ⟨((((h.2 q1).2 q2).2 q3).2 q4).1, ⟨fun q5 => (((((h.2 q1).2 q2).2 q3).2 q4).2.1 q5), fun q5 => ⟨(((((h.2 q1).2 q2).2 q3).2 q4).2.2 q5).1, ⟨fun q6 => ⟨((((h.2 q1).2 q2).2 q3).2 q4).1, ⟨fun q7 => (((((((h.2 q1).2 q2).2 q3).2 q4).2.2 q5).2.1 q6).1 q7), fun q7 => ⟨((((h.2 q1).2 q2).2 q3).2 q4).1, ⟨(((((h.2 q1).2 q2).2 q3).2 q4).2.2 q5).1, ⟨fun q8 => ⟨fun q9 => (((((((((h.2 q1).2 q2).2 q3).2 q4).2.2 q5).2.1 q6).2 q7).1 q8).1 q9), fun q9 => ⟨fun q10 => ((((((((((h.2 q1).2 q2).2 q3).2 q4).2.2 q5).2.1 q6).2 q7).1 q8).2 q9).1 q10), fun q10 => ⟨fun q11 => (((((((((((h.2 q1).2 q2).2 q3).2 q4).2.2 q5).2.1 q6).2 q7).1 q8).2 q9).2 q10).1 q11), fun q11 => ⟨((((h.2 q1).2 q2).2 q3).2 q4).1, ⟨fun q12 => ((((((((((((h.2 q1).2 q2).2 q3).2 q4).2.2 q5).2.1 q6).2 q7).1 q8).2 q9).2 q10).2 q11).1 q12), fun q12 => ⟨(((((h.2 q1).2 q2).2 q3).2 q4).2.2 q5).1, ⟨fun q13 => (((((((((((((h.2 q1).2 q2).2 q3).2 q4).2.2 q5).2.1 q6).2 q7).1 q8).2 q9).2 q10).2 q11).2 q12).1 q13), fun q13 => (((((((((((((h.2 q1).2 q2).2 q3).2 q4).2.2 q5).2.1 q6).2 q7).1 q8).2 q9).2 q10).2 q11).2 q12).2 q13)⟩⟩⟩⟩⟩⟩⟩, fun q8 => ((((((((h.2 q1).2 q2).2 q3).2 q4).2.2 q5).2.1 q6).2 q7).2 q8)⟩⟩⟩⟩⟩, fun q6 => ((((((h.2 q1).2 q2).2 q3).2 q4).2.2 q5).2.2 q6)⟩⟩⟩⟩, fun z => absurd z (by decide)⟩⟩⟩⟩⟩))⟩⟩⟩⟩⟩)))
set_option maxRecDepth 100000 in
set_option maxHeartbeats 4000000 in
theorem b_Mo_shift_113 {d : Nat} {H : pmT} {Q : pmQ} (v1 : Int32) (v2 : Int32) (v3 : Int32) (v4 : Int32) (v5 : Int32) (v6 : Int32)
    (h : (v5 ≤ v6 → pm_RW none (d + 2) M_Mo_shift Q 150 [(0, .ref 55), (3, .int v3), (4, .int v4), (5, .int v5), (6, .int (0 : Int32))] [] H) ∧ (¬ v5 ≤ v6 → vp_in ((((60 : Int32) * v1) + v2) + v6) 360 ∧ (vp_in v6 60 ∧ (pm_RW none (d + 2) M_Mo_shift Q 113 [(0, .ref 55), (1, .int v1), (2, .int v2), (3, .int v3), (4, .int v4), (5, .int v5), (6, .int (v6 + (1 : Int32)))] [] (H.1, (pm_upL H.2.1 84 v6.toNatClampNeg (H.2.1 83 (((((60 : Int32) * v1) + v2) + v6).toNatClampNeg))), H.2.2))))) : pm_RW none (d + 2) M_Mo_shift Q 113 [(0, .ref 55), (1, .int v1), (2, .int v2), (3, .int v3), (4, .int v4), (5, .int v5), (6, .int v6)] [] H :=
  pm_body tk_Mo_shift 19 113 (show (v5 ≤ v6 → pm_RW none (d + 2) M_Mo_shift Q 150 [(0, .ref 55), (3, .int v3), (4, .int v4), (5, .int v5), (6, .int (0 : Int32))] [] H) ∧ (¬ v5 ≤ v6 → vp_in ((((60 : Int32) * v1) + v2) + v6) 360 ∧ (vp_in v6 60 ∧ (pm_RW none (d + 2) M_Mo_shift Q 113 [(0, .ref 55), (1, .int v1), (2, .int v2), (3, .int v3), (4, .int v4), (5, .int v5), (6, .int (v6 + (1 : Int32)))] [] (H.1, (pm_upL H.2.1 84 v6.toNatClampNeg (H.2.1 83 (((((60 : Int32) * v1) + v2) + v6).toNatClampNeg))), H.2.2)))) from ⟨fun q1 => (h.1 q1), fun q1 => ⟨(h.2 q1).1, ⟨(h.2 q1).2.1, (h.2 q1).2.2⟩⟩⟩)
set_option maxRecDepth 100000 in
set_option maxHeartbeats 4000000 in
theorem b_Mo_shift_150 {d : Nat} {H : pmT} {Q : pmQ} (v3 : Int32) (v4 : Int32) (v5 : Int32) (v6 : Int32)
    (h : (v5 ≤ v6 → Q (some (.int v5)) H) ∧ (¬ v5 ≤ v6 → vp_in v6 60 ∧ (vp_in ((((60 : Int32) * v3) + v4) + v6) 360 ∧ (pm_RW none (d + 2) M_Mo_shift Q 150 [(0, .ref 55), (3, .int v3), (4, .int v4), (5, .int v5), (6, .int (v6 + (1 : Int32)))] [] (H.1, (pm_upL H.2.1 83 (((((60 : Int32) * v3) + v4) + v6).toNatClampNeg) (H.2.1 84 v6.toNatClampNeg)), H.2.2))))) : pm_RW none (d + 2) M_Mo_shift Q 150 [(0, .ref 55), (3, .int v3), (4, .int v4), (5, .int v5), (6, .int v6)] [] H :=
  pm_body tk_Mo_shift 19 150 (show (v5 ≤ v6 → Q (some (.int v5)) H) ∧ (¬ v5 ≤ v6 → vp_in v6 60 ∧ (vp_in ((((60 : Int32) * v3) + v4) + v6) 360 ∧ (pm_RW none (d + 2) M_Mo_shift Q 150 [(0, .ref 55), (3, .int v3), (4, .int v4), (5, .int v5), (6, .int (v6 + (1 : Int32)))] [] (H.1, (pm_upL H.2.1 83 (((((60 : Int32) * v3) + v4) + v6).toNatClampNeg) (H.2.1 84 v6.toNatClampNeg)), H.2.2)))) from ⟨fun q1 => (h.1 q1), fun q1 => ⟨(h.2 q1).1, ⟨(h.2 q1).2.1, (h.2 q1).2.2⟩⟩⟩)
def T_Mo_taken : List pmE := [
  (0, [], .iload 1, 0, 0, 0),
  (1, [], .invokeinterface 235 5, 1, 128, 1163),
  (4, [], .ifCond .eq 19, 0, 0, 0),
  (7, [], .iload 2, 0, 0, 0),
  (8, [], .i2l, 0, 0, 0),
  (9, [], .jsr 0, 0, 0, 0),
  (10, [], .jsr 7, 1, 142, 1182),
  (13, [], .invokeinterface 143 13, 1, 114, 1152),
  (16, [], .ifCond .ne 21, 0, 0, 0),
  (19, [], .iconst (-1), 0, 0, 0),
  (20, [], .ireturn, 0, 0, 0),
  (21, [], .aload 0, 0, 0, 0),
  (22, [], .getfield 624, 0, 88, 1026),
  (25, [], .iload 1, 0, 0, 0),
  (26, [], .iaload, 0, 0, 0),
  (27, [], .ifCond .ge 33, 0, 0, 0),
  (30, [], .iconst (-11), 1, 0, 0),
  (32, [], .ireturn, 0, 0, 0),
  (33, [], .aload 0, 0, 0, 0),
  (34, [], .getfield 624, 0, 88, 1026),
  (37, [], .iload 1, 0, 0, 0),
  (38, [], .iaload, 0, 0, 0),
  (39, [], .iconst 50, 1, 0, 0),
  (41, [], .if_icmp .lt 47, 0, 0, 0),
  (44, [], .iconst (-12), 1, 0, 0),
  (46, [], .ireturn, 0, 0, 0),
  (47, [], .aload 0, 0, 0, 0),
  (48, [], .aload 0, 0, 0, 0),
  (49, [], .getfield 624, 0, 88, 1026),
  (52, [], .iload 1, 0, 0, 0),
  (53, [], .iaload, 0, 0, 0),
  (54, [], .invokeinterface 225 649, 0, 389, 1536),
  (57, [], .istore 3, 0, 0, 0),
  (58, [0, 1, 2, 3], .iload 3, 0, 0, 0),
  (59, [], .iload 2, 0, 0, 0),
  (60, [], .if_icmp .eq 75, 0, 0, 0),
  (63, [], .iload 3, 0, 0, 0),
  (64, [], .ifCond .le 75, 0, 0, 0),
  (67, [], .iload 3, 0, 0, 0),
  (68, [], .invokeinterface 227 5, 1, 392, 1540),
  (71, [], .istore 3, 0, 0, 0),
  (72, [], .goto 58, 0, 0, 0),
  (75, [], .iload 3, 0, 0, 0),
  (76, [], .iload 2, 0, 0, 0),
  (77, [], .if_icmp .ne 93, 0, 0, 0),
  (80, [], .aload 0, 0, 0, 0),
  (81, [], .aload 0, 0, 0, 0),
  (82, [], .getfield 624, 0, 88, 1026),
  (85, [], .iload 1, 0, 0, 0),
  (86, [], .iaload, 0, 0, 0),
  (87, [], .invokeinterface 225 649, 0, 389, 1536),
  (90, [], .goto 95, 0, 0, 0),
  (93, [], .iconst (-12), 1, 0, 0),
  (95, [], .ireturn, 0, 0, 0)]
theorem tk_Mo_taken : pm_okT M_Mo_taken T_Mo_taken = true := by decide +kernel
theorem ok_Mo_taken : pm_okm M_Mo_taken := pm_okm_of _ 1535 85 1533 1534 (by decide +kernel)
set_option maxRecDepth 100000 in
set_option maxHeartbeats 4000000 in
theorem m_Mo_taken {d : Nat} {H : pmT} {Q : pmQ} (a1 : Int32) (a2 : Int32)
    (h : ((lg_cmp a1.toInt64 (0 : Int64)) < 0 → Q (some (.int (-1 : Int32))) H) ∧ (¬ (lg_cmp a1.toInt64 (0 : Int64)) < 0 → (0 < (lg_cmp a1.toInt64 (5 : Int64)) → Q (some (.int (-1 : Int32))) H) ∧ (¬ 0 < (lg_cmp a1.toInt64 (5 : Int64)) → ((lg_cmp a2.toInt64 (0 : Int64)) < 0 → Q (some (.int (-1 : Int32))) H) ∧ (¬ (lg_cmp a2.toInt64 (0 : Int64)) < 0 → (0 < (lg_cmp a2.toInt64 (7 : Int64)) → Q (some (.int (-1 : Int32))) H) ∧ (¬ 0 < (lg_cmp a2.toInt64 (7 : Int64)) → vp_in a1 6 ∧ ((0 ≤ (H.1 81 a1.toNatClampNeg) → ((H.1 81 a1.toNatClampNeg) < (50 : Int32) → vp_in (H.1 81 a1.toNatClampNeg) 50 ∧ (pm_RW none (d + 2) M_Mo_taken Q 58 [(0, .ref 55), (1, .int a1), (2, .int a2), (3, .int (H.1 79 ((H.1 81 a1.toNatClampNeg).toNatClampNeg)))] [] H)) ∧ (¬ (H.1 81 a1.toNatClampNeg) < (50 : Int32) → Q (some (.int (-12 : Int32))) H)) ∧ (¬ 0 ≤ (H.1 81 a1.toNatClampNeg) → Q (some (.int (-11 : Int32))) H))))))) : pm_R (d + 2) M_Mo_taken [.ref 55, .int a1, .int a2] H Q :=
  pm_walk (n := 28) ok_Mo_taken tk_Mo_taken rfl (Nat.le_of_ble_eq_true rfl) (show pm_R (d + 1) M_Mo_isShelf [.int a1] H (pm_i (fun x2 H1 => (x2 = 0 → Q (some (.int (-1 : Int32))) H1) ∧ (¬ x2 = 0 → pm_R (d + 1) M_Mo_within [.long a2.toInt64, .long (0 : Int64), .long (7 : Int64)] H1 (pm_i (fun x4 H3 => (¬ x4 = 0 → vp_in a1 6 ∧ ((0 ≤ (H3.1 81 a1.toNatClampNeg) → vp_in a1 6 ∧ (((H3.1 81 a1.toNatClampNeg) < (50 : Int32) → vp_in a1 6 ∧ (pm_R (d + 1) M_Mo_kindOf [.ref 55, .int (H3.1 81 a1.toNatClampNeg)] H3 (pm_i (fun x6 H5 => pm_RW none (d + 2) M_Mo_taken Q 58 [(0, .ref 55), (1, .int a1), (2, .int a2), (3, .int x6)] [] H5)))) ∧ (¬ (H3.1 81 a1.toNatClampNeg) < (50 : Int32) → Q (some (.int (-12 : Int32))) H3))) ∧ (¬ 0 ≤ (H3.1 81 a1.toNatClampNeg) → Q (some (.int (-11 : Int32))) H3))) ∧ (x4 = 0 → Q (some (.int (-1 : Int32))) H3)))))) from u_Mo_isShelf a1 (u_Mo_within a1.toInt64 (0 : Int64) (5 : Int64) (⟨fun q1 => ⟨Or.inl rfl, ⟨Or.inl rfl, ⟨fun _ => (h.1 q1), fun z => absurd (by decide) z⟩⟩⟩, fun q1 => ⟨fun q2 => ⟨Or.inl rfl, ⟨Or.inl rfl, ⟨fun _ => ((h.2 q1).1 q2), fun z => absurd (by decide) z⟩⟩⟩, fun q2 => ⟨Or.inr rfl, ⟨Or.inr rfl, ⟨fun z => absurd z (by decide), fun _ => u_Mo_within a2.toInt64 (0 : Int64) (7 : Int64) (⟨fun q3 => ⟨Or.inl rfl, ⟨fun z => absurd (by decide) z, fun _ => (((h.2 q1).2 q2).1 q3)⟩⟩, fun q3 => ⟨fun q4 => ⟨Or.inl rfl, ⟨fun z => absurd (by decide) z, fun _ => ((((h.2 q1).2 q2).2 q3).1 q4)⟩⟩, fun q4 => ⟨Or.inr rfl, ⟨fun _ => ⟨((((h.2 q1).2 q2).2 q3).2 q4).1, ⟨fun q5 => ⟨((((h.2 q1).2 q2).2 q3).2 q4).1, ⟨fun q6 => ⟨((((h.2 q1).2 q2).2 q3).2 q4).1, u_Mo_kindOf (H.1 81 a1.toNatClampNeg) (⟨((((((h.2 q1).2 q2).2 q3).2 q4).2.1 q5).1 q6).1, ((((((h.2 q1).2 q2).2 q3).2 q4).2.1 q5).1 q6).2⟩)⟩, fun q6 => ((((((h.2 q1).2 q2).2 q3).2 q4).2.1 q5).2 q6)⟩⟩, fun q5 => (((((h.2 q1).2 q2).2 q3).2 q4).2.2 q5)⟩⟩, fun z => absurd z (by decide)⟩⟩⟩⟩)⟩⟩⟩⟩⟩)))
set_option maxRecDepth 100000 in
set_option maxHeartbeats 4000000 in
theorem b_Mo_taken_58 {d : Nat} {H : pmT} {Q : pmQ} (v1 : Int32) (v2 : Int32) (v3 : Int32)
    (h : (v3 = v2 → vp_in v1 6 ∧ (vp_in (H.1 81 v1.toNatClampNeg) 50 ∧ (Q (some (.int (H.1 79 ((H.1 81 v1.toNatClampNeg).toNatClampNeg)))) H))) ∧ (¬ v3 = v2 → (v3 ≤ 0 → Q (some (.int (-12 : Int32))) H) ∧ (¬ v3 ≤ 0 → pm_R (d + 1) M_Mo_above [.int v3] H (pm_i (fun x2 H1 => pm_RW none (d + 2) M_Mo_taken Q 58 [(0, .ref 55), (1, .int v1), (2, .int v2), (3, .int x2)] [] H1))))) : pm_RW none (d + 2) M_Mo_taken Q 58 [(0, .ref 55), (1, .int v1), (2, .int v2), (3, .int v3)] [] H :=
  pm_body tk_Mo_taken 15 58 (show (v3 = v2 → (¬ v3 = v2 → Q (some (.int (-12 : Int32))) H) ∧ (v3 = v2 → vp_in v1 6 ∧ (pm_R (d + 1) M_Mo_kindOf [.ref 55, .int (H.1 81 v1.toNatClampNeg)] H (pm_i (fun x2 H1 => Q (some (.int x2)) H1))))) ∧ (¬ v3 = v2 → (v3 ≤ 0 → (¬ v3 = v2 → Q (some (.int (-12 : Int32))) H) ∧ (v3 = v2 → vp_in v1 6 ∧ (pm_R (d + 1) M_Mo_kindOf [.ref 55, .int (H.1 81 v1.toNatClampNeg)] H (pm_i (fun x4 H3 => Q (some (.int x4)) H3))))) ∧ (¬ v3 ≤ 0 → pm_R (d + 1) M_Mo_above [.int v3] H (pm_i (fun x6 H5 => pm_RW none (d + 2) M_Mo_taken Q 58 [(0, .ref 55), (1, .int v1), (2, .int v2), (3, .int x6)] [] H5)))) from ⟨fun q1 => ⟨fun z => absurd q1 z, fun _ => ⟨(h.1 q1).1, u_Mo_kindOf (H.1 81 v1.toNatClampNeg) (⟨(h.1 q1).2.1, (h.1 q1).2.2⟩)⟩⟩, fun q1 => ⟨fun q2 => ⟨fun _ => ((h.2 q1).1 q2), fun z => absurd z q1⟩, fun q2 => ((h.2 q1).2 q2)⟩⟩)
def T_Mo_count : List pmE := [
  (0, [], .iload 1, 0, 0, 0),
  (1, [], .lookupswitch 61 #[(0, 36), (1, 41), (2, 46), (3, 51), (4, 56)], 1, 35, 0),
  (36, [], .aload 0, 0, 0, 0),
  (37, [], .getfield 582, 0, 111, 984),
  (40, [], .ireturn, 0, 0, 0),
  (41, [], .aload 0, 0, 0, 0),
  (42, [], .getfield 586, 0, 157, 988),
  (45, [], .ireturn, 0, 0, 0),
  (46, [], .aload 0, 0, 0, 0),
  (47, [], .getfield 581, 0, 105, 983),
  (50, [], .ireturn, 0, 0, 0),
  (51, [], .aload 0, 0, 0, 0),
  (52, [], .getfield 618, 0, 352, 1020),
  (55, [], .ireturn, 0, 0, 0),
  (56, [], .aload 0, 0, 0, 0),
  (57, [], .getfield 621, 0, 355, 1023),
  (60, [], .ireturn, 0, 0, 0),
  (61, [], .iconst (-1), 0, 0, 0),
  (62, [], .ireturn, 0, 0, 0)]
theorem tk_Mo_count : pm_okT M_Mo_count T_Mo_count = true := by decide +kernel
theorem ok_Mo_count : pm_okm M_Mo_count := pm_okm_of _ 1546 85 1544 1545 (by decide +kernel)
set_option maxRecDepth 100000 in
set_option maxHeartbeats 4000000 in
theorem m_Mo_count {d : Nat} {H : pmT} {Q : pmQ} (a1 : Int32)
    (h : (a1 = (0 : Int32) → Q (some (.int (H.1 55 6))) H) ∧ (¬ a1 = (0 : Int32) → (a1 = (1 : Int32) → Q (some (.int (H.1 55 10))) H) ∧ (¬ a1 = (1 : Int32) → (a1 = (2 : Int32) → Q (some (.int (H.1 55 5))) H) ∧ (¬ a1 = (2 : Int32) → (a1 = (3 : Int32) → Q (some (.int (H.1 55 42))) H) ∧ (¬ a1 = (3 : Int32) → (a1 = (4 : Int32) → Q (some (.int (H.1 55 45))) H) ∧ (¬ a1 = (4 : Int32) → Q (some (.int (-1 : Int32))) H)))))) : pm_R d M_Mo_count [.ref 55, .int a1] H Q :=
  pm_walk (n := 5) ok_Mo_count tk_Mo_count rfl (Nat.le_of_ble_eq_true rfl) (show (a1 = (0 : Int32) → Q (some (.int (H.1 55 6))) H) ∧ (¬ a1 = (0 : Int32) → (a1 = (1 : Int32) → Q (some (.int (H.1 55 10))) H) ∧ (¬ a1 = (1 : Int32) → (a1 = (2 : Int32) → Q (some (.int (H.1 55 5))) H) ∧ (¬ a1 = (2 : Int32) → (a1 = (3 : Int32) → Q (some (.int (H.1 55 42))) H) ∧ (¬ a1 = (3 : Int32) → (a1 = (4 : Int32) → Q (some (.int (H.1 55 45))) H) ∧ (¬ a1 = (4 : Int32) → Q (some (.int (-1 : Int32))) H))))) from ⟨fun q1 => (h.1 q1), fun q1 => ⟨fun q2 => ((h.2 q1).1 q2), fun q2 => ⟨fun q3 => (((h.2 q1).2 q2).1 q3), fun q3 => ⟨fun q4 => ((((h.2 q1).2 q2).2 q3).1 q4), fun q4 => ⟨fun q5 => (((((h.2 q1).2 q2).2 q3).2 q4).1 q5), fun q5 => (((((h.2 q1).2 q2).2 q3).2 q4).2 q5)⟩⟩⟩⟩⟩)
