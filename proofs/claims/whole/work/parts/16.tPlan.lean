/-! tables and walks, by program: 16.tPlan -/
def T_Pl_walk : List pmE := [
  (0, [], .aload 1, 0, 0, 0),
  (1, [], .getfield 385, 0, 44, 186),
  (4, [], .aload 1, 0, 0, 0),
  (5, [], .getfield 384, 0, 50, 183),
  (8, [], .invokeinterface 25 264, 0, 53, 556),
  (11, [], .aload 0, 0, 0, 0),
  (12, [], .iconst 0, 0, 0, 0),
  (13, [], .putfield 320, 0, 9, 214),
  (16, [], .aload 0, 0, 0, 0),
  (17, [], .iconst 0, 0, 0, 0),
  (18, [], .putfield 321, 0, 15, 216),
  (21, [], .aload 0, 0, 0, 0),
  (22, [], .iconst (-2), 1, 0, 0),
  (24, [], .putfield 322, 0, 18, 218),
  (27, [], .iconst 0, 0, 0, 0),
  (28, [], .istore 4, 1, 0, 0),
  (30, [0, 1, 2, 3, 4], .iload 4, 1, 0, 0),
  (32, [], .aload 2, 0, 0, 0),
  (33, [], .getfield 450, 0, 59, 332),
  (36, [], .if_icmp .ge 115, 0, 0, 0),
  (39, [], .iload 4, 1, 0, 0),
  (41, [], .iload 3, 0, 0, 0),
  (42, [], .if_icmp .ge 115, 0, 0, 0),
  (45, [], .aload 1, 0, 0, 0),
  (46, [], .aload 1, 0, 0, 0),
  (47, [], .getfield 385, 0, 44, 186),
  (50, [], .aload 2, 0, 0, 0),
  (51, [], .iload 4, 1, 0, 0),
  (53, [], .invokeinterface 88 522, 0, 64, 568),
  (56, [], .l2i, 0, 0, 0),
  (57, [], .aload 1, 0, 0, 0),
  (58, [], .invokeinterface 72 453, 0, 68, 569),
  (61, [], .invokeinterface 80 465, 0, 72, 573),
  (64, [], .istore 5, 1, 0, 0),
  (66, [], .iload 5, 1, 0, 0),
  (68, [], .iconst (-1), 0, 0, 0),
  (69, [], .if_icmp .ne 73, 0, 0, 0),
  (72, [], .return_, 0, 0, 0),
  (73, [], .aload 0, 0, 0, 0),
  (74, [], .dup, 0, 0, 0),
  (75, [], .getfield 320, 0, 9, 214),
  (78, [], .iconst 1, 0, 0, 0),
  (79, [], .iadd, 0, 0, 0),
  (80, [], .putfield 320, 0, 9, 214),
  (83, [], .aload 0, 0, 0, 0),
  (84, [], .iload 5, 1, 0, 0),
  (86, [], .putfield 322, 0, 18, 218),
  (89, [], .aload 0, 0, 0, 0),
  (90, [], .dup, 0, 0, 0),
  (91, [], .getfield 321, 0, 15, 216),
  (94, [], .iload 5, 1, 0, 0),
  (96, [], .iconst 1, 0, 0, 0),
  (97, [], .if_icmp .ne 104, 0, 0, 0),
  (100, [], .iconst 1, 0, 0, 0),
  (101, [], .goto 105, 0, 0, 0),
  (104, [], .iconst 0, 0, 0, 0),
  (105, [], .iadd, 0, 0, 0),
  (106, [], .putfield 321, 0, 15, 216),
  (109, [], .iinc 4 1, 0, 0, 0),
  (112, [], .goto 30, 0, 0, 0),
  (115, [], .return_, 0, 0, 0)]
theorem tk_Pl_walk : pm_okT M_Pl_walk T_Pl_walk = true := by decide +kernel
theorem ok_Pl_walk : pm_okm M_Pl_walk := pm_okm_of _ 555 80 553 554 (by decide +kernel)
set_option maxRecDepth 100000 in
set_option maxHeartbeats 4000000 in
theorem m_Pl_walk {d : Nat} {H : pmT} {Q : pmQ} (s : Nat) (a3 : Int32)
    (h : pm_R d M_Ha_takeAll [.ref 8, .ref 2] H (pm_v (fun H1 => pm_RW none (d + 1) M_Pl_walk Q 30 [(0, .ref 21), (1, .ref 1), (2, .ref s), (3, .int a3), (4, .int (0 : Int32))] [] ((pm_up (pm_up (pm_up H1.1 21 0 (0 : Int32)) 21 1 (0 : Int32)) 21 2 (-2 : Int32)), H1.2)))) : pm_R (d + 1) M_Pl_walk [.ref 21, .ref 1, .ref s, .int a3] H Q :=
  pm_walk (n := 17) ok_Pl_walk tk_Pl_walk rfl (Nat.le_of_ble_eq_true rfl) (show pm_R d M_Ha_takeAll [.ref 8, .ref 2] H (pm_v (fun H1 => pm_RW none (d + 1) M_Pl_walk Q 30 [(0, .ref 21), (1, .ref 1), (2, .ref s), (3, .int a3), (4, .int (0 : Int32))] [] ((pm_up (pm_up (pm_up H1.1 21 0 (0 : Int32)) 21 1 (0 : Int32)) 21 2 (-2 : Int32)), H1.2))) from h)
set_option maxRecDepth 100000 in
set_option maxHeartbeats 4000000 in
theorem b_Pl_walk_30 {d : Nat} {H : pmT} {Q : pmQ} (s : Nat) (v3 : Int32) (v4 : Int32) (hs : pm_SH[s]? = some (.inl 7))
    (h : ((H.1 s 2) ≤ v4 → Q none H) ∧ (¬ (H.1 s 2) ≤ v4 → (v3 ≤ v4 → Q none H) ∧ (¬ v3 ≤ v4 → pm_R d M_Sh_at [.ref s, .int v4] H (pm_l (fun x2 H1 => pm_R d M_Pr_step [.ref 1, .ref 8, .int x2.toInt32, .int (H1.1 20 2)] H1 (pm_i (fun x4 H3 => (¬ x4 = (-1 : Int32) → (¬ x4 = (1 : Int32) → pm_RW none (d + 1) M_Pl_walk Q 30 [(0, .ref 21), (1, .ref 1), (2, .ref s), (3, .int v3), (4, .int (v4 + (1 : Int32)))] [] ((pm_up (pm_up (pm_up H3.1 21 0 ((H3.1 21 0) + (1 : Int32))) 21 2 x4) 21 1 ((H3.1 21 1) + (0 : Int32))), H3.2)) ∧ (x4 = (1 : Int32) → pm_RW none (d + 1) M_Pl_walk Q 30 [(0, .ref 21), (1, .ref 1), (2, .ref s), (3, .int v3), (4, .int (v4 + (1 : Int32)))] [] ((pm_up (pm_up (pm_up H3.1 21 0 ((H3.1 21 0) + (1 : Int32))) 21 2 x4) 21 1 ((H3.1 21 1) + (1 : Int32))), H3.2))) ∧ (x4 = (-1 : Int32) → Q none H3)))))))) : pm_RW none (d + 1) M_Pl_walk Q 30 [(0, .ref 21), (1, .ref 1), (2, .ref s), (3, .int v3), (4, .int v4)] [] H :=
  pm_body tk_Pl_walk 42 30 (show pm_chkO s 7 (((H.1 s 2) ≤ v4 → Q none H) ∧ (¬ (H.1 s 2) ≤ v4 → (v3 ≤ v4 → Q none H) ∧ (¬ v3 ≤ v4 → pm_chkO s 7 (pm_R d M_Sh_at [.ref s, .int v4] H (pm_l (fun x2 H1 => pm_R d M_Pr_fades [.ref 1] H1 (pm_i (fun x4 H3 => pm_R d M_Pr_step [.ref 1, .ref 8, .int x2.toInt32, .int x4] H3 (pm_i (fun x6 H5 => (¬ x6 = (-1 : Int32) → (¬ x6 = (1 : Int32) → pm_RW none (d + 1) M_Pl_walk Q 30 [(0, .ref 21), (1, .ref 1), (2, .ref s), (3, .int v3), (4, .int (v4 + (1 : Int32)))] [] ((pm_up (pm_up (pm_up H5.1 21 0 ((H5.1 21 0) + (1 : Int32))) 21 2 x6) 21 1 ((H5.1 21 1) + (0 : Int32))), H5.2)) ∧ (x6 = (1 : Int32) → pm_RW none (d + 1) M_Pl_walk Q 30 [(0, .ref 21), (1, .ref 1), (2, .ref s), (3, .int v3), (4, .int (v4 + (1 : Int32)))] [] ((pm_up (pm_up (pm_up H5.1 21 0 ((H5.1 21 0) + (1 : Int32))) 21 2 x6) 21 1 ((H5.1 21 1) + (1 : Int32))), H5.2))) ∧ (x6 = (-1 : Int32) → Q none H5))))))))))) from pm_mkO hs (⟨fun q1 => (h.1 q1), fun q1 => ⟨fun q2 => ((h.2 q1).1 q2), fun q2 => pm_mkO hs (pm_ml' ((h.2 q1).2 q2) (fun x2 H1 z3 => u_Pr_fades  (⟨(pm_ik rfl), pm_mi z3 (fun x4 H3 z4 => ⟨fun q5 => ⟨fun q6 => ((z4.1 q5).1 q6), fun q6 => ((z4.1 q5).2 q6)⟩, fun q5 => (z4.2 q5)⟩)⟩)))⟩⟩))
def T_Pl_earliestStop : List pmE := [
  (0, [], .aload 0, 0, 0, 0),
  (1, [], .aload 1, 0, 0, 0),
  (2, [], .aload 2, 0, 0, 0),
  (3, [], .iconst 60, 1, 0, 0),
  (5, [], .invokeinterface 54 400, 0, 76, 709),
  (8, [], .aload 1, 0, 0, 0),
  (9, [], .getfield 385, 0, 44, 186),
  (12, [], .invokeinterface 32 261, 0, 80, 710),
  (15, [], .istore 3, 0, 0, 0),
  (16, [], .aload 0, 0, 0, 0),
  (17, [], .getfield 320, 0, 9, 214),
  (20, [], .istore 4, 1, 0, 0),
  (22, [], .aload 1, 0, 0, 0),
  (23, [], .getfield 385, 0, 44, 186),
  (26, [], .aload 1, 0, 0, 0),
  (27, [], .getfield 384, 0, 50, 183),
  (30, [], .invokeinterface 25 264, 0, 53, 556),
  (33, [], .iconst 0, 0, 0, 0),
  (34, [], .istore 5, 1, 0, 0),
  (36, [1, 2, 3, 4, 5], .iload 5, 1, 0, 0),
  (38, [], .iload 4, 1, 0, 0),
  (40, [], .if_icmp .ge 83, 0, 0, 0),
  (43, [], .aload 1, 0, 0, 0),
  (44, [], .getfield 385, 0, 44, 186),
  (47, [], .invokeinterface 32 261, 0, 80, 710),
  (50, [], .iload 3, 0, 0, 0),
  (51, [], .if_icmp .lt 57, 0, 0, 0),
  (54, [], .iload 5, 1, 0, 0),
  (56, [], .ireturn, 0, 0, 0),
  (57, [], .aload 1, 0, 0, 0),
  (58, [], .aload 1, 0, 0, 0),
  (59, [], .getfield 385, 0, 44, 186),
  (62, [], .aload 2, 0, 0, 0),
  (63, [], .iload 5, 1, 0, 0),
  (65, [], .invokeinterface 88 522, 0, 64, 568),
  (68, [], .l2i, 0, 0, 0),
  (69, [], .aload 1, 0, 0, 0),
  (70, [], .invokeinterface 72 453, 0, 68, 569),
  (73, [], .invokeinterface 80 465, 0, 72, 573),
  (76, [], .pop, 0, 0, 0),
  (77, [], .iinc 5 1, 0, 0, 0),
  (80, [], .goto 36, 0, 0, 0),
  (83, [], .iload 4, 1, 0, 0),
  (85, [], .ireturn, 0, 0, 0)]
theorem tk_Pl_earliestStop : pm_okT M_Pl_earliestStop T_Pl_earliestStop = true := by decide +kernel
theorem ok_Pl_earliestStop : pm_okm M_Pl_earliestStop := pm_okm_of _ 708 80 706 707 (by decide +kernel)
set_option maxRecDepth 100000 in
set_option maxHeartbeats 4000000 in
theorem m_Pl_earliestStop {d : Nat} {H : pmT} {Q : pmQ} (s : Nat)
    (h : pm_R d M_Pl_walk [.ref 21, .ref 1, .ref s, .int (60 : Int32)] H (pm_v (fun H1 => pm_R d M_Ha_lessonCount [.ref 8] H1 (pm_i (fun x3 H2 => pm_R d M_Ha_takeAll [.ref 8, .ref 2] H2 (pm_v (fun H4 => pm_RW none (d + 1) M_Pl_earliestStop Q 36 [(1, .ref 1), (2, .ref s), (3, .int x3), (4, .int (H2.1 21 0)), (5, .int (0 : Int32))] [] H4))))))) : pm_R (d + 1) M_Pl_earliestStop [.ref 21, .ref 1, .ref s] H Q :=
  pm_walk (n := 20) ok_Pl_earliestStop tk_Pl_earliestStop rfl (Nat.le_of_ble_eq_true rfl) (show pm_R d M_Pl_walk [.ref 21, .ref 1, .ref s, .int (60 : Int32)] H (pm_v (fun H1 => pm_R d M_Ha_lessonCount [.ref 8] H1 (pm_i (fun x3 H2 => pm_R d M_Ha_takeAll [.ref 8, .ref 2] H2 (pm_v (fun H4 => pm_RW none (d + 1) M_Pl_earliestStop Q 36 [(1, .ref 1), (2, .ref s), (3, .int x3), (4, .int (H2.1 21 0)), (5, .int (0 : Int32))] [] H4)))))) from h)
set_option maxRecDepth 100000 in
set_option maxHeartbeats 4000000 in
theorem b_Pl_earliestStop_36 {d : Nat} {H : pmT} {Q : pmQ} (s : Nat) (v3 : Int32) (v4 : Int32) (v5 : Int32) (hs : pm_SH[s]? = some (.inl 7))
    (h : (v4 ≤ v5 → Q (some (.int v4)) H) ∧ (¬ v4 ≤ v5 → pm_R d M_Ha_lessonCount [.ref 8] H (pm_i (fun x2 H1 => (x2 < v3 → pm_R d M_Sh_at [.ref s, .int v5] H1 (pm_l (fun x4 H3 => pm_R d M_Pr_step [.ref 1, .ref 8, .int x4.toInt32, .int (H3.1 20 2)] H3 (pm_i (fun x6 H5 => pm_RW none (d + 1) M_Pl_earliestStop Q 36 [(1, .ref 1), (2, .ref s), (3, .int v3), (4, .int v4), (5, .int (v5 + (1 : Int32)))] [] H5))))) ∧ (¬ x2 < v3 → Q (some (.int v5)) H1))))) : pm_RW none (d + 1) M_Pl_earliestStop Q 36 [(1, .ref 1), (2, .ref s), (3, .int v3), (4, .int v4), (5, .int v5)] [] H :=
  pm_body tk_Pl_earliestStop 21 36 (show (v4 ≤ v5 → Q (some (.int v4)) H) ∧ (¬ v4 ≤ v5 → pm_R d M_Ha_lessonCount [.ref 8] H (pm_i (fun x2 H1 => (x2 < v3 → pm_chkO s 7 (pm_R d M_Sh_at [.ref s, .int v5] H1 (pm_l (fun x4 H3 => pm_R d M_Pr_fades [.ref 1] H3 (pm_i (fun x6 H5 => pm_R d M_Pr_step [.ref 1, .ref 8, .int x4.toInt32, .int x6] H5 (pm_i (fun x8 H7 => pm_RW none (d + 1) M_Pl_earliestStop Q 36 [(1, .ref 1), (2, .ref s), (3, .int v3), (4, .int v4), (5, .int (v5 + (1 : Int32)))] [] H7)))))))) ∧ (¬ x2 < v3 → Q (some (.int v5)) H1)))) from ⟨fun q1 => (h.1 q1), fun q1 => pm_mi (h.2 q1) (fun x2 H1 z2 => ⟨fun q3 => pm_mkO hs (pm_ml' (z2.1 q3) (fun x4 H3 z4 => u_Pr_fades  (⟨(pm_ik rfl), z4⟩))), fun q3 => (z2.2 q3)⟩)⟩)
def T_Pl_playingsTillRight : List pmE := [
  (0, [], .aload 1, 0, 0, 0),
  (1, [], .getfield 385, 0, 44, 186),
  (4, [], .iload 2, 0, 0, 0),
  (5, [], .aload 1, 0, 0, 0),
  (6, [], .getfield 384, 0, 50, 183),
  (9, [], .iload 2, 0, 0, 0),
  (10, [], .invokeinterface 26 272, 0, 83, 644),
  (13, [], .aload 0, 0, 0, 0),
  (14, [], .aload 1, 0, 0, 0),
  (15, [], .iload 2, 0, 0, 0),
  (16, [], .iload 3, 0, 0, 0),
  (17, [], .invokeinterface 57 401, 0, 87, 645),
  (20, [], .ireturn, 0, 0, 0)]
theorem tk_Pl_playingsTillRight : pm_okT M_Pl_playingsTillRight T_Pl_playingsTillRight = true := by decide +kernel
theorem ok_Pl_playingsTillRight : pm_okm M_Pl_playingsTillRight := pm_okm_of _ 643 80 641 642 (by decide +kernel)
set_option maxRecDepth 100000 in
set_option maxHeartbeats 4000000 in
theorem m_Pl_playingsTillRight {d : Nat} {H : pmT} {Q : pmQ} (a2 : Int32) (a3 : Int32)
    (h : pm_R d M_Ha_takeBar [.ref 8, .int a2, .ref 2, .int a2] H (pm_v (fun H1 => pm_R d M_Pl_tillRight [.ref 21, .ref 1, .int a2, .int a3] H1 (pm_i (fun x3 H2 => Q (some (.int x3)) H2))))) : pm_R (d + 1) M_Pl_playingsTillRight [.ref 21, .ref 1, .int a2, .int a3] H Q :=
  pm_walk (n := 13) ok_Pl_playingsTillRight tk_Pl_playingsTillRight rfl (Nat.le_of_ble_eq_true rfl) (show pm_R d M_Ha_takeBar [.ref 8, .int a2, .ref 2, .int a2] H (pm_v (fun H1 => pm_R d M_Pl_tillRight [.ref 21, .ref 1, .int a2, .int a3] H1 (pm_i (fun x3 H2 => Q (some (.int x3)) H2)))) from h)
def T_Pl_tillRight : List pmE := [
  (0, [], .iconst 0, 0, 0, 0),
  (1, [], .istore 4, 1, 0, 0),
  (3, [1, 2, 3, 4], .iload 4, 1, 0, 0),
  (5, [], .iconst 99, 1, 0, 0),
  (7, [], .if_icmp .gt 41, 0, 0, 0),
  (10, [], .aload 1, 0, 0, 0),
  (11, [], .getfield 385, 0, 44, 186),
  (14, [], .iload 2, 0, 0, 0),
  (15, [], .invokeinterface 30 265, 0, 91, 649),
  (18, [], .ifCond .le 24, 0, 0, 0),
  (21, [], .iload 4, 1, 0, 0),
  (23, [], .ireturn, 0, 0, 0),
  (24, [], .aload 1, 0, 0, 0),
  (25, [], .aload 1, 0, 0, 0),
  (26, [], .getfield 385, 0, 44, 186),
  (29, [], .iload 2, 0, 0, 0),
  (30, [], .iload 3, 0, 0, 0),
  (31, [], .invokeinterface 75 465, 0, 95, 650),
  (34, [], .pop, 0, 0, 0),
  (35, [], .iinc 4 1, 0, 0, 0),
  (38, [], .goto 3, 0, 0, 0),
  (41, [], .iconst (-2), 1, 0, 0),
  (43, [], .ireturn, 0, 0, 0)]
theorem tk_Pl_tillRight : pm_okT M_Pl_tillRight T_Pl_tillRight = true := by decide +kernel
theorem ok_Pl_tillRight : pm_okm M_Pl_tillRight := pm_okm_of _ 648 80 647 15 (by decide +kernel)
set_option maxRecDepth 100000 in
set_option maxHeartbeats 4000000 in
theorem m_Pl_tillRight {d : Nat} {H : pmT} {Q : pmQ} (a2 : Int32) (a3 : Int32)
    (h : pm_RW none (d + 1) M_Pl_tillRight Q 3 [(1, .ref 1), (2, .int a2), (3, .int a3), (4, .int (0 : Int32))] [] H) : pm_R (d + 1) M_Pl_tillRight [.ref 21, .ref 1, .int a2, .int a3] H Q :=
  pm_walk (n := 3) ok_Pl_tillRight tk_Pl_tillRight rfl (Nat.le_of_ble_eq_true rfl) (show pm_RW none (d + 1) M_Pl_tillRight Q 3 [(1, .ref 1), (2, .int a2), (3, .int a3), (4, .int (0 : Int32))] [] H from h)
set_option maxRecDepth 100000 in
set_option maxHeartbeats 4000000 in
theorem b_Pl_tillRight_3 {d : Nat} {H : pmT} {Q : pmQ} (v2 : Int32) (v3 : Int32) (v4 : Int32)
    (h : ((99 : Int32) < v4 → Q (some (.int (-2 : Int32))) H) ∧ (¬ (99 : Int32) < v4 → vp_in v2 12 ∧ ((((H.1 9 v2.toNatClampNeg) - (H.1 10 v2.toNatClampNeg)) ≤ 0 → pm_R d M_Pr_playOnce [.ref 1, .ref 8, .int v2, .int v3] H (pm_i (fun x2 H1 => pm_RW none (d + 1) M_Pl_tillRight Q 3 [(1, .ref 1), (2, .int v2), (3, .int v3), (4, .int (v4 + (1 : Int32)))] [] H1))) ∧ (¬ ((H.1 9 v2.toNatClampNeg) - (H.1 10 v2.toNatClampNeg)) ≤ 0 → Q (some (.int v4)) H)))) : pm_RW none (d + 1) M_Pl_tillRight Q 3 [(1, .ref 1), (2, .int v2), (3, .int v3), (4, .int v4)] [] H :=
  pm_body tk_Pl_tillRight 17 3 (show ((99 : Int32) < v4 → Q (some (.int (-2 : Int32))) H) ∧ (¬ (99 : Int32) < v4 → pm_R d M_Ha_lead [.ref 8, .int v2] H (pm_i (fun x2 H1 => (x2 ≤ 0 → pm_R d M_Pr_playOnce [.ref 1, .ref 8, .int v2, .int v3] H1 (pm_i (fun x4 H3 => pm_RW none (d + 1) M_Pl_tillRight Q 3 [(1, .ref 1), (2, .int v2), (3, .int v3), (4, .int (v4 + (1 : Int32)))] [] H3))) ∧ (¬ x2 ≤ 0 → Q (some (.int v4)) H1)))) from ⟨fun q1 => (h.1 q1), fun q1 => u_Ha_lead_8 v2 (⟨(h.2 q1).1, ⟨(h.2 q1).1, ⟨fun q2 => ((h.2 q1).2.1 q2), fun q2 => ((h.2 q1).2.2 q2)⟩⟩⟩)⟩)
def T_Pl_nightsRight : List pmE := [
  (0, [], .aload 1, 0, 0, 0),
  (1, [], .getfield 385, 0, 44, 186),
  (4, [], .iload 2, 0, 0, 0),
  (5, [], .aload 1, 0, 0, 0),
  (6, [], .getfield 384, 0, 50, 183),
  (9, [], .iload 2, 0, 0, 0),
  (10, [], .invokeinterface 26 272, 0, 83, 644),
  (13, [], .aload 1, 0, 0, 0),
  (14, [], .getfield 385, 0, 44, 186),
  (17, [], .iload 2, 0, 0, 0),
  (18, [], .invokeinterface 30 265, 0, 91, 649),
  (21, [], .ifCond .gt 27, 0, 0, 0),
  (24, [], .iconst (-2), 1, 0, 0),
  (26, [], .ireturn, 0, 0, 0),
  (27, [], .iconst 0, 0, 0, 0),
  (28, [], .istore 3, 0, 0, 0),
  (29, [1, 2, 3], .iload 3, 0, 0, 0),
  (30, [], .iconst 99, 1, 0, 0),
  (32, [], .if_icmp .ge 67, 0, 0, 0),
  (35, [], .aload 1, 0, 0, 0),
  (36, [], .aload 1, 0, 0, 0),
  (37, [], .getfield 385, 0, 44, 186),
  (40, [], .iload 2, 0, 0, 0),
  (41, [], .aload 1, 0, 0, 0),
  (42, [], .invokeinterface 72 453, 0, 68, 569),
  (45, [], .invokeinterface 78 464, 0, 98, 659),
  (48, [], .aload 1, 0, 0, 0),
  (49, [], .getfield 385, 0, 44, 186),
  (52, [], .iload 2, 0, 0, 0),
  (53, [], .invokeinterface 30 265, 0, 91, 649),
  (56, [], .ifCond .gt 61, 0, 0, 0),
  (59, [], .iload 3, 0, 0, 0),
  (60, [], .ireturn, 0, 0, 0),
  (61, [], .iinc 3 1, 0, 0, 0),
  (64, [], .goto 29, 0, 0, 0),
  (67, [], .iconst 99, 1, 0, 0),
  (69, [], .ireturn, 0, 0, 0)]
theorem tk_Pl_nightsRight : pm_okT M_Pl_nightsRight T_Pl_nightsRight = true := by decide +kernel
theorem ok_Pl_nightsRight : pm_okm M_Pl_nightsRight := pm_okm_of _ 658 80 656 657 (by decide +kernel)
set_option maxRecDepth 100000 in
set_option maxHeartbeats 4000000 in
theorem m_Pl_nightsRight {d : Nat} {H : pmT} {Q : pmQ} (a2 : Int32)
    (h : pm_R d M_Ha_takeBar [.ref 8, .int a2, .ref 2, .int a2] H (pm_v (fun H1 => vp_in a2 12 ∧ ((0 < ((H1.1 9 a2.toNatClampNeg) - (H1.1 10 a2.toNatClampNeg)) → pm_RW none (d + 1) M_Pl_nightsRight Q 29 [(1, .ref 1), (2, .int a2), (3, .int (0 : Int32))] [] H1) ∧ (¬ 0 < ((H1.1 9 a2.toNatClampNeg) - (H1.1 10 a2.toNatClampNeg)) → Q (some (.int (-2 : Int32))) H1))))) : pm_R (d + 1) M_Pl_nightsRight [.ref 21, .ref 1, .int a2] H Q :=
  pm_walk (n := 15) ok_Pl_nightsRight tk_Pl_nightsRight rfl (Nat.le_of_ble_eq_true rfl) (show pm_R d M_Ha_takeBar [.ref 8, .int a2, .ref 2, .int a2] H (pm_v (fun H1 => pm_R d M_Ha_lead [.ref 8, .int a2] H1 (pm_i (fun x3 H2 => (0 < x3 → pm_RW none (d + 1) M_Pl_nightsRight Q 29 [(1, .ref 1), (2, .int a2), (3, .int (0 : Int32))] [] H2) ∧ (¬ 0 < x3 → Q (some (.int (-2 : Int32))) H2))))) from pm_mv' h (fun H1 z1 => u_Ha_lead_8 a2 (⟨z1.1, ⟨z1.1, ⟨fun q2 => (z1.2.1 q2), fun q2 => (z1.2.2 q2)⟩⟩⟩)))
set_option maxRecDepth 100000 in
set_option maxHeartbeats 4000000 in
theorem b_Pl_nightsRight_29 {d : Nat} {H : pmT} {Q : pmQ} (v2 : Int32) (v3 : Int32)
    (h : ((99 : Int32) ≤ v3 → Q (some (.int (99 : Int32))) H) ∧ (¬ (99 : Int32) ≤ v3 → pm_R d M_Pr_sleepOver [.ref 1, .ref 8, .int v2, .int (H.1 20 2)] H (pm_v (fun H1 => vp_in v2 12 ∧ ((0 < ((H1.1 9 v2.toNatClampNeg) - (H1.1 10 v2.toNatClampNeg)) → pm_RW none (d + 1) M_Pl_nightsRight Q 29 [(1, .ref 1), (2, .int v2), (3, .int (v3 + (1 : Int32)))] [] H1) ∧ (¬ 0 < ((H1.1 9 v2.toNatClampNeg) - (H1.1 10 v2.toNatClampNeg)) → Q (some (.int v3)) H1)))))) : pm_RW none (d + 1) M_Pl_nightsRight Q 29 [(1, .ref 1), (2, .int v2), (3, .int v3)] [] H :=
  pm_body tk_Pl_nightsRight 17 29 (show ((99 : Int32) ≤ v3 → Q (some (.int (99 : Int32))) H) ∧ (¬ (99 : Int32) ≤ v3 → pm_R d M_Pr_fades [.ref 1] H (pm_i (fun x2 H1 => pm_R d M_Pr_sleepOver [.ref 1, .ref 8, .int v2, .int x2] H1 (pm_v (fun H3 => pm_R d M_Ha_lead [.ref 8, .int v2] H3 (pm_i (fun x5 H4 => (0 < x5 → pm_RW none (d + 1) M_Pl_nightsRight Q 29 [(1, .ref 1), (2, .int v2), (3, .int (v3 + (1 : Int32)))] [] H4) ∧ (¬ 0 < x5 → Q (some (.int v3)) H4)))))))) from ⟨fun q1 => (h.1 q1), fun q1 => u_Pr_fades  (⟨(pm_ik rfl), pm_mv' (h.2 q1) (fun H1 z2 => u_Ha_lead_8 v2 (⟨z2.1, ⟨z2.1, ⟨fun q3 => (z2.2.1 q3), fun q3 => (z2.2.2 q3)⟩⟩⟩))⟩)⟩)
def T_Pl_choose : List pmE := [
  (0, [], .iconst 0, 0, 0, 0),
  (1, [], .istore 3, 0, 0, 0),
  (2, [0, 1, 2, 3], .iload 3, 0, 0, 0),
  (3, [], .aload 1, 0, 0, 0),
  (4, [], .getfield 384, 0, 50, 183),
  (7, [], .getfield 192, 0, 102, 110),
  (10, [], .if_icmp .ge 31, 0, 0, 0),
  (13, [], .aload 0, 0, 0, 0),
  (14, [], .getfield 323, 0, 21, 220),
  (17, [], .iload 3, 0, 0, 0),
  (18, [], .aload 0, 0, 0, 0),
  (19, [], .aload 1, 0, 0, 0),
  (20, [], .iload 3, 0, 0, 0),
  (21, [], .invokeinterface 60 397, 0, 105, 668),
  (24, [], .iastore, 0, 0, 0),
  (25, [], .iinc 3 1, 0, 0, 0),
  (28, [], .goto 2, 0, 0, 0),
  (31, [], .aload 0, 0, 0, 0),
  (32, [], .iconst 0, 0, 0, 0),
  (33, [], .putfield 324, 0, 25, 221),
  (36, [], .aload 0, 0, 0, 0),
  (37, [], .iconst 0, 0, 0, 0),
  (38, [], .putfield 325, 0, 28, 223),
  (41, [], .iconst 0, 0, 0, 0),
  (42, [], .istore 3, 0, 0, 0),
  (43, [0, 1, 2, 3], .iload 3, 0, 0, 0),
  (44, [], .aload 1, 0, 0, 0),
  (45, [], .getfield 384, 0, 50, 183),
  (48, [], .getfield 192, 0, 102, 110),
  (51, [], .if_icmp .ge 124, 0, 0, 0),
  (54, [], .aload 0, 0, 0, 0),
  (55, [], .aload 1, 0, 0, 0),
  (56, [], .getfield 384, 0, 50, 183),
  (59, [], .getfield 192, 0, 102, 110),
  (62, [], .invokeinterface 61 393, 0, 109, 674),
  (65, [], .istore 4, 1, 0, 0),
  (67, [], .iload 4, 1, 0, 0),
  (69, [], .ifCond .lt 88, 0, 0, 0),
  (72, [], .aload 0, 0, 0, 0),
  (73, [], .getfield 325, 0, 28, 223),
  (76, [], .aload 0, 0, 0, 0),
  (77, [], .getfield 323, 0, 21, 220),
  (80, [], .iload 4, 1, 0, 0),
  (82, [], .iaload, 0, 0, 0),
  (83, [], .iadd, 0, 0, 0),
  (84, [], .iload 2, 0, 0, 0),
  (85, [], .if_icmp .le 89, 0, 0, 0),
  (88, [], .return_, 0, 0, 0),
  (89, [], .aload 0, 0, 0, 0),
  (90, [], .dup, 0, 0, 0),
  (91, [], .getfield 324, 0, 25, 221),
  (94, [], .iconst 1, 0, 0, 0),
  (95, [], .iload 4, 1, 0, 0),
  (97, [], .ishl, 0, 0, 0),
  (98, [], .ior, 0, 0, 0),
  (99, [], .putfield 324, 0, 25, 221),
  (102, [], .aload 0, 0, 0, 0),
  (103, [], .dup, 0, 0, 0),
  (104, [], .getfield 325, 0, 28, 223),
  (107, [], .aload 0, 0, 0, 0),
  (108, [], .getfield 323, 0, 21, 220),
  (111, [], .iload 4, 1, 0, 0),
  (113, [], .iaload, 0, 0, 0),
  (114, [], .iadd, 0, 0, 0),
  (115, [], .putfield 325, 0, 28, 223),
  (118, [], .iinc 3 1, 0, 0, 0),
  (121, [], .goto 43, 0, 0, 0),
  (124, [], .return_, 0, 0, 0)]
theorem tk_Pl_choose : pm_okT M_Pl_choose T_Pl_choose = true := by decide +kernel
theorem ok_Pl_choose : pm_okm M_Pl_choose := pm_okm_of _ 667 80 665 666 (by decide +kernel)
set_option maxRecDepth 100000 in
set_option maxHeartbeats 4000000 in
theorem m_Pl_choose {d : Nat} {H : pmT} {Q : pmQ} (a2 : Int32)
    (h : pm_RW none (d + 1) M_Pl_choose Q 2 [(0, .ref 21), (1, .ref 1), (2, .int a2), (3, .int (0 : Int32))] [] H) : pm_R (d + 1) M_Pl_choose [.ref 21, .ref 1, .int a2] H Q :=
  pm_walk (n := 3) ok_Pl_choose tk_Pl_choose rfl (Nat.le_of_ble_eq_true rfl) (show pm_RW none (d + 1) M_Pl_choose Q 2 [(0, .ref 21), (1, .ref 1), (2, .int a2), (3, .int (0 : Int32))] [] H from h)
set_option maxRecDepth 100000 in
set_option maxHeartbeats 4000000 in
theorem b_Pl_choose_2 {d : Nat} {H : pmT} {Q : pmQ} (v2 : Int32) (v3 : Int32)
    (h : ((H.1 2 0) ≤ v3 → pm_RW none (d + 1) M_Pl_choose Q 43 [(0, .ref 21), (1, .ref 1), (2, .int v2), (3, .int (0 : Int32))] [] ((pm_up (pm_up H.1 21 4 (0 : Int32)) 21 5 (0 : Int32)), H.2)) ∧ (¬ (H.1 2 0) ≤ v3 → pm_R d M_Pl_playingsForMorning [.ref 21, .ref 1, .int v3] H (pm_i (fun x2 H1 => vp_in v3 12 ∧ (pm_RW none (d + 1) M_Pl_choose Q 2 [(0, .ref 21), (1, .ref 1), (2, .int v2), (3, .int (v3 + (1 : Int32)))] [] ((pm_up H1.1 22 v3.toNatClampNeg x2), H1.2)))))) : pm_RW none (d + 1) M_Pl_choose Q 2 [(0, .ref 21), (1, .ref 1), (2, .int v2), (3, .int v3)] [] H :=
  pm_body tk_Pl_choose 15 2 (show ((H.1 2 0) ≤ v3 → pm_RW none (d + 1) M_Pl_choose Q 43 [(0, .ref 21), (1, .ref 1), (2, .int v2), (3, .int (0 : Int32))] [] ((pm_up (pm_up H.1 21 4 (0 : Int32)) 21 5 (0 : Int32)), H.2)) ∧ (¬ (H.1 2 0) ≤ v3 → pm_R d M_Pl_playingsForMorning [.ref 21, .ref 1, .int v3] H (pm_i (fun x2 H1 => vp_in v3 12 ∧ (pm_RW none (d + 1) M_Pl_choose Q 2 [(0, .ref 21), (1, .ref 1), (2, .int v2), (3, .int (v3 + (1 : Int32)))] [] ((pm_up H1.1 22 v3.toNatClampNeg x2), H1.2))))) from ⟨fun q1 => (h.1 q1), fun q1 => pm_mi (h.2 q1) (fun x2 H1 z2 => ⟨z2.1, z2.2⟩)⟩)
set_option maxRecDepth 100000 in
set_option maxHeartbeats 4000000 in
theorem b_Pl_choose_43 {d : Nat} {H : pmT} {Q : pmQ} (v2 : Int32) (v3 : Int32)
    (h : ((H.1 2 0) ≤ v3 → Q none H) ∧ (¬ (H.1 2 0) ≤ v3 → pm_R d M_Pl_cheapestLeft [.ref 21, .int (H.1 2 0)] H (pm_i (fun x2 H1 => (x2 < 0 → Q none H1) ∧ (¬ x2 < 0 → vp_in x2 12 ∧ ((((H1.1 21 5) + (H1.1 22 x2.toNatClampNeg)) ≤ v2 → pm_RW none (d + 1) M_Pl_choose Q 43 [(0, .ref 21), (1, .ref 1), (2, .int v2), (3, .int (v3 + (1 : Int32)))] [] ((pm_up (pm_up H1.1 21 4 ((H1.1 21 4) ||| ((1 : Int32) <<< (x2 &&& 31)))) 21 5 ((H1.1 21 5) + (H1.1 22 x2.toNatClampNeg))), H1.2)) ∧ (¬ ((H1.1 21 5) + (H1.1 22 x2.toNatClampNeg)) ≤ v2 → Q none H1))))))) : pm_RW none (d + 1) M_Pl_choose Q 43 [(0, .ref 21), (1, .ref 1), (2, .int v2), (3, .int v3)] [] H :=
  pm_body tk_Pl_choose 41 43 (show ((H.1 2 0) ≤ v3 → Q none H) ∧ (¬ (H.1 2 0) ≤ v3 → pm_R d M_Pl_cheapestLeft [.ref 21, .int (H.1 2 0)] H (pm_i (fun x2 H1 => (x2 < 0 → Q none H1) ∧ (¬ x2 < 0 → vp_in x2 12 ∧ ((((H1.1 21 5) + (H1.1 22 x2.toNatClampNeg)) ≤ v2 → vp_in x2 12 ∧ (pm_RW none (d + 1) M_Pl_choose Q 43 [(0, .ref 21), (1, .ref 1), (2, .int v2), (3, .int (v3 + (1 : Int32)))] [] ((pm_up (pm_up H1.1 21 4 ((H1.1 21 4) ||| ((1 : Int32) <<< (x2 &&& 31)))) 21 5 ((H1.1 21 5) + (H1.1 22 x2.toNatClampNeg))), H1.2))) ∧ (¬ ((H1.1 21 5) + (H1.1 22 x2.toNatClampNeg)) ≤ v2 → Q none H1)))))) from ⟨fun q1 => (h.1 q1), fun q1 => pm_mi (h.2 q1) (fun x2 H1 z2 => ⟨fun q3 => (z2.1 q3), fun q3 => ⟨(z2.2 q3).1, ⟨fun q4 => ⟨(z2.2 q3).1, ((z2.2 q3).2.1 q4)⟩, fun q4 => ((z2.2 q3).2.2 q4)⟩⟩⟩)⟩)
def T_Pl_playingsForMorning : List pmE := [
  (0, [], .aload 1, 0, 0, 0),
  (1, [], .getfield 385, 0, 44, 186),
  (4, [], .iload 2, 0, 0, 0),
  (5, [], .aload 1, 0, 0, 0),
  (6, [], .getfield 384, 0, 50, 183),
  (9, [], .iload 2, 0, 0, 0),
  (10, [], .invokeinterface 26 272, 0, 83, 644),
  (13, [], .iconst 0, 0, 0, 0),
  (14, [], .istore 3, 0, 0, 0),
  (15, [1, 2, 3], .iload 3, 0, 0, 0),
  (16, [], .iconst 60, 1, 0, 0),
  (18, [], .if_icmp .gt 73, 0, 0, 0),
  (21, [], .aload 1, 0, 0, 0),
  (22, [], .aload 1, 0, 0, 0),
  (23, [], .getfield 385, 0, 44, 186),
  (26, [], .iload 2, 0, 0, 0),
  (27, [], .aload 1, 0, 0, 0),
  (28, [], .invokeinterface 72 453, 0, 68, 569),
  (31, [], .invokeinterface 77 465, 0, 112, 672),
  (34, [], .istore 4, 1, 0, 0),
  (36, [], .iload 4, 1, 0, 0),
  (38, [], .aload 1, 0, 0, 0),
  (39, [], .aload 1, 0, 0, 0),
  (40, [], .getfield 385, 0, 44, 186),
  (43, [], .iload 2, 0, 0, 0),
  (44, [], .aload 1, 0, 0, 0),
  (45, [], .invokeinterface 72 453, 0, 68, 569),
  (48, [], .invokeinterface 76 465, 0, 115, 673),
  (51, [], .if_icmp .le 56, 0, 0, 0),
  (54, [], .iload 3, 0, 0, 0),
  (55, [], .ireturn, 0, 0, 0),
  (56, [], .aload 1, 0, 0, 0),
  (57, [], .aload 1, 0, 0, 0),
  (58, [], .getfield 385, 0, 44, 186),
  (61, [], .iload 2, 0, 0, 0),
  (62, [], .iconst 1, 0, 0, 0),
  (63, [], .invokeinterface 75 465, 0, 95, 650),
  (66, [], .pop, 0, 0, 0),
  (67, [], .iinc 3 1, 0, 0, 0),
  (70, [], .goto 15, 0, 0, 0),
  (73, [], .iconst 1000, 2, 0, 0),
  (76, [], .ireturn, 0, 0, 0)]
theorem tk_Pl_playingsForMorning : pm_okT M_Pl_playingsForMorning T_Pl_playingsForMorning = true := by decide +kernel
theorem ok_Pl_playingsForMorning : pm_okm M_Pl_playingsForMorning := pm_okm_of _ 671 80 670 16 (by decide +kernel)
set_option maxRecDepth 100000 in
set_option maxHeartbeats 4000000 in
theorem m_Pl_playingsForMorning {d : Nat} {H : pmT} {Q : pmQ} (a2 : Int32)
    (h : pm_R d M_Ha_takeBar [.ref 8, .int a2, .ref 2, .int a2] H (pm_v (fun H1 => pm_RW none (d + 1) M_Pl_playingsForMorning Q 15 [(1, .ref 1), (2, .int a2), (3, .int (0 : Int32))] [] H1))) : pm_R (d + 1) M_Pl_playingsForMorning [.ref 21, .ref 1, .int a2] H Q :=
  pm_walk (n := 10) ok_Pl_playingsForMorning tk_Pl_playingsForMorning rfl (Nat.le_of_ble_eq_true rfl) (show pm_R d M_Ha_takeBar [.ref 8, .int a2, .ref 2, .int a2] H (pm_v (fun H1 => pm_RW none (d + 1) M_Pl_playingsForMorning Q 15 [(1, .ref 1), (2, .int a2), (3, .int (0 : Int32))] [] H1)) from h)
set_option maxRecDepth 100000 in
set_option maxHeartbeats 4000000 in
theorem b_Pl_playingsForMorning_15 {d : Nat} {H : pmT} {Q : pmQ} (v2 : Int32) (v3 : Int32)
    (h : ((60 : Int32) < v3 → Q (some (.int (1000 : Int32))) H) ∧ (¬ (60 : Int32) < v3 → pm_R d M_Pr_rightByMorning [.ref 1, .ref 8, .int v2, .int (H.1 20 2)] H (pm_i (fun x2 H1 => pm_R d M_Pr_wrongByMorning [.ref 1, .ref 8, .int v2, .int (H1.1 20 2)] H1 (pm_i (fun x4 H3 => (x2 ≤ x4 → pm_R d M_Pr_playOnce [.ref 1, .ref 8, .int v2, .int (1 : Int32)] H3 (pm_i (fun x6 H5 => pm_RW none (d + 1) M_Pl_playingsForMorning Q 15 [(1, .ref 1), (2, .int v2), (3, .int (v3 + (1 : Int32)))] [] H5))) ∧ (¬ x2 ≤ x4 → Q (some (.int v3)) H3))))))) : pm_RW none (d + 1) M_Pl_playingsForMorning Q 15 [(1, .ref 1), (2, .int v2), (3, .int v3)] [] H :=
  pm_body tk_Pl_playingsForMorning 29 15 (show ((60 : Int32) < v3 → Q (some (.int (1000 : Int32))) H) ∧ (¬ (60 : Int32) < v3 → pm_R d M_Pr_fades [.ref 1] H (pm_i (fun x2 H1 => pm_R d M_Pr_rightByMorning [.ref 1, .ref 8, .int v2, .int x2] H1 (pm_i (fun x4 H3 => pm_R d M_Pr_fades [.ref 1] H3 (pm_i (fun x6 H5 => pm_R d M_Pr_wrongByMorning [.ref 1, .ref 8, .int v2, .int x6] H5 (pm_i (fun x8 H7 => (x4 ≤ x8 → pm_R d M_Pr_playOnce [.ref 1, .ref 8, .int v2, .int (1 : Int32)] H7 (pm_i (fun x10 H9 => pm_RW none (d + 1) M_Pl_playingsForMorning Q 15 [(1, .ref 1), (2, .int v2), (3, .int (v3 + (1 : Int32)))] [] H9))) ∧ (¬ x4 ≤ x8 → Q (some (.int v3)) H7)))))))))) from ⟨fun q1 => (h.1 q1), fun q1 => u_Pr_fades  (⟨(pm_ik rfl), pm_mi (h.2 q1) (fun x2 H1 z2 => u_Pr_fades  (⟨(pm_ik rfl), pm_mi z2 (fun x4 H3 z3 => ⟨fun q4 => (z3.1 q4), fun q4 => (z3.2 q4)⟩)⟩))⟩)⟩)
def T_Pl_cheapestLeft : List pmE := [
  (0, [], .iconst (-1), 0, 0, 0),
  (1, [], .istore 2, 0, 0, 0),
  (2, [], .iconst 0, 0, 0, 0),
  (3, [], .istore 3, 0, 0, 0),
  (4, [0, 1, 2, 3], .iload 3, 0, 0, 0),
  (5, [], .iload 1, 0, 0, 0),
  (6, [], .if_icmp .ge 59, 0, 0, 0),
  (9, [], .aload 0, 0, 0, 0),
  (10, [], .getfield 324, 0, 25, 221),
  (13, [], .iload 3, 0, 0, 0),
  (14, [], .ishr, 0, 0, 0),
  (15, [], .iconst 1, 0, 0, 0),
  (16, [], .iand, 0, 0, 0),
  (17, [], .ifCond .ne 24, 0, 0, 0),
  (20, [], .iconst 1, 0, 0, 0),
  (21, [], .goto 25, 0, 0, 0),
  (24, [], .iconst 0, 0, 0, 0),
  (25, [], .istore 4, 1, 0, 0),
  (27, [], .iload 4, 1, 0, 0),
  (29, [], .ifCond .eq 53, 0, 0, 0),
  (32, [], .iload 2, 0, 0, 0),
  (33, [], .ifCond .lt 51, 0, 0, 0),
  (36, [], .aload 0, 0, 0, 0),
  (37, [], .getfield 323, 0, 21, 220),
  (40, [], .iload 3, 0, 0, 0),
  (41, [], .iaload, 0, 0, 0),
  (42, [], .aload 0, 0, 0, 0),
  (43, [], .getfield 323, 0, 21, 220),
  (46, [], .iload 2, 0, 0, 0),
  (47, [], .iaload, 0, 0, 0),
  (48, [], .if_icmp .ge 53, 0, 0, 0),
  (51, [], .iload 3, 0, 0, 0),
  (52, [], .istore 2, 0, 0, 0),
  (53, [], .iinc 3 1, 0, 0, 0),
  (56, [], .goto 4, 0, 0, 0),
  (59, [], .iload 2, 0, 0, 0),
  (60, [], .ireturn, 0, 0, 0)]
theorem tk_Pl_cheapestLeft : pm_okT M_Pl_cheapestLeft T_Pl_cheapestLeft = true := by decide +kernel
theorem ok_Pl_cheapestLeft : pm_okm M_Pl_cheapestLeft := pm_okm_of _ 677 80 676 17 (by decide +kernel)
set_option maxRecDepth 100000 in
set_option maxHeartbeats 4000000 in
theorem m_Pl_cheapestLeft {d : Nat} {H : pmT} {Q : pmQ} (a1 : Int32)
    (h : pm_RW none d M_Pl_cheapestLeft Q 4 [(0, .ref 21), (1, .int a1), (2, .int (-1 : Int32)), (3, .int (0 : Int32))] [] H) : pm_R d M_Pl_cheapestLeft [.ref 21, .int a1] H Q :=
  pm_walk (n := 5) ok_Pl_cheapestLeft tk_Pl_cheapestLeft rfl (Nat.le_of_ble_eq_true rfl) (show pm_RW none d M_Pl_cheapestLeft Q 4 [(0, .ref 21), (1, .int a1), (2, .int (-1 : Int32)), (3, .int (0 : Int32))] [] H from h)
set_option maxRecDepth 100000 in
set_option maxHeartbeats 4000000 in
theorem b_Pl_cheapestLeft_4 {d : Nat} {H : pmT} {Q : pmQ} (v1 : Int32) (v2 : Int32) (v3 : Int32)
    (h : (v1 ≤ v3 → Q (some (.int v2)) H) ∧ (¬ v1 ≤ v3 → (¬ (((H.1 21 4) >>> (v3 &&& 31)) &&& (1 : Int32)) = 0 → pm_RW none d M_Pl_cheapestLeft Q 4 [(0, .ref 21), (1, .int v1), (2, .int v2), (3, .int (v3 + (1 : Int32)))] [] H) ∧ ((((H.1 21 4) >>> (v3 &&& 31)) &&& (1 : Int32)) = 0 → (v2 < 0 → pm_RW none d M_Pl_cheapestLeft Q 4 [(0, .ref 21), (1, .int v1), (2, .int v3), (3, .int (v3 + (1 : Int32)))] [] H) ∧ (¬ v2 < 0 → vp_in v3 12 ∧ (vp_in v2 12 ∧ (((H.1 22 v2.toNatClampNeg) ≤ (H.1 22 v3.toNatClampNeg) → pm_RW none d M_Pl_cheapestLeft Q 4 [(0, .ref 21), (1, .int v1), (2, .int v2), (3, .int (v3 + (1 : Int32)))] [] H) ∧ (¬ (H.1 22 v2.toNatClampNeg) ≤ (H.1 22 v3.toNatClampNeg) → pm_RW none d M_Pl_cheapestLeft Q 4 [(0, .ref 21), (1, .int v1), (2, .int v3), (3, .int (v3 + (1 : Int32)))] [] H))))))) : pm_RW none d M_Pl_cheapestLeft Q 4 [(0, .ref 21), (1, .int v1), (2, .int v2), (3, .int v3)] [] H :=
  pm_body tk_Pl_cheapestLeft 30 4 (show (v1 ≤ v3 → Q (some (.int v2)) H) ∧ (¬ v1 ≤ v3 → (¬ (((H.1 21 4) >>> (v3 &&& 31)) &&& (1 : Int32)) = 0 → ((0 : Int32) = 0 → pm_RW none d M_Pl_cheapestLeft Q 4 [(0, .ref 21), (1, .int v1), (2, .int v2), (3, .int (v3 + (1 : Int32)))] [] H) ∧ (¬ (0 : Int32) = 0 → (v2 < 0 → pm_RW none d M_Pl_cheapestLeft Q 4 [(0, .ref 21), (1, .int v1), (2, .int v3), (3, .int (v3 + (1 : Int32)))] [] H) ∧ (¬ v2 < 0 → vp_in v3 12 ∧ (vp_in v2 12 ∧ (((H.1 22 v2.toNatClampNeg) ≤ (H.1 22 v3.toNatClampNeg) → pm_RW none d M_Pl_cheapestLeft Q 4 [(0, .ref 21), (1, .int v1), (2, .int v2), (3, .int (v3 + (1 : Int32)))] [] H) ∧ (¬ (H.1 22 v2.toNatClampNeg) ≤ (H.1 22 v3.toNatClampNeg) → pm_RW none d M_Pl_cheapestLeft Q 4 [(0, .ref 21), (1, .int v1), (2, .int v3), (3, .int (v3 + (1 : Int32)))] [] H)))))) ∧ ((((H.1 21 4) >>> (v3 &&& 31)) &&& (1 : Int32)) = 0 → ((1 : Int32) = 0 → pm_RW none d M_Pl_cheapestLeft Q 4 [(0, .ref 21), (1, .int v1), (2, .int v2), (3, .int (v3 + (1 : Int32)))] [] H) ∧ (¬ (1 : Int32) = 0 → (v2 < 0 → pm_RW none d M_Pl_cheapestLeft Q 4 [(0, .ref 21), (1, .int v1), (2, .int v3), (3, .int (v3 + (1 : Int32)))] [] H) ∧ (¬ v2 < 0 → vp_in v3 12 ∧ (vp_in v2 12 ∧ (((H.1 22 v2.toNatClampNeg) ≤ (H.1 22 v3.toNatClampNeg) → pm_RW none d M_Pl_cheapestLeft Q 4 [(0, .ref 21), (1, .int v1), (2, .int v2), (3, .int (v3 + (1 : Int32)))] [] H) ∧ (¬ (H.1 22 v2.toNatClampNeg) ≤ (H.1 22 v3.toNatClampNeg) → pm_RW none d M_Pl_cheapestLeft Q 4 [(0, .ref 21), (1, .int v1), (2, .int v3), (3, .int (v3 + (1 : Int32)))] [] H))))))) from ⟨fun q1 => (h.1 q1), fun q1 => ⟨fun q2 => ⟨fun _ => ((h.2 q1).1 q2), fun z => absurd (by decide) z⟩, fun q2 => ⟨fun z => absurd z (by decide), fun _ => ⟨fun q3 => (((h.2 q1).2 q2).1 q3), fun q3 => ⟨(((h.2 q1).2 q2).2 q3).1, ⟨(((h.2 q1).2 q2).2 q3).2.1, ⟨fun q4 => ((((h.2 q1).2 q2).2 q3).2.2.1 q4), fun q4 => ((((h.2 q1).2 q2).2 q3).2.2.2 q4)⟩⟩⟩⟩⟩⟩⟩)
def T_Pl_spreadOver : List pmE := [
  (0, [], .aload 0, 0, 0, 0),
  (1, [], .iload 4, 1, 0, 0),
  (3, [], .iconst 1, 0, 0, 0),
  (4, [], .isub, 0, 0, 0),
  (5, [], .putfield 327, 0, 34, 226),
  (8, [], .aload 0, 0, 0, 0),
  (9, [], .iconst (-2000000000), 3, 40, 213),
  (11, [], .putfield 329, 0, 41, 229),
  (14, [], .aload 1, 0, 0, 0),
  (15, [], .getfield 385, 0, 44, 186),
  (18, [], .iconst 0, 0, 0, 0),
  (19, [], .aload 1, 0, 0, 0),
  (20, [], .getfield 384, 0, 50, 183),
  (23, [], .iload 2, 0, 0, 0),
  (24, [], .invokeinterface 26 272, 0, 83, 644),
  (27, [], .aload 0, 0, 0, 0),
  (28, [], .aload 1, 0, 0, 0),
  (29, [], .iconst 0, 0, 0, 0),
  (30, [], .iload 3, 0, 0, 0),
  (31, [], .invokeinterface 63 400, 0, 118, 688),
  (34, [], .return_, 0, 0, 0)]
theorem tk_Pl_spreadOver : pm_okT M_Pl_spreadOver T_Pl_spreadOver = true := by decide +kernel
theorem ok_Pl_spreadOver : pm_okm M_Pl_spreadOver := pm_okm_of _ 687 80 685 686 (by decide +kernel)
set_option maxRecDepth 100000 in
set_option maxHeartbeats 4000000 in
theorem m_Pl_spreadOver {d : Nat} {H : pmT} {Q : pmQ} (a2 : Int32) (a3 : Int32) (a4 : Int32)
    (h : pm_R d M_Ha_takeBar [.ref 8, .int (0 : Int32), .ref 2, .int a2] ((pm_up (pm_up H.1 21 7 (a4 - (1 : Int32))) 21 9 (-2000000000 : Int32)), H.2) (pm_v (fun H1 => pm_R d M_Pl_tryDay [.ref 21, .ref 1, .int (0 : Int32), .int a3] H1 (pm_v (fun H2 => Q none H2))))) : pm_R (d + 1) M_Pl_spreadOver [.ref 21, .ref 1, .int a2, .int a3, .int a4] H Q :=
  pm_walk (n := 21) ok_Pl_spreadOver tk_Pl_spreadOver rfl (Nat.le_of_ble_eq_true rfl) (show pm_R d M_Ha_takeBar [.ref 8, .int (0 : Int32), .ref 2, .int a2] ((pm_up (pm_up H.1 21 7 (a4 - (1 : Int32))) 21 9 (-2000000000 : Int32)), H.2) (pm_v (fun H1 => pm_R d M_Pl_tryDay [.ref 21, .ref 1, .int (0 : Int32), .int a3] H1 (pm_v (fun H2 => Q none H2)))) from h)
def T_Pl_tryDay : List pmE := [
  (0, [], .iload 2, 0, 0, 0),
  (1, [], .aload 0, 0, 0, 0),
  (2, [], .getfield 327, 0, 34, 226),
  (5, [], .if_icmp .gt 13, 0, 0, 0),
  (8, [], .iload 2, 0, 0, 0),
  (9, [], .iconst 5, 0, 0, 0),
  (10, [], .if_icmp .lt 14, 0, 0, 0),
  (13, [], .return_, 0, 0, 0),
  (14, [], .iconst 0, 0, 0, 0),
  (15, [], .istore 4, 1, 0, 0),
  (17, [0, 1, 2, 3, 4], .iload 4, 1, 0, 0),
  (19, [], .iload 3, 0, 0, 0),
  (20, [], .if_icmp .gt 137, 0, 0, 0),
  (23, [], .iload 4, 1, 0, 0),
  (25, [], .ifCond .le 39, 0, 0, 0),
  (28, [], .aload 1, 0, 0, 0),
  (29, [], .aload 1, 0, 0, 0),
  (30, [], .getfield 385, 0, 44, 186),
  (33, [], .iload 2, 0, 0, 0),
  (34, [], .iconst 1, 0, 0, 0),
  (35, [], .invokeinterface 75 465, 0, 95, 650),
  (38, [], .pop, 0, 0, 0),
  (39, [], .iload 2, 0, 0, 0),
  (40, [], .aload 0, 0, 0, 0),
  (41, [], .getfield 327, 0, 34, 226),
  (44, [], .if_icmp .ne 56, 0, 0, 0),
  (47, [], .iload 4, 1, 0, 0),
  (49, [], .iload 3, 0, 0, 0),
  (50, [], .if_icmp .ge 56, 0, 0, 0),
  (53, [], .goto 131, 0, 0, 0),
  (56, [], .aload 0, 0, 0, 0),
  (57, [], .getfield 326, 0, 31, 225),
  (60, [], .iload 2, 0, 0, 0),
  (61, [], .iload 4, 1, 0, 0),
  (63, [], .iastore, 0, 0, 0),
  (64, [], .aload 1, 0, 0, 0),
  (65, [], .getfield 385, 0, 44, 186),
  (68, [], .iload 2, 0, 0, 0),
  (69, [], .iconst 1, 0, 0, 0),
  (70, [], .iadd, 0, 0, 0),
  (71, [], .aload 1, 0, 0, 0),
  (72, [], .getfield 385, 0, 44, 186),
  (75, [], .iload 2, 0, 0, 0),
  (76, [], .invokeinterface 26 272, 0, 83, 644),
  (79, [], .aload 1, 0, 0, 0),
  (80, [], .aload 1, 0, 0, 0),
  (81, [], .getfield 385, 0, 44, 186),
  (84, [], .iload 2, 0, 0, 0),
  (85, [], .iconst 1, 0, 0, 0),
  (86, [], .iadd, 0, 0, 0),
  (87, [], .aload 1, 0, 0, 0),
  (88, [], .invokeinterface 72 453, 0, 68, 569),
  (91, [], .invokeinterface 78 464, 0, 98, 659),
  (94, [], .iload 2, 0, 0, 0),
  (95, [], .aload 0, 0, 0, 0),
  (96, [], .getfield 327, 0, 34, 226),
  (99, [], .if_icmp .ne 119, 0, 0, 0),
  (102, [], .aload 0, 0, 0, 0),
  (103, [], .aload 1, 0, 0, 0),
  (104, [], .getfield 385, 0, 44, 186),
  (107, [], .iload 2, 0, 0, 0),
  (108, [], .iconst 1, 0, 0, 0),
  (109, [], .iadd, 0, 0, 0),
  (110, [], .invokeinterface 30 265, 0, 91, 649),
  (113, [], .invokeinterface 64 392, 0, 122, 692),
  (116, [], .goto 131, 0, 0, 0),
  (119, [], .aload 0, 0, 0, 0),
  (120, [], .aload 1, 0, 0, 0),
  (121, [], .iload 2, 0, 0, 0),
  (122, [], .iconst 1, 0, 0, 0),
  (123, [], .iadd, 0, 0, 0),
  (124, [], .iload 3, 0, 0, 0),
  (125, [], .iload 4, 1, 0, 0),
  (127, [], .isub, 0, 0, 0),
  (128, [], .invokeinterface 63 400, 0, 118, 688),
  (131, [], .iinc 4 1, 0, 0, 0),
  (134, [], .goto 17, 0, 0, 0),
  (137, [], .return_, 0, 0, 0)]
theorem tk_Pl_tryDay : pm_okT M_Pl_tryDay T_Pl_tryDay = true := by decide +kernel
theorem ok_Pl_tryDay : pm_okm M_Pl_tryDay := pm_okm_of _ 691 80 690 18 (by decide +kernel)
set_option maxRecDepth 100000 in
set_option maxHeartbeats 4000000 in
theorem m_Pl_tryDay {d : Nat} {H : pmT} {Q : pmQ} (a2 : Int32) (a3 : Int32)
    (h : ((H.1 21 7) < a2 → Q none H) ∧ (¬ (H.1 21 7) < a2 → (a2 < (5 : Int32) → pm_RW none (d + 1) M_Pl_tryDay Q 17 [(0, .ref 21), (1, .ref 1), (2, .int a2), (3, .int a3), (4, .int (0 : Int32))] [] H) ∧ (¬ a2 < (5 : Int32) → Q none H))) : pm_R (d + 1) M_Pl_tryDay [.ref 21, .ref 1, .int a2, .int a3] H Q :=
  pm_walk (n := 10) ok_Pl_tryDay tk_Pl_tryDay rfl (Nat.le_of_ble_eq_true rfl) (show ((H.1 21 7) < a2 → Q none H) ∧ (¬ (H.1 21 7) < a2 → (a2 < (5 : Int32) → pm_RW none (d + 1) M_Pl_tryDay Q 17 [(0, .ref 21), (1, .ref 1), (2, .int a2), (3, .int a3), (4, .int (0 : Int32))] [] H) ∧ (¬ a2 < (5 : Int32) → Q none H)) from ⟨fun q1 => (h.1 q1), fun q1 => ⟨fun q2 => ((h.2 q1).1 q2), fun q2 => ((h.2 q1).2 q2)⟩⟩)
set_option maxRecDepth 100000 in
set_option maxHeartbeats 4000000 in
theorem b_Pl_tryDay_17 {d : Nat} {H : pmT} {Q : pmQ} (v2 : Int32) (v3 : Int32) (v4 : Int32)
    (h : (v3 < v4 → Q none H) ∧ (¬ v3 < v4 → (v4 ≤ 0 → (¬ v2 = (H.1 21 7) → vp_in v2 5 ∧ (pm_R d M_Ha_takeBar [.ref 8, .int (v2 + (1 : Int32)), .ref 8, .int v2] ((pm_up H.1 23 v2.toNatClampNeg v4), H.2) (pm_v (fun H1 => pm_R d M_Pr_sleepOver [.ref 1, .ref 8, .int (v2 + (1 : Int32)), .int (H1.1 20 2)] H1 (pm_v (fun H2 => (¬ v2 = (H2.1 21 7) → pm_R d M_Pl_tryDay [.ref 21, .ref 1, .int (v2 + (1 : Int32)), .int (v3 - v4)] H2 (pm_v (fun H3 => pm_RW none (d + 1) M_Pl_tryDay Q 17 [(0, .ref 21), (1, .ref 1), (2, .int v2), (3, .int v3), (4, .int (v4 + (1 : Int32)))] [] H3))) ∧ (v2 = (H2.1 21 7) → vp_in (v2 + (1 : Int32)) 12 ∧ (pm_R d M_Pl_weigh [.ref 21, .int ((H2.1 9 ((v2 + (1 : Int32)).toNatClampNeg)) - (H2.1 10 ((v2 + (1 : Int32)).toNatClampNeg)))] H2 (pm_v (fun H4 => pm_RW none (d + 1) M_Pl_tryDay Q 17 [(0, .ref 21), (1, .ref 1), (2, .int v2), (3, .int v3), (4, .int (v4 + (1 : Int32)))] [] H4)))))))))) ∧ (v2 = (H.1 21 7) → (v3 ≤ v4 → vp_in v2 5 ∧ (pm_R d M_Ha_takeBar [.ref 8, .int (v2 + (1 : Int32)), .ref 8, .int v2] ((pm_up H.1 23 v2.toNatClampNeg v4), H.2) (pm_v (fun H5 => pm_R d M_Pr_sleepOver [.ref 1, .ref 8, .int (v2 + (1 : Int32)), .int (H5.1 20 2)] H5 (pm_v (fun H6 => (¬ v2 = (H6.1 21 7) → pm_R d M_Pl_tryDay [.ref 21, .ref 1, .int (v2 + (1 : Int32)), .int (v3 - v4)] H6 (pm_v (fun H7 => pm_RW none (d + 1) M_Pl_tryDay Q 17 [(0, .ref 21), (1, .ref 1), (2, .int v2), (3, .int v3), (4, .int (v4 + (1 : Int32)))] [] H7))) ∧ (v2 = (H6.1 21 7) → vp_in (v2 + (1 : Int32)) 12 ∧ (pm_R d M_Pl_weigh [.ref 21, .int ((H6.1 9 ((v2 + (1 : Int32)).toNatClampNeg)) - (H6.1 10 ((v2 + (1 : Int32)).toNatClampNeg)))] H6 (pm_v (fun H8 => pm_RW none (d + 1) M_Pl_tryDay Q 17 [(0, .ref 21), (1, .ref 1), (2, .int v2), (3, .int v3), (4, .int (v4 + (1 : Int32)))] [] H8)))))))))) ∧ (¬ v3 ≤ v4 → pm_RW none (d + 1) M_Pl_tryDay Q 17 [(0, .ref 21), (1, .ref 1), (2, .int v2), (3, .int v3), (4, .int (v4 + (1 : Int32)))] [] H))) ∧ (¬ v4 ≤ 0 → pm_R d M_Pr_playOnce [.ref 1, .ref 8, .int v2, .int (1 : Int32)] H (pm_i (fun x10 H9 => (¬ v2 = (H9.1 21 7) → vp_in v2 5 ∧ (pm_R d M_Ha_takeBar [.ref 8, .int (v2 + (1 : Int32)), .ref 8, .int v2] ((pm_up H9.1 23 v2.toNatClampNeg v4), H9.2) (pm_v (fun H11 => pm_R d M_Pr_sleepOver [.ref 1, .ref 8, .int (v2 + (1 : Int32)), .int (H11.1 20 2)] H11 (pm_v (fun H12 => (¬ v2 = (H12.1 21 7) → pm_R d M_Pl_tryDay [.ref 21, .ref 1, .int (v2 + (1 : Int32)), .int (v3 - v4)] H12 (pm_v (fun H13 => pm_RW none (d + 1) M_Pl_tryDay Q 17 [(0, .ref 21), (1, .ref 1), (2, .int v2), (3, .int v3), (4, .int (v4 + (1 : Int32)))] [] H13))) ∧ (v2 = (H12.1 21 7) → vp_in (v2 + (1 : Int32)) 12 ∧ (pm_R d M_Pl_weigh [.ref 21, .int ((H12.1 9 ((v2 + (1 : Int32)).toNatClampNeg)) - (H12.1 10 ((v2 + (1 : Int32)).toNatClampNeg)))] H12 (pm_v (fun H14 => pm_RW none (d + 1) M_Pl_tryDay Q 17 [(0, .ref 21), (1, .ref 1), (2, .int v2), (3, .int v3), (4, .int (v4 + (1 : Int32)))] [] H14)))))))))) ∧ (v2 = (H9.1 21 7) → (v3 ≤ v4 → vp_in v2 5 ∧ (pm_R d M_Ha_takeBar [.ref 8, .int (v2 + (1 : Int32)), .ref 8, .int v2] ((pm_up H9.1 23 v2.toNatClampNeg v4), H9.2) (pm_v (fun H15 => pm_R d M_Pr_sleepOver [.ref 1, .ref 8, .int (v2 + (1 : Int32)), .int (H15.1 20 2)] H15 (pm_v (fun H16 => (¬ v2 = (H16.1 21 7) → pm_R d M_Pl_tryDay [.ref 21, .ref 1, .int (v2 + (1 : Int32)), .int (v3 - v4)] H16 (pm_v (fun H17 => pm_RW none (d + 1) M_Pl_tryDay Q 17 [(0, .ref 21), (1, .ref 1), (2, .int v2), (3, .int v3), (4, .int (v4 + (1 : Int32)))] [] H17))) ∧ (v2 = (H16.1 21 7) → vp_in (v2 + (1 : Int32)) 12 ∧ (pm_R d M_Pl_weigh [.ref 21, .int ((H16.1 9 ((v2 + (1 : Int32)).toNatClampNeg)) - (H16.1 10 ((v2 + (1 : Int32)).toNatClampNeg)))] H16 (pm_v (fun H18 => pm_RW none (d + 1) M_Pl_tryDay Q 17 [(0, .ref 21), (1, .ref 1), (2, .int v2), (3, .int v3), (4, .int (v4 + (1 : Int32)))] [] H18)))))))))) ∧ (¬ v3 ≤ v4 → pm_RW none (d + 1) M_Pl_tryDay Q 17 [(0, .ref 21), (1, .ref 1), (2, .int v2), (3, .int v3), (4, .int (v4 + (1 : Int32)))] [] H9))))))) : pm_RW none (d + 1) M_Pl_tryDay Q 17 [(0, .ref 21), (1, .ref 1), (2, .int v2), (3, .int v3), (4, .int v4)] [] H :=
  pm_body tk_Pl_tryDay 57 17 (show (v3 < v4 → Q none H) ∧ (¬ v3 < v4 → (v4 ≤ 0 → (¬ v2 = (H.1 21 7) → vp_in v2 5 ∧ (pm_R d M_Ha_takeBar [.ref 8, .int (v2 + (1 : Int32)), .ref 8, .int v2] ((pm_up H.1 23 v2.toNatClampNeg v4), H.2) (pm_v (fun H1 => pm_R d M_Pr_fades [.ref 1] H1 (pm_i (fun x3 H2 => pm_R d M_Pr_sleepOver [.ref 1, .ref 8, .int (v2 + (1 : Int32)), .int x3] H2 (pm_v (fun H4 => (¬ v2 = (H4.1 21 7) → pm_R d M_Pl_tryDay [.ref 21, .ref 1, .int (v2 + (1 : Int32)), .int (v3 - v4)] H4 (pm_v (fun H5 => pm_RW none (d + 1) M_Pl_tryDay Q 17 [(0, .ref 21), (1, .ref 1), (2, .int v2), (3, .int v3), (4, .int (v4 + (1 : Int32)))] [] H5))) ∧ (v2 = (H4.1 21 7) → pm_R d M_Ha_lead [.ref 8, .int (v2 + (1 : Int32))] H4 (pm_i (fun x7 H6 => pm_R d M_Pl_weigh [.ref 21, .int x7] H6 (pm_v (fun H8 => pm_RW none (d + 1) M_Pl_tryDay Q 17 [(0, .ref 21), (1, .ref 1), (2, .int v2), (3, .int v3), (4, .int (v4 + (1 : Int32)))] [] H8))))))))))))) ∧ (v2 = (H.1 21 7) → (v3 ≤ v4 → vp_in v2 5 ∧ (pm_R d M_Ha_takeBar [.ref 8, .int (v2 + (1 : Int32)), .ref 8, .int v2] ((pm_up H.1 23 v2.toNatClampNeg v4), H.2) (pm_v (fun H9 => pm_R d M_Pr_fades [.ref 1] H9 (pm_i (fun x11 H10 => pm_R d M_Pr_sleepOver [.ref 1, .ref 8, .int (v2 + (1 : Int32)), .int x11] H10 (pm_v (fun H12 => (¬ v2 = (H12.1 21 7) → pm_R d M_Pl_tryDay [.ref 21, .ref 1, .int (v2 + (1 : Int32)), .int (v3 - v4)] H12 (pm_v (fun H13 => pm_RW none (d + 1) M_Pl_tryDay Q 17 [(0, .ref 21), (1, .ref 1), (2, .int v2), (3, .int v3), (4, .int (v4 + (1 : Int32)))] [] H13))) ∧ (v2 = (H12.1 21 7) → pm_R d M_Ha_lead [.ref 8, .int (v2 + (1 : Int32))] H12 (pm_i (fun x15 H14 => pm_R d M_Pl_weigh [.ref 21, .int x15] H14 (pm_v (fun H16 => pm_RW none (d + 1) M_Pl_tryDay Q 17 [(0, .ref 21), (1, .ref 1), (2, .int v2), (3, .int v3), (4, .int (v4 + (1 : Int32)))] [] H16))))))))))))) ∧ (¬ v3 ≤ v4 → pm_RW none (d + 1) M_Pl_tryDay Q 17 [(0, .ref 21), (1, .ref 1), (2, .int v2), (3, .int v3), (4, .int (v4 + (1 : Int32)))] [] H))) ∧ (¬ v4 ≤ 0 → pm_R d M_Pr_playOnce [.ref 1, .ref 8, .int v2, .int (1 : Int32)] H (pm_i (fun x18 H17 => (¬ v2 = (H17.1 21 7) → vp_in v2 5 ∧ (pm_R d M_Ha_takeBar [.ref 8, .int (v2 + (1 : Int32)), .ref 8, .int v2] ((pm_up H17.1 23 v2.toNatClampNeg v4), H17.2) (pm_v (fun H19 => pm_R d M_Pr_fades [.ref 1] H19 (pm_i (fun x21 H20 => pm_R d M_Pr_sleepOver [.ref 1, .ref 8, .int (v2 + (1 : Int32)), .int x21] H20 (pm_v (fun H22 => (¬ v2 = (H22.1 21 7) → pm_R d M_Pl_tryDay [.ref 21, .ref 1, .int (v2 + (1 : Int32)), .int (v3 - v4)] H22 (pm_v (fun H23 => pm_RW none (d + 1) M_Pl_tryDay Q 17 [(0, .ref 21), (1, .ref 1), (2, .int v2), (3, .int v3), (4, .int (v4 + (1 : Int32)))] [] H23))) ∧ (v2 = (H22.1 21 7) → pm_R d M_Ha_lead [.ref 8, .int (v2 + (1 : Int32))] H22 (pm_i (fun x25 H24 => pm_R d M_Pl_weigh [.ref 21, .int x25] H24 (pm_v (fun H26 => pm_RW none (d + 1) M_Pl_tryDay Q 17 [(0, .ref 21), (1, .ref 1), (2, .int v2), (3, .int v3), (4, .int (v4 + (1 : Int32)))] [] H26))))))))))))) ∧ (v2 = (H17.1 21 7) → (v3 ≤ v4 → vp_in v2 5 ∧ (pm_R d M_Ha_takeBar [.ref 8, .int (v2 + (1 : Int32)), .ref 8, .int v2] ((pm_up H17.1 23 v2.toNatClampNeg v4), H17.2) (pm_v (fun H27 => pm_R d M_Pr_fades [.ref 1] H27 (pm_i (fun x29 H28 => pm_R d M_Pr_sleepOver [.ref 1, .ref 8, .int (v2 + (1 : Int32)), .int x29] H28 (pm_v (fun H30 => (¬ v2 = (H30.1 21 7) → pm_R d M_Pl_tryDay [.ref 21, .ref 1, .int (v2 + (1 : Int32)), .int (v3 - v4)] H30 (pm_v (fun H31 => pm_RW none (d + 1) M_Pl_tryDay Q 17 [(0, .ref 21), (1, .ref 1), (2, .int v2), (3, .int v3), (4, .int (v4 + (1 : Int32)))] [] H31))) ∧ (v2 = (H30.1 21 7) → pm_R d M_Ha_lead [.ref 8, .int (v2 + (1 : Int32))] H30 (pm_i (fun x33 H32 => pm_R d M_Pl_weigh [.ref 21, .int x33] H32 (pm_v (fun H34 => pm_RW none (d + 1) M_Pl_tryDay Q 17 [(0, .ref 21), (1, .ref 1), (2, .int v2), (3, .int v3), (4, .int (v4 + (1 : Int32)))] [] H34))))))))))))) ∧ (¬ v3 ≤ v4 → pm_RW none (d + 1) M_Pl_tryDay Q 17 [(0, .ref 21), (1, .ref 1), (2, .int v2), (3, .int v3), (4, .int (v4 + (1 : Int32)))] [] H17)))))) from ⟨fun q1 => (h.1 q1), fun q1 => ⟨fun q2 => ⟨fun q3 => ⟨(((h.2 q1).1 q2).1 q3).1, pm_mv' (((h.2 q1).1 q2).1 q3).2 (fun H1 z4 => u_Pr_fades  (⟨(pm_ik rfl), pm_mv' z4 (fun H2 z5 => ⟨fun q6 => (z5.1 q6), fun q6 => u_Ha_lead_8 (v2 + (1 : Int32)) (⟨(z5.2 q6).1, ⟨(z5.2 q6).1, (z5.2 q6).2⟩⟩)⟩)⟩))⟩, fun q3 => ⟨fun q9 => ⟨((((h.2 q1).1 q2).2 q3).1 q9).1, pm_mv' ((((h.2 q1).1 q2).2 q3).1 q9).2 (fun H5 z10 => u_Pr_fades  (⟨(pm_ik rfl), pm_mv' z10 (fun H6 z11 => ⟨fun q12 => (z11.1 q12), fun q12 => u_Ha_lead_8 (v2 + (1 : Int32)) (⟨(z11.2 q12).1, ⟨(z11.2 q12).1, (z11.2 q12).2⟩⟩)⟩)⟩))⟩, fun q9 => ((((h.2 q1).1 q2).2 q3).2 q9)⟩⟩, fun q2 => pm_mi ((h.2 q1).2 q2) (fun x10 H9 z15 => ⟨fun q16 => ⟨(z15.1 q16).1, pm_mv' (z15.1 q16).2 (fun H11 z17 => u_Pr_fades  (⟨(pm_ik rfl), pm_mv' z17 (fun H12 z18 => ⟨fun q19 => (z18.1 q19), fun q19 => u_Ha_lead_8 (v2 + (1 : Int32)) (⟨(z18.2 q19).1, ⟨(z18.2 q19).1, (z18.2 q19).2⟩⟩)⟩)⟩))⟩, fun q16 => ⟨fun q22 => ⟨((z15.2 q16).1 q22).1, pm_mv' ((z15.2 q16).1 q22).2 (fun H15 z23 => u_Pr_fades  (⟨(pm_ik rfl), pm_mv' z23 (fun H16 z24 => ⟨fun q25 => (z24.1 q25), fun q25 => u_Ha_lead_8 (v2 + (1 : Int32)) (⟨(z24.2 q25).1, ⟨(z24.2 q25).1, (z24.2 q25).2⟩⟩)⟩)⟩))⟩, fun q22 => ((z15.2 q16).2 q22)⟩⟩)⟩⟩)
def T_Pl_weigh : List pmE := [
  (0, [], .iload 1, 0, 0, 0),
  (1, [], .aload 0, 0, 0, 0),
  (2, [], .getfield 329, 0, 41, 229),
  (5, [], .if_icmp .gt 23, 0, 0, 0),
  (8, [], .iload 1, 0, 0, 0),
  (9, [], .aload 0, 0, 0, 0),
  (10, [], .getfield 329, 0, 41, 229),
  (13, [], .if_icmp .ne 42, 0, 0, 0),
  (16, [], .aload 0, 0, 0, 0),
  (17, [], .invokeinterface 65 389, 0, 126, 696),
  (20, [], .ifCond .eq 42, 0, 0, 0),
  (23, [], .aload 0, 0, 0, 0),
  (24, [], .iload 1, 0, 0, 0),
  (25, [], .putfield 329, 0, 41, 229),
  (28, [], .aload 0, 0, 0, 0),
  (29, [], .getfield 326, 0, 31, 225),
  (32, [], .iconst 0, 0, 0, 0),
  (33, [], .aload 0, 0, 0, 0),
  (34, [], .getfield 328, 0, 37, 227),
  (37, [], .iconst 0, 0, 0, 0),
  (38, [], .iconst 5, 0, 0, 0),
  (39, [], .invokedynamic 0, 0, 130, 700),
  (42, [], .return_, 0, 0, 0)]
theorem tk_Pl_weigh : pm_okT M_Pl_weigh T_Pl_weigh = true := by decide +kernel
theorem ok_Pl_weigh : pm_okm M_Pl_weigh := pm_okm_of _ 695 80 694 19 (by decide +kernel)
set_option maxRecDepth 100000 in
set_option maxHeartbeats 4000000 in
theorem m_Pl_weigh {d : Nat} {H : pmT} {Q : pmQ} (a1 : Int32)
    (h : ((H.1 21 9) < a1 → Q none ((va_up (pm_up H.1 21 9 a1) 24 (va_cpy (H.1 23) (H.1 24) 0 0 5)), H.2)) ∧ (¬ (H.1 21 9) < a1 → (¬ a1 = (H.1 21 9) → Q none H) ∧ (a1 = (H.1 21 9) → pm_R d M_Pl_isLater [.ref 21] H (pm_i (fun x2 H1 => (x2 = 0 → Q none H1) ∧ (¬ x2 = 0 → Q none ((va_up (pm_up H1.1 21 9 a1) 24 (va_cpy (H1.1 23) (H1.1 24) 0 0 5)), H1.2))))))) : pm_R (d + 1) M_Pl_weigh [.ref 21, .int a1] H Q :=
  pm_walk (n := 23) ok_Pl_weigh tk_Pl_weigh rfl (Nat.le_of_ble_eq_true rfl) (show ((H.1 21 9) < a1 → pm_cpin (0 : Int32) (0 : Int32) (5 : Int32) 5 5 ∧ (Q none ((va_up (pm_up H.1 21 9 a1) 24 (va_cpy (H.1 23) (H.1 24) 0 0 5)), H.2))) ∧ (¬ (H.1 21 9) < a1 → (¬ a1 = (H.1 21 9) → Q none H) ∧ (a1 = (H.1 21 9) → pm_R d M_Pl_isLater [.ref 21] H (pm_i (fun x2 H1 => (x2 = 0 → Q none H1) ∧ (¬ x2 = 0 → pm_cpin (0 : Int32) (0 : Int32) (5 : Int32) 5 5 ∧ (Q none ((va_up (pm_up H1.1 21 9 a1) 24 (va_cpy (H1.1 23) (H1.1 24) 0 0 5)), H1.2))))))) from ⟨fun q1 => ⟨(pm_ck rfl), (h.1 q1)⟩, fun q1 => ⟨fun q2 => ((h.2 q1).1 q2), fun q2 => pm_mi ((h.2 q1).2 q2) (fun x2 H1 z3 => ⟨fun q4 => (z3.1 q4), fun q4 => ⟨(pm_ck rfl), (z3.2 q4)⟩⟩)⟩⟩)
def T_Pl_isLater : List pmE := [
  (0, [], .aload 0, 0, 0, 0),
  (1, [], .getfield 327, 0, 34, 226),
  (4, [], .istore 1, 0, 0, 0),
  (5, [0, 1], .iload 1, 0, 0, 0),
  (6, [], .ifCond .lt 51, 0, 0, 0),
  (9, [], .aload 0, 0, 0, 0),
  (10, [], .getfield 326, 0, 31, 225),
  (13, [], .iload 1, 0, 0, 0),
  (14, [], .iaload, 0, 0, 0),
  (15, [], .aload 0, 0, 0, 0),
  (16, [], .getfield 328, 0, 37, 227),
  (19, [], .iload 1, 0, 0, 0),
  (20, [], .iaload, 0, 0, 0),
  (21, [], .if_icmp .eq 45, 0, 0, 0),
  (24, [], .aload 0, 0, 0, 0),
  (25, [], .getfield 326, 0, 31, 225),
  (28, [], .iload 1, 0, 0, 0),
  (29, [], .iaload, 0, 0, 0),
  (30, [], .aload 0, 0, 0, 0),
  (31, [], .getfield 328, 0, 37, 227),
  (34, [], .iload 1, 0, 0, 0),
  (35, [], .iaload, 0, 0, 0),
  (36, [], .if_icmp .le 43, 0, 0, 0),
  (39, [], .iconst 1, 0, 0, 0),
  (40, [], .goto 44, 0, 0, 0),
  (43, [], .iconst 0, 0, 0, 0),
  (44, [], .areturn, 0, 0, 0),
  (45, [], .iinc 1 (-1), 0, 0, 0),
  (48, [], .goto 5, 0, 0, 0),
  (51, [], .iconst 0, 0, 0, 0),
  (52, [], .areturn, 0, 0, 0)]
theorem tk_Pl_isLater : pm_okT M_Pl_isLater T_Pl_isLater = true := by decide +kernel
theorem ok_Pl_isLater : pm_okm M_Pl_isLater := pm_okm_of _ 699 80 698 20 (by decide +kernel)
set_option maxRecDepth 100000 in
set_option maxHeartbeats 4000000 in
theorem m_Pl_isLater {d : Nat} {H : pmT} {Q : pmQ} 
    (h : pm_RW none d M_Pl_isLater Q 5 [(0, .ref 21), (1, .int (H.1 21 7))] [] H) : pm_R d M_Pl_isLater [.ref 21] H Q :=
  pm_walk (n := 4) ok_Pl_isLater tk_Pl_isLater rfl (Nat.le_of_ble_eq_true rfl) (show pm_RW none d M_Pl_isLater Q 5 [(0, .ref 21), (1, .int (H.1 21 7))] [] H from h)
set_option maxRecDepth 100000 in
set_option maxHeartbeats 4000000 in
theorem b_Pl_isLater_5 {d : Nat} {H : pmT} {Q : pmQ} (v1 : Int32)
    (h : (v1 < 0 → Q (some (.int (0 : Int32))) H) ∧ (¬ v1 < 0 → vp_in v1 5 ∧ (((H.1 23 v1.toNatClampNeg) = (H.1 24 v1.toNatClampNeg) → pm_RW none d M_Pl_isLater Q 5 [(0, .ref 21), (1, .int (v1 + (-1 : Int32)))] [] H) ∧ (¬ (H.1 23 v1.toNatClampNeg) = (H.1 24 v1.toNatClampNeg) → ((H.1 23 v1.toNatClampNeg) ≤ (H.1 24 v1.toNatClampNeg) → Q (some (.int (0 : Int32))) H) ∧ (¬ (H.1 23 v1.toNatClampNeg) ≤ (H.1 24 v1.toNatClampNeg) → Q (some (.int (1 : Int32))) H))))) : pm_RW none d M_Pl_isLater Q 5 [(0, .ref 21), (1, .int v1)] [] H :=
  pm_body tk_Pl_isLater 22 5 (show (v1 < 0 → ((0 : Int32) = 0 ∨ (0 : Int32) = 1) ∧ (Q (some (.int (0 : Int32))) H)) ∧ (¬ v1 < 0 → vp_in v1 5 ∧ (vp_in v1 5 ∧ (((H.1 23 v1.toNatClampNeg) = (H.1 24 v1.toNatClampNeg) → pm_RW none d M_Pl_isLater Q 5 [(0, .ref 21), (1, .int (v1 + (-1 : Int32)))] [] H) ∧ (¬ (H.1 23 v1.toNatClampNeg) = (H.1 24 v1.toNatClampNeg) → vp_in v1 5 ∧ (vp_in v1 5 ∧ (((H.1 23 v1.toNatClampNeg) ≤ (H.1 24 v1.toNatClampNeg) → ((0 : Int32) = 0 ∨ (0 : Int32) = 1) ∧ (Q (some (.int (0 : Int32))) H)) ∧ (¬ (H.1 23 v1.toNatClampNeg) ≤ (H.1 24 v1.toNatClampNeg) → ((1 : Int32) = 0 ∨ (1 : Int32) = 1) ∧ (Q (some (.int (1 : Int32))) H)))))))) from ⟨fun q1 => ⟨Or.inl rfl, (h.1 q1)⟩, fun q1 => ⟨(h.2 q1).1, ⟨(h.2 q1).1, ⟨fun q2 => ((h.2 q1).2.1 q2), fun q2 => ⟨(h.2 q1).1, ⟨(h.2 q1).1, ⟨fun q3 => ⟨Or.inl rfl, (((h.2 q1).2.2 q2).1 q3)⟩, fun q3 => ⟨Or.inr rfl, (((h.2 q1).2.2 q2).2 q3)⟩⟩⟩⟩⟩⟩⟩⟩)
def T_Pl_fewerByNewFinger : List pmE := [
  (0, [], .aload 0, 0, 0, 0),
  (1, [], .aload 1, 0, 0, 0),
  (2, [], .iload 2, 0, 0, 0),
  (3, [], .iconst 0, 0, 0, 0),
  (4, [], .invokeinterface 56 401, 0, 136, 719),
  (7, [], .invokeinterface 67 5, 1, 139, 720),
  (10, [], .istore 3, 0, 0, 0),
  (11, [], .aload 1, 0, 0, 0),
  (12, [], .getfield 385, 0, 44, 186),
  (15, [], .iload 2, 0, 0, 0),
  (16, [], .aload 1, 0, 0, 0),
  (17, [], .getfield 384, 0, 50, 183),
  (20, [], .iload 2, 0, 0, 0),
  (21, [], .invokeinterface 26 272, 0, 83, 644),
  (24, [], .aload 1, 0, 0, 0),
  (25, [], .getfield 385, 0, 44, 186),
  (28, [], .getfield 193, 0, 142, 117),
  (31, [], .iload 2, 0, 0, 0),
  (32, [], .iconst 0, 0, 0, 0),
  (33, [], .iastore, 0, 0, 0),
  (34, [], .aload 1, 0, 0, 0),
  (35, [], .getfield 385, 0, 44, 186),
  (38, [], .getfield 194, 0, 145, 122),
  (41, [], .iload 2, 0, 0, 0),
  (42, [], .iconst 0, 0, 0, 0),
  (43, [], .iastore, 0, 0, 0),
  (44, [], .iload 3, 0, 0, 0),
  (45, [], .aload 1, 0, 0, 0),
  (46, [], .getfield 387, 0, 148, 192),
  (49, [], .iconst 4, 0, 0, 0),
  (50, [], .iaload, 0, 0, 0),
  (51, [], .isub, 0, 0, 0),
  (52, [], .aload 0, 0, 0, 0),
  (53, [], .aload 1, 0, 0, 0),
  (54, [], .iload 2, 0, 0, 0),
  (55, [], .iconst 0, 0, 0, 0),
  (56, [], .invokeinterface 57 401, 0, 87, 645),
  (59, [], .invokeinterface 67 5, 1, 139, 720),
  (62, [], .isub, 0, 0, 0),
  (63, [], .ireturn, 0, 0, 0)]
theorem tk_Pl_fewerByNewFinger : pm_okT M_Pl_fewerByNewFinger T_Pl_fewerByNewFinger = true := by decide +kernel
theorem ok_Pl_fewerByNewFinger : pm_okm M_Pl_fewerByNewFinger := pm_okm_of _ 718 80 716 717 (by decide +kernel)
set_option maxRecDepth 100000 in
set_option maxHeartbeats 4000000 in
theorem m_Pl_fewerByNewFinger {d : Nat} {H : pmT} {Q : pmQ} (a2 : Int32)
    (h : pm_R d M_Pl_playingsTillRight [.ref 21, .ref 1, .int a2, .int (0 : Int32)] H (pm_i (fun x2 H1 => (¬ x2 = (-2 : Int32) → pm_R d M_Ha_takeBar [.ref 8, .int a2, .ref 2, .int a2] H1 (pm_v (fun H3 => vp_in a2 12 ∧ (pm_R d M_Pl_tillRight [.ref 21, .ref 1, .int a2, .int (0 : Int32)] ((pm_up (pm_up H3.1 9 a2.toNatClampNeg (0 : Int32)) 10 a2.toNatClampNeg (0 : Int32)), H3.2) (pm_i (fun x5 H4 => (¬ x5 = (-2 : Int32) → Q (some (.int ((x2 - (H3.1 20 4)) - x5))) H4) ∧ (x5 = (-2 : Int32) → Q (some (.int ((x2 - (H3.1 20 4)) - (1000 : Int32)))) H4))))))) ∧ (x2 = (-2 : Int32) → pm_R d M_Ha_takeBar [.ref 8, .int a2, .ref 2, .int a2] H1 (pm_v (fun H6 => vp_in a2 12 ∧ (pm_R d M_Pl_tillRight [.ref 21, .ref 1, .int a2, .int (0 : Int32)] ((pm_up (pm_up H6.1 9 a2.toNatClampNeg (0 : Int32)) 10 a2.toNatClampNeg (0 : Int32)), H6.2) (pm_i (fun x8 H7 => (¬ x8 = (-2 : Int32) → Q (some (.int (((1000 : Int32) - (H6.1 20 4)) - x8))) H7) ∧ (x8 = (-2 : Int32) → Q (some (.int (((1000 : Int32) - (H6.1 20 4)) - (1000 : Int32)))) H7)))))))))) : pm_R (d + 1) M_Pl_fewerByNewFinger [.ref 21, .ref 1, .int a2] H Q :=
  pm_walk (n := 40) ok_Pl_fewerByNewFinger tk_Pl_fewerByNewFinger rfl (Nat.le_of_ble_eq_true rfl) (show pm_R d M_Pl_playingsTillRight [.ref 21, .ref 1, .int a2, .int (0 : Int32)] H (pm_i (fun x2 H1 => pm_R d M_Pl_orNever [.int x2] H1 (pm_i (fun x4 H3 => pm_R d M_Ha_takeBar [.ref 8, .int a2, .ref 2, .int a2] H3 (pm_v (fun H5 => vp_in a2 12 ∧ (vp_in a2 12 ∧ (vp_in (4 : Int32) 5 ∧ (pm_R d M_Pl_tillRight [.ref 21, .ref 1, .int a2, .int (0 : Int32)] ((pm_up (pm_up H5.1 9 a2.toNatClampNeg (0 : Int32)) 10 a2.toNatClampNeg (0 : Int32)), H5.2) (pm_i (fun x7 H6 => pm_R d M_Pl_orNever [.int x7] H6 (pm_i (fun x9 H8 => Q (some (.int ((x4 - (H5.1 20 4)) - x9))) H8))))))))))))) from pm_mi h (fun x2 H1 z1 => u_Pl_orNever x2 (⟨fun q2 => pm_mv' (z1.1 q2) (fun H3 z3 => ⟨z3.1, ⟨z3.1, ⟨(pm_ik rfl), pm_mi z3.2 (fun x5 H4 z4 => u_Pl_orNever x5 (⟨fun q5 => (z4.1 q5), fun q5 => (z4.2 q5)⟩))⟩⟩⟩), fun q2 => pm_mv' (z1.2 q2) (fun H6 z6 => ⟨z6.1, ⟨z6.1, ⟨(pm_ik rfl), pm_mi z6.2 (fun x8 H7 z7 => u_Pl_orNever x8 (⟨fun q8 => (z7.1 q8), fun q8 => (z7.2 q8)⟩))⟩⟩⟩)⟩)))
def T_Pl_runsTillClean : List pmE := [
  (0, [], .aload 1, 0, 0, 0),
  (1, [], .getfield 385, 0, 44, 186),
  (4, [], .aload 1, 0, 0, 0),
  (5, [], .getfield 384, 0, 50, 183),
  (8, [], .invokeinterface 25 264, 0, 53, 556),
  (11, [], .iconst 0, 0, 0, 0),
  (12, [], .istore 2, 0, 0, 0),
  (13, [0, 1, 2], .iload 2, 0, 0, 0),
  (14, [], .iconst 60, 1, 0, 0),
  (16, [], .if_icmp .gt 44, 0, 0, 0),
  (19, [], .aload 1, 0, 0, 0),
  (20, [], .getfield 385, 0, 44, 186),
  (23, [], .invokeinterface 33 261, 0, 151, 731),
  (26, [], .iconst (-2), 1, 0, 0),
  (28, [], .if_icmp .ne 33, 0, 0, 0),
  (31, [], .iload 2, 0, 0, 0),
  (32, [], .ireturn, 0, 0, 0),
  (33, [], .aload 0, 0, 0, 0),
  (34, [], .aload 1, 0, 0, 0),
  (35, [], .invokeinterface 69 392, 0, 154, 732),
  (38, [], .iinc 2 1, 0, 0, 0),
  (41, [], .goto 13, 0, 0, 0),
  (44, [], .iconst (-2), 1, 0, 0),
  (46, [], .ireturn, 0, 0, 0)]
theorem tk_Pl_runsTillClean : pm_okT M_Pl_runsTillClean T_Pl_runsTillClean = true := by decide +kernel
theorem ok_Pl_runsTillClean : pm_okm M_Pl_runsTillClean := pm_okm_of _ 730 80 728 729 (by decide +kernel)
set_option maxRecDepth 100000 in
set_option maxHeartbeats 4000000 in
theorem m_Pl_runsTillClean {d : Nat} {H : pmT} {Q : pmQ} 
    (h : pm_R d M_Ha_takeAll [.ref 8, .ref 2] H (pm_v (fun H1 => pm_RW none (d + 1) M_Pl_runsTillClean Q 13 [(0, .ref 21), (1, .ref 1), (2, .int (0 : Int32))] [] H1))) : pm_R (d + 1) M_Pl_runsTillClean [.ref 21, .ref 1] H Q :=
  pm_walk (n := 8) ok_Pl_runsTillClean tk_Pl_runsTillClean rfl (Nat.le_of_ble_eq_true rfl) (show pm_R d M_Ha_takeAll [.ref 8, .ref 2] H (pm_v (fun H1 => pm_RW none (d + 1) M_Pl_runsTillClean Q 13 [(0, .ref 21), (1, .ref 1), (2, .int (0 : Int32))] [] H1)) from h)
set_option maxRecDepth 100000 in
set_option maxHeartbeats 4000000 in
theorem b_Pl_runsTillClean_13 {d : Nat} {H : pmT} {Q : pmQ} (v2 : Int32)
    (h : ((60 : Int32) < v2 → Q (some (.int (-2 : Int32))) H) ∧ (¬ (60 : Int32) < v2 → pm_R d M_Ha_firstSlip [.ref 8] H (pm_i (fun x2 H1 => (¬ x2 = (-2 : Int32) → pm_R d M_Pl_runThrough [.ref 21, .ref 1] H1 (pm_v (fun H3 => pm_RW none (d + 1) M_Pl_runsTillClean Q 13 [(0, .ref 21), (1, .ref 1), (2, .int (v2 + (1 : Int32)))] [] H3))) ∧ (x2 = (-2 : Int32) → Q (some (.int v2)) H1))))) : pm_RW none (d + 1) M_Pl_runsTillClean Q 13 [(0, .ref 21), (1, .ref 1), (2, .int v2)] [] H :=
  pm_body tk_Pl_runsTillClean 13 13 (show ((60 : Int32) < v2 → Q (some (.int (-2 : Int32))) H) ∧ (¬ (60 : Int32) < v2 → pm_R d M_Ha_firstSlip [.ref 8] H (pm_i (fun x2 H1 => (¬ x2 = (-2 : Int32) → pm_R d M_Pl_runThrough [.ref 21, .ref 1] H1 (pm_v (fun H3 => pm_RW none (d + 1) M_Pl_runsTillClean Q 13 [(0, .ref 21), (1, .ref 1), (2, .int (v2 + (1 : Int32)))] [] H3))) ∧ (x2 = (-2 : Int32) → Q (some (.int v2)) H1)))) from ⟨fun q1 => (h.1 q1), fun q1 => pm_mi (h.2 q1) (fun x2 H1 z2 => ⟨fun q3 => (z2.1 q3), fun q3 => (z2.2 q3)⟩)⟩)
def T_Pl_runThrough : List pmE := [
  (0, [], .iconst 0, 0, 0, 0),
  (1, [], .istore 2, 0, 0, 0),
  (2, [1, 2], .iload 2, 0, 0, 0),
  (3, [], .aload 1, 0, 0, 0),
  (4, [], .getfield 385, 0, 44, 186),
  (7, [], .getfield 192, 0, 102, 110),
  (10, [], .if_icmp .ge 33, 0, 0, 0),
  (13, [], .aload 1, 0, 0, 0),
  (14, [], .aload 1, 0, 0, 0),
  (15, [], .getfield 385, 0, 44, 186),
  (18, [], .iload 2, 0, 0, 0),
  (19, [], .iconst 0, 0, 0, 0),
  (20, [], .invokeinterface 75 465, 0, 95, 650),
  (23, [], .ifCond .ne 27, 0, 0, 0),
  (26, [], .return_, 0, 0, 0),
  (27, [], .iinc 2 1, 0, 0, 0),
  (30, [], .goto 2, 0, 0, 0),
  (33, [], .return_, 0, 0, 0)]
theorem tk_Pl_runThrough : pm_okT M_Pl_runThrough T_Pl_runThrough = true := by decide +kernel
theorem ok_Pl_runThrough : pm_okm M_Pl_runThrough := pm_okm_of _ 735 80 734 21 (by decide +kernel)
set_option maxRecDepth 100000 in
set_option maxHeartbeats 4000000 in
theorem m_Pl_runThrough {d : Nat} {H : pmT} {Q : pmQ} 
    (h : pm_RW none (d + 1) M_Pl_runThrough Q 2 [(1, .ref 1), (2, .int (0 : Int32))] [] H) : pm_R (d + 1) M_Pl_runThrough [.ref 21, .ref 1] H Q :=
  pm_walk (n := 3) ok_Pl_runThrough tk_Pl_runThrough rfl (Nat.le_of_ble_eq_true rfl) (show pm_RW none (d + 1) M_Pl_runThrough Q 2 [(1, .ref 1), (2, .int (0 : Int32))] [] H from h)
set_option maxRecDepth 100000 in
set_option maxHeartbeats 4000000 in
theorem b_Pl_runThrough_2 {d : Nat} {H : pmT} {Q : pmQ} (v2 : Int32)
    (h : ((H.1 8 0) ≤ v2 → Q none H) ∧ (¬ (H.1 8 0) ≤ v2 → pm_R d M_Pr_playOnce [.ref 1, .ref 8, .int v2, .int (0 : Int32)] H (pm_i (fun x2 H1 => (¬ x2 = 0 → pm_RW none (d + 1) M_Pl_runThrough Q 2 [(1, .ref 1), (2, .int (v2 + (1 : Int32)))] [] H1) ∧ (x2 = 0 → Q none H1))))) : pm_RW none (d + 1) M_Pl_runThrough Q 2 [(1, .ref 1), (2, .int v2)] [] H :=
  pm_body tk_Pl_runThrough 14 2 (show ((H.1 8 0) ≤ v2 → Q none H) ∧ (¬ (H.1 8 0) ≤ v2 → pm_R d M_Pr_playOnce [.ref 1, .ref 8, .int v2, .int (0 : Int32)] H (pm_i (fun x2 H1 => (¬ x2 = 0 → pm_RW none (d + 1) M_Pl_runThrough Q 2 [(1, .ref 1), (2, .int (v2 + (1 : Int32)))] [] H1) ∧ (x2 = 0 → Q none H1)))) from ⟨fun q1 => (h.1 q1), fun q1 => pm_mi (h.2 q1) (fun x2 H1 z2 => ⟨fun q3 => (z2.1 q3), fun q3 => (z2.2 q3)⟩)⟩)
def T_Pl_playingsByBars : List pmE := [
  (0, [], .iconst 0, 0, 0, 0),
  (1, [], .istore 2, 0, 0, 0),
  (2, [], .iconst 0, 0, 0, 0),
  (3, [], .istore 3, 0, 0, 0),
  (4, [0, 1, 2, 3], .iload 3, 0, 0, 0),
  (5, [], .aload 1, 0, 0, 0),
  (6, [], .getfield 384, 0, 50, 183),
  (9, [], .getfield 192, 0, 102, 110),
  (12, [], .if_icmp .ge 45, 0, 0, 0),
  (15, [], .aload 0, 0, 0, 0),
  (16, [], .aload 1, 0, 0, 0),
  (17, [], .iload 3, 0, 0, 0),
  (18, [], .iconst 0, 0, 0, 0),
  (19, [], .invokeinterface 56 401, 0, 136, 719),
  (22, [], .istore 4, 1, 0, 0),
  (24, [], .iload 4, 1, 0, 0),
  (26, [], .iconst (-2), 1, 0, 0),
  (28, [], .if_icmp .ne 34, 0, 0, 0),
  (31, [], .iconst (-2), 1, 0, 0),
  (33, [], .ireturn, 0, 0, 0),
  (34, [], .iload 2, 0, 0, 0),
  (35, [], .iload 4, 1, 0, 0),
  (37, [], .iadd, 0, 0, 0),
  (38, [], .istore 2, 0, 0, 0),
  (39, [], .iinc 3 1, 0, 0, 0),
  (42, [], .goto 4, 0, 0, 0),
  (45, [], .iload 2, 0, 0, 0),
  (46, [], .ireturn, 0, 0, 0)]
theorem tk_Pl_playingsByBars : pm_okT M_Pl_playingsByBars T_Pl_playingsByBars = true := by decide +kernel
theorem ok_Pl_playingsByBars : pm_okm M_Pl_playingsByBars := pm_okm_of _ 739 80 737 738 (by decide +kernel)
set_option maxRecDepth 100000 in
set_option maxHeartbeats 4000000 in
theorem m_Pl_playingsByBars {d : Nat} {H : pmT} {Q : pmQ} 
    (h : pm_RW none (d + 1) M_Pl_playingsByBars Q 4 [(0, .ref 21), (1, .ref 1), (2, .int (0 : Int32)), (3, .int (0 : Int32))] [] H) : pm_R (d + 1) M_Pl_playingsByBars [.ref 21, .ref 1] H Q :=
  pm_walk (n := 5) ok_Pl_playingsByBars tk_Pl_playingsByBars rfl (Nat.le_of_ble_eq_true rfl) (show pm_RW none (d + 1) M_Pl_playingsByBars Q 4 [(0, .ref 21), (1, .ref 1), (2, .int (0 : Int32)), (3, .int (0 : Int32))] [] H from h)
set_option maxRecDepth 100000 in
set_option maxHeartbeats 4000000 in
theorem b_Pl_playingsByBars_4 {d : Nat} {H : pmT} {Q : pmQ} (v2 : Int32) (v3 : Int32)
    (h : ((H.1 2 0) ≤ v3 → Q (some (.int v2)) H) ∧ (¬ (H.1 2 0) ≤ v3 → pm_R d M_Pl_playingsTillRight [.ref 21, .ref 1, .int v3, .int (0 : Int32)] H (pm_i (fun x2 H1 => (¬ x2 = (-2 : Int32) → pm_RW none (d + 1) M_Pl_playingsByBars Q 4 [(0, .ref 21), (1, .ref 1), (2, .int (v2 + x2)), (3, .int (v3 + (1 : Int32)))] [] H1) ∧ (x2 = (-2 : Int32) → Q (some (.int (-2 : Int32))) H1))))) : pm_RW none (d + 1) M_Pl_playingsByBars Q 4 [(0, .ref 21), (1, .ref 1), (2, .int v2), (3, .int v3)] [] H :=
  pm_body tk_Pl_playingsByBars 20 4 (show ((H.1 2 0) ≤ v3 → Q (some (.int v2)) H) ∧ (¬ (H.1 2 0) ≤ v3 → pm_R d M_Pl_playingsTillRight [.ref 21, .ref 1, .int v3, .int (0 : Int32)] H (pm_i (fun x2 H1 => (¬ x2 = (-2 : Int32) → pm_RW none (d + 1) M_Pl_playingsByBars Q 4 [(0, .ref 21), (1, .ref 1), (2, .int (v2 + x2)), (3, .int (v3 + (1 : Int32)))] [] H1) ∧ (x2 = (-2 : Int32) → Q (some (.int (-2 : Int32))) H1)))) from ⟨fun q1 => (h.1 q1), fun q1 => pm_mi (h.2 q1) (fun x2 H1 z2 => ⟨fun q3 => (z2.1 q3), fun q3 => (z2.2 q3)⟩)⟩)
def T_Ea_firstUnlike : List pmE := [
  (0, [], .aload 1, 0, 0, 0),
  (1, [], .getfield 385, 0, 15, 187),
  (4, [], .aload 1, 0, 0, 0),
  (5, [], .getfield 384, 0, 21, 184),
  (8, [], .invokeinterface 25 264, 0, 24, 762),
  (11, [], .aload 0, 0, 0, 0),
  (12, [], .aload 1, 0, 0, 0),
  (13, [], .aload 2, 0, 0, 0),
  (14, [], .aload 1, 0, 0, 0),
  (15, [], .invokeinterface 72 453, 0, 30, 763),
  (18, [], .invokeinterface 16 209, 0, 34, 764),
  (21, [], .ireturn, 0, 0, 0)]
theorem tk_Ea_firstUnlike : pm_okT M_Ea_firstUnlike T_Ea_firstUnlike = true := by decide +kernel
theorem ok_Ea_firstUnlike : pm_okm M_Ea_firstUnlike := pm_okm_of _ 761 81 759 760 (by decide +kernel)
set_option maxRecDepth 100000 in
set_option maxHeartbeats 4000000 in
theorem m_Ea_firstUnlike {d : Nat} {H : pmT} {Q : pmQ} (s : Nat)
    (h : pm_R d M_Ha_takeAll [.ref 8, .ref 2] H (pm_v (fun H1 => pm_R d M_Ea_unlikeFromThought [.ref 25, .ref 1, .ref s, .int (H1.1 20 2)] H1 (pm_i (fun x3 H2 => Q (some (.int x3)) H2))))) : pm_R (d + 1) M_Ea_firstUnlike [.ref 25, .ref 1, .ref s] H Q :=
  pm_walk (n := 12) ok_Ea_firstUnlike tk_Ea_firstUnlike rfl (Nat.le_of_ble_eq_true rfl) (show pm_R d M_Ha_takeAll [.ref 8, .ref 2] H (pm_v (fun H1 => pm_R d M_Pr_fades [.ref 1] H1 (pm_i (fun x3 H2 => pm_R d M_Ea_unlikeFromThought [.ref 25, .ref 1, .ref s, .int x3] H2 (pm_i (fun x5 H4 => Q (some (.int x5)) H4)))))) from pm_mv' h (fun H1 z1 => u_Pr_fades  (⟨(pm_ik rfl), z1⟩)))
def T_Ea_unlikeFromThought : List pmE := [
  (0, [], .iconst 0, 0, 0, 0),
  (1, [], .istore 4, 1, 0, 0),
  (3, [1, 2, 3, 4], .iconst 2, 0, 0, 0),
  (4, [], .iload 4, 1, 0, 0),
  (6, [], .imul, 0, 0, 0),
  (7, [], .aload 2, 0, 0, 0),
  (8, [], .getfield 450, 0, 38, 333),
  (11, [], .if_icmp .ge 92, 0, 0, 0),
  (14, [], .aload 1, 0, 0, 0),
  (15, [], .aload 1, 0, 0, 0),
  (16, [], .getfield 385, 0, 15, 187),
  (19, [], .aload 2, 0, 0, 0),
  (20, [], .iconst 2, 0, 0, 0),
  (21, [], .iload 4, 1, 0, 0),
  (23, [], .imul, 0, 0, 0),
  (24, [], .invokeinterface 88 522, 0, 43, 768),
  (27, [], .l2i, 0, 0, 0),
  (28, [], .iload 3, 0, 0, 0),
  (29, [], .invokeinterface 80 465, 0, 47, 769),
  (32, [], .istore 5, 1, 0, 0),
  (34, [], .iconst 2, 0, 0, 0),
  (35, [], .iload 4, 1, 0, 0),
  (37, [], .imul, 0, 0, 0),
  (38, [], .iconst 1, 0, 0, 0),
  (39, [], .iadd, 0, 0, 0),
  (40, [], .aload 2, 0, 0, 0),
  (41, [], .getfield 450, 0, 38, 333),
  (44, [], .if_icmp .ge 51, 0, 0, 0),
  (47, [], .iconst 1, 0, 0, 0),
  (48, [], .goto 52, 0, 0, 0),
  (51, [], .iconst 0, 0, 0, 0),
  (52, [], .istore 6, 1, 0, 0),
  (54, [], .iload 5, 1, 0, 0),
  (56, [], .iconst (-1), 0, 0, 0),
  (57, [], .if_icmp .eq 83, 0, 0, 0),
  (60, [], .iload 6, 1, 0, 0),
  (62, [], .ifCond .eq 86, 0, 0, 0),
  (65, [], .aload 2, 0, 0, 0),
  (66, [], .iconst 2, 0, 0, 0),
  (67, [], .iload 4, 1, 0, 0),
  (69, [], .imul, 0, 0, 0),
  (70, [], .iconst 1, 0, 0, 0),
  (71, [], .iadd, 0, 0, 0),
  (72, [], .invokeinterface 88 522, 0, 43, 768),
  (75, [], .iload 5, 1, 0, 0),
  (77, [], .invokeinterface 17 9, 1, 51, 770),
  (80, [], .ifCond .eq 86, 0, 0, 0),
  (83, [], .iload 4, 1, 0, 0),
  (85, [], .ireturn, 0, 0, 0),
  (86, [], .iinc 4 1, 0, 0, 0),
  (89, [], .goto 3, 0, 0, 0),
  (92, [], .iconst (-2), 1, 0, 0),
  (94, [], .ireturn, 0, 0, 0)]
theorem tk_Ea_unlikeFromThought : pm_okT M_Ea_unlikeFromThought T_Ea_unlikeFromThought = true := by decide +kernel
theorem ok_Ea_unlikeFromThought : pm_okm M_Ea_unlikeFromThought := pm_okm_of _ 767 81 766 22 (by decide +kernel)
set_option maxRecDepth 100000 in
set_option maxHeartbeats 4000000 in
theorem m_Ea_unlikeFromThought {d : Nat} {H : pmT} {Q : pmQ} (s : Nat) (a3 : Int32)
    (h : pm_RW none (d + 1) M_Ea_unlikeFromThought Q 3 [(1, .ref 1), (2, .ref s), (3, .int a3), (4, .int (0 : Int32))] [] H) : pm_R (d + 1) M_Ea_unlikeFromThought [.ref 25, .ref 1, .ref s, .int a3] H Q :=
  pm_walk (n := 3) ok_Ea_unlikeFromThought tk_Ea_unlikeFromThought rfl (Nat.le_of_ble_eq_true rfl) (show pm_RW none (d + 1) M_Ea_unlikeFromThought Q 3 [(1, .ref 1), (2, .ref s), (3, .int a3), (4, .int (0 : Int32))] [] H from h)
set_option maxRecDepth 100000 in
set_option maxHeartbeats 4000000 in
theorem b_Ea_unlikeFromThought_3 {d : Nat} {H : pmT} {Q : pmQ} (s : Nat) (v3 : Int32) (v4 : Int32) (hs : pm_SH[s]? = some (.inl 7))
    (h : ((H.1 s 2) ≤ ((2 : Int32) * v4) → Q (some (.int (-2 : Int32))) H) ∧ (¬ (H.1 s 2) ≤ ((2 : Int32) * v4) → pm_R d M_Sh_at [.ref s, .int ((2 : Int32) * v4)] H (pm_l (fun x2 H1 => pm_R d M_Pr_step [.ref 1, .ref 8, .int x2.toInt32, .int v3] H1 (pm_i (fun x4 H3 => ((H3.1 s 2) ≤ (((2 : Int32) * v4) + (1 : Int32)) → (x4 = (-1 : Int32) → Q (some (.int v4)) H3) ∧ (¬ x4 = (-1 : Int32) → pm_RW none (d + 1) M_Ea_unlikeFromThought Q 3 [(1, .ref 1), (2, .ref s), (3, .int v3), (4, .int (v4 + (1 : Int32)))] [] H3)) ∧ (¬ (H3.1 s 2) ≤ (((2 : Int32) * v4) + (1 : Int32)) → (x4 = (-1 : Int32) → Q (some (.int v4)) H3) ∧ (¬ x4 = (-1 : Int32) → pm_R d M_Sh_at [.ref s, .int (((2 : Int32) * v4) + (1 : Int32))] H3 (pm_l (fun x10 H9 => pm_R d M_Ea_differs [.long x10, .int x4] H9 (pm_i (fun x12 H11 => (x12 = 0 → pm_RW none (d + 1) M_Ea_unlikeFromThought Q 3 [(1, .ref 1), (2, .ref s), (3, .int v3), (4, .int (v4 + (1 : Int32)))] [] H11) ∧ (¬ x12 = 0 → Q (some (.int v4)) H11))))))))))))) : pm_RW none (d + 1) M_Ea_unlikeFromThought Q 3 [(1, .ref 1), (2, .ref s), (3, .int v3), (4, .int v4)] [] H :=
  pm_body tk_Ea_unlikeFromThought 46 3 (show pm_chkO s 7 (((H.1 s 2) ≤ ((2 : Int32) * v4) → Q (some (.int (-2 : Int32))) H) ∧ (¬ (H.1 s 2) ≤ ((2 : Int32) * v4) → pm_chkO s 7 (pm_R d M_Sh_at [.ref s, .int ((2 : Int32) * v4)] H (pm_l (fun x2 H1 => pm_R d M_Pr_step [.ref 1, .ref 8, .int x2.toInt32, .int v3] H1 (pm_i (fun x4 H3 => pm_chkO s 7 (((H3.1 s 2) ≤ (((2 : Int32) * v4) + (1 : Int32)) → (x4 = (-1 : Int32) → Q (some (.int v4)) H3) ∧ (¬ x4 = (-1 : Int32) → ((0 : Int32) = 0 → pm_RW none (d + 1) M_Ea_unlikeFromThought Q 3 [(1, .ref 1), (2, .ref s), (3, .int v3), (4, .int (v4 + (1 : Int32)))] [] H3) ∧ (¬ (0 : Int32) = 0 → pm_chkO s 7 (pm_R d M_Sh_at [.ref s, .int (((2 : Int32) * v4) + (1 : Int32))] H3 (pm_l (fun x6 H5 => pm_R d M_Ea_differs [.long x6, .int x4] H5 (pm_i (fun x8 H7 => (x8 = 0 → pm_RW none (d + 1) M_Ea_unlikeFromThought Q 3 [(1, .ref 1), (2, .ref s), (3, .int v3), (4, .int (v4 + (1 : Int32)))] [] H7) ∧ (¬ x8 = 0 → Q (some (.int v4)) H7))))))))) ∧ (¬ (H3.1 s 2) ≤ (((2 : Int32) * v4) + (1 : Int32)) → (x4 = (-1 : Int32) → Q (some (.int v4)) H3) ∧ (¬ x4 = (-1 : Int32) → ((1 : Int32) = 0 → pm_RW none (d + 1) M_Ea_unlikeFromThought Q 3 [(1, .ref 1), (2, .ref s), (3, .int v3), (4, .int (v4 + (1 : Int32)))] [] H3) ∧ (¬ (1 : Int32) = 0 → pm_chkO s 7 (pm_R d M_Sh_at [.ref s, .int (((2 : Int32) * v4) + (1 : Int32))] H3 (pm_l (fun x10 H9 => pm_R d M_Ea_differs [.long x10, .int x4] H9 (pm_i (fun x12 H11 => (x12 = 0 → pm_RW none (d + 1) M_Ea_unlikeFromThought Q 3 [(1, .ref 1), (2, .ref s), (3, .int v3), (4, .int (v4 + (1 : Int32)))] [] H11) ∧ (¬ x12 = 0 → Q (some (.int v4)) H11))))))))))))))))) from pm_mkO hs (⟨fun q1 => (h.1 q1), fun q1 => pm_mkO hs (pm_ml' (h.2 q1) (fun x2 H1 z2 => pm_mi z2 (fun x4 H3 z3 => pm_mkO hs (⟨fun q4 => ⟨fun q5 => ((z3.1 q4).1 q5), fun q5 => ⟨fun _ => ((z3.1 q4).2 q5), fun z => absurd (by decide) z⟩⟩, fun q4 => ⟨fun q6 => ((z3.2 q4).1 q6), fun q6 => ⟨fun z => absurd z (by decide), fun _ => pm_mkO hs (pm_ml' ((z3.2 q4).2 q6) (fun x10 H9 z7 => pm_mi z7 (fun x12 H11 z8 => ⟨fun q9 => (z8.1 q9), fun q9 => (z8.2 q9)⟩)))⟩⟩⟩))))⟩))
def T_Ea_differs : List pmE := [
  (0, [], .iload 2, 0, 0, 0),
  (1, [], .iconst (-2), 1, 0, 0),
  (3, [], .if_icmp .eq 29, 0, 0, 0),
  (6, [], .lload 0, 0, 0, 0),
  (7, [], .jsr 0, 0, 0, 0),
  (8, [], .lcmp, 0, 0, 0),
  (9, [], .ifCond .eq 18, 0, 0, 0),
  (12, [], .lload 0, 0, 0, 0),
  (13, [], .jsr 1, 0, 0, 0),
  (14, [], .lcmp, 0, 0, 0),
  (15, [], .ifCond .ne 29, 0, 0, 0),
  (18, [], .lload 0, 0, 0, 0),
  (19, [], .iload 2, 0, 0, 0),
  (20, [], .i2l, 0, 0, 0),
  (21, [], .lcmp, 0, 0, 0),
  (22, [], .ifCond .eq 29, 0, 0, 0),
  (25, [], .iconst 1, 0, 0, 0),
  (26, [], .goto 30, 0, 0, 0),
  (29, [], .iconst 0, 0, 0, 0),
  (30, [], .areturn, 0, 0, 0)]
theorem tk_Ea_differs : pm_okT M_Ea_differs T_Ea_differs = true := by decide +kernel
theorem ok_Ea_differs : pm_okm M_Ea_differs := pm_okm_of _ 772 81 771 0 (by decide +kernel)
set_option maxRecDepth 100000 in
set_option maxHeartbeats 4000000 in
theorem m_Ea_differs {d : Nat} {H : pmT} {Q : pmQ} (a1 : Int64) (a2 : Int32)
    (h : (a2 = (-2 : Int32) → Q (some (.int (0 : Int32))) H) ∧ (¬ a2 = (-2 : Int32) → ((lg_cmp a1 (0 : Int64)) = 0 → ((lg_cmp a1 a2.toInt64) = 0 → Q (some (.int (0 : Int32))) H) ∧ (¬ (lg_cmp a1 a2.toInt64) = 0 → Q (some (.int (1 : Int32))) H)) ∧ (¬ (lg_cmp a1 (0 : Int64)) = 0 → (¬ (lg_cmp a1 (1 : Int64)) = 0 → Q (some (.int (0 : Int32))) H) ∧ ((lg_cmp a1 (1 : Int64)) = 0 → ((lg_cmp a1 a2.toInt64) = 0 → Q (some (.int (0 : Int32))) H) ∧ (¬ (lg_cmp a1 a2.toInt64) = 0 → Q (some (.int (1 : Int32))) H))))) : pm_R d M_Ea_differs [.long a1, .int a2] H Q :=
  pm_walk (n := 19) ok_Ea_differs tk_Ea_differs rfl (Nat.le_of_ble_eq_true rfl) (show (a2 = (-2 : Int32) → ((0 : Int32) = 0 ∨ (0 : Int32) = 1) ∧ (Q (some (.int (0 : Int32))) H)) ∧ (¬ a2 = (-2 : Int32) → ((lg_cmp a1 (0 : Int64)) = 0 → ((lg_cmp a1 a2.toInt64) = 0 → ((0 : Int32) = 0 ∨ (0 : Int32) = 1) ∧ (Q (some (.int (0 : Int32))) H)) ∧ (¬ (lg_cmp a1 a2.toInt64) = 0 → ((1 : Int32) = 0 ∨ (1 : Int32) = 1) ∧ (Q (some (.int (1 : Int32))) H))) ∧ (¬ (lg_cmp a1 (0 : Int64)) = 0 → (¬ (lg_cmp a1 (1 : Int64)) = 0 → ((0 : Int32) = 0 ∨ (0 : Int32) = 1) ∧ (Q (some (.int (0 : Int32))) H)) ∧ ((lg_cmp a1 (1 : Int64)) = 0 → ((lg_cmp a1 a2.toInt64) = 0 → ((0 : Int32) = 0 ∨ (0 : Int32) = 1) ∧ (Q (some (.int (0 : Int32))) H)) ∧ (¬ (lg_cmp a1 a2.toInt64) = 0 → ((1 : Int32) = 0 ∨ (1 : Int32) = 1) ∧ (Q (some (.int (1 : Int32))) H))))) from ⟨fun q1 => ⟨Or.inl rfl, (h.1 q1)⟩, fun q1 => ⟨fun q2 => ⟨fun q3 => ⟨Or.inl rfl, (((h.2 q1).1 q2).1 q3)⟩, fun q3 => ⟨Or.inr rfl, (((h.2 q1).1 q2).2 q3)⟩⟩, fun q2 => ⟨fun q4 => ⟨Or.inl rfl, (((h.2 q1).2 q2).1 q4)⟩, fun q4 => ⟨fun q5 => ⟨Or.inl rfl, ((((h.2 q1).2 q2).2 q4).1 q5)⟩, fun q5 => ⟨Or.inr rfl, ((((h.2 q1).2 q2).2 q4).2 q5)⟩⟩⟩⟩⟩)
def T_Ea_fittingWrong : List pmE := [
  (0, [], .iconst 0, 0, 0, 0),
  (1, [], .istore 5, 1, 0, 0),
  (3, [0, 1, 2, 3, 4, 5], .iload 5, 1, 0, 0),
  (5, [], .iconst 999, 2, 0, 0),
  (8, [], .if_icmp .gt 75, 0, 0, 0),
  (11, [], .iload 4, 1, 0, 0),
  (13, [], .ifCond .eq 25, 0, 0, 0),
  (16, [], .iconst 999, 2, 0, 0),
  (19, [], .iload 5, 1, 0, 0),
  (21, [], .isub, 0, 0, 0),
  (22, [], .goto 27, 0, 0, 0),
  (25, [], .iload 5, 1, 0, 0),
  (27, [], .istore 6, 1, 0, 0),
  (29, [], .aload 1, 0, 0, 0),
  (30, [], .getfield 385, 0, 15, 187),
  (33, [], .aload 1, 0, 0, 0),
  (34, [], .getfield 384, 0, 21, 184),
  (37, [], .invokeinterface 25 264, 0, 24, 762),
  (40, [], .aload 1, 0, 0, 0),
  (41, [], .getfield 385, 0, 15, 187),
  (44, [], .getfield 194, 0, 55, 120),
  (47, [], .iload 3, 0, 0, 0),
  (48, [], .iload 6, 1, 0, 0),
  (50, [], .iastore, 0, 0, 0),
  (51, [], .aload 0, 0, 0, 0),
  (52, [], .aload 1, 0, 0, 0),
  (53, [], .aload 2, 0, 0, 0),
  (54, [], .aload 1, 0, 0, 0),
  (55, [], .invokeinterface 72 453, 0, 30, 763),
  (58, [], .invokeinterface 16 209, 0, 34, 764),
  (61, [], .iconst (-2), 1, 0, 0),
  (63, [], .if_icmp .ne 69, 0, 0, 0),
  (66, [], .iload 6, 1, 0, 0),
  (68, [], .ireturn, 0, 0, 0),
  (69, [], .iinc 5 1, 0, 0, 0),
  (72, [], .goto 3, 0, 0, 0),
  (75, [], .iconst (-2), 1, 0, 0),
  (77, [], .ireturn, 0, 0, 0)]
theorem tk_Ea_fittingWrong : pm_okT M_Ea_fittingWrong T_Ea_fittingWrong = true := by decide +kernel
theorem ok_Ea_fittingWrong : pm_okm M_Ea_fittingWrong := pm_okm_of _ 780 81 778 779 (by decide +kernel)
set_option maxRecDepth 100000 in
set_option maxHeartbeats 4000000 in
theorem m_Ea_fittingWrong {d : Nat} {H : pmT} {Q : pmQ} (s : Nat) (a3 : Int32) (a4 : Int32)
    (h : pm_RW none (d + 1) M_Ea_fittingWrong Q 3 [(0, .ref 25), (1, .ref 1), (2, .ref s), (3, .int a3), (4, .int a4), (5, .int (0 : Int32))] [] H) : pm_R (d + 1) M_Ea_fittingWrong [.ref 25, .ref 1, .ref s, .int a3, .int a4] H Q :=
  pm_walk (n := 3) ok_Ea_fittingWrong tk_Ea_fittingWrong rfl (Nat.le_of_ble_eq_true rfl) (show pm_RW none (d + 1) M_Ea_fittingWrong Q 3 [(0, .ref 25), (1, .ref 1), (2, .ref s), (3, .int a3), (4, .int a4), (5, .int (0 : Int32))] [] H from h)
set_option maxRecDepth 100000 in
set_option maxHeartbeats 4000000 in
theorem b_Ea_fittingWrong_3 {d : Nat} {H : pmT} {Q : pmQ} (s : Nat) (v3 : Int32) (v4 : Int32) (v5 : Int32)
    (h : ((999 : Int32) < v5 → Q (some (.int (-2 : Int32))) H) ∧ (¬ (999 : Int32) < v5 → (v4 = 0 → pm_R d M_Ha_takeAll [.ref 8, .ref 2] H (pm_v (fun H1 => vp_in v3 12 ∧ (pm_R d M_Ea_unlikeFromThought [.ref 25, .ref 1, .ref s, .int (H1.1 20 2)] ((pm_up H1.1 10 v3.toNatClampNeg v5), H1.2) (pm_i (fun x3 H2 => (¬ x3 = (-2 : Int32) → pm_RW none (d + 1) M_Ea_fittingWrong Q 3 [(0, .ref 25), (1, .ref 1), (2, .ref s), (3, .int v3), (4, .int v4), (5, .int (v5 + (1 : Int32)))] [] H2) ∧ (x3 = (-2 : Int32) → Q (some (.int v5)) H2))))))) ∧ (¬ v4 = 0 → pm_R d M_Ha_takeAll [.ref 8, .ref 2] H (pm_v (fun H4 => vp_in v3 12 ∧ (pm_R d M_Ea_unlikeFromThought [.ref 25, .ref 1, .ref s, .int (H4.1 20 2)] ((pm_up H4.1 10 v3.toNatClampNeg ((999 : Int32) - v5)), H4.2) (pm_i (fun x6 H5 => (¬ x6 = (-2 : Int32) → pm_RW none (d + 1) M_Ea_fittingWrong Q 3 [(0, .ref 25), (1, .ref 1), (2, .ref s), (3, .int v3), (4, .int v4), (5, .int (v5 + (1 : Int32)))] [] H5) ∧ (x6 = (-2 : Int32) → Q (some (.int ((999 : Int32) - v5))) H5))))))))) : pm_RW none (d + 1) M_Ea_fittingWrong Q 3 [(0, .ref 25), (1, .ref 1), (2, .ref s), (3, .int v3), (4, .int v4), (5, .int v5)] [] H :=
  pm_body tk_Ea_fittingWrong 31 3 (show ((999 : Int32) < v5 → Q (some (.int (-2 : Int32))) H) ∧ (¬ (999 : Int32) < v5 → (v4 = 0 → pm_R d M_Ha_takeAll [.ref 8, .ref 2] H (pm_v (fun H1 => vp_in v3 12 ∧ (pm_R d M_Pr_fades [.ref 1] ((pm_up H1.1 10 v3.toNatClampNeg v5), H1.2) (pm_i (fun x3 H2 => pm_R d M_Ea_unlikeFromThought [.ref 25, .ref 1, .ref s, .int x3] H2 (pm_i (fun x5 H4 => (¬ x5 = (-2 : Int32) → pm_RW none (d + 1) M_Ea_fittingWrong Q 3 [(0, .ref 25), (1, .ref 1), (2, .ref s), (3, .int v3), (4, .int v4), (5, .int (v5 + (1 : Int32)))] [] H4) ∧ (x5 = (-2 : Int32) → Q (some (.int v5)) H4))))))))) ∧ (¬ v4 = 0 → pm_R d M_Ha_takeAll [.ref 8, .ref 2] H (pm_v (fun H6 => vp_in v3 12 ∧ (pm_R d M_Pr_fades [.ref 1] ((pm_up H6.1 10 v3.toNatClampNeg ((999 : Int32) - v5)), H6.2) (pm_i (fun x8 H7 => pm_R d M_Ea_unlikeFromThought [.ref 25, .ref 1, .ref s, .int x8] H7 (pm_i (fun x10 H9 => (¬ x10 = (-2 : Int32) → pm_RW none (d + 1) M_Ea_fittingWrong Q 3 [(0, .ref 25), (1, .ref 1), (2, .ref s), (3, .int v3), (4, .int v4), (5, .int (v5 + (1 : Int32)))] [] H9) ∧ (x10 = (-2 : Int32) → Q (some (.int ((999 : Int32) - v5))) H9)))))))))) from ⟨fun q1 => (h.1 q1), fun q1 => ⟨fun q2 => pm_mv' ((h.2 q1).1 q2) (fun H1 z3 => ⟨z3.1, u_Pr_fades  (⟨(pm_ik rfl), pm_mi z3.2 (fun x3 H2 z4 => ⟨fun q5 => (z4.1 q5), fun q5 => (z4.2 q5)⟩)⟩)⟩), fun q2 => pm_mv' ((h.2 q1).2 q2) (fun H4 z6 => ⟨z6.1, u_Pr_fades  (⟨(pm_ik rfl), pm_mi z6.2 (fun x6 H5 z7 => ⟨fun q8 => (z7.1 q8), fun q8 => (z7.2 q8)⟩)⟩)⟩)⟩⟩)
def T_Ea_leastFades : List pmE := [
  (0, [], .iconst 0, 0, 0, 0),
  (1, [], .istore 3, 0, 0, 0),
  (2, [0, 1, 2, 3], .iload 3, 0, 0, 0),
  (3, [], .iconst 12, 1, 0, 0),
  (5, [], .if_icmp .gt 39, 0, 0, 0),
  (8, [], .aload 1, 0, 0, 0),
  (9, [], .getfield 385, 0, 15, 187),
  (12, [], .aload 1, 0, 0, 0),
  (13, [], .getfield 384, 0, 21, 184),
  (16, [], .invokeinterface 25 264, 0, 24, 762),
  (19, [], .aload 0, 0, 0, 0),
  (20, [], .aload 1, 0, 0, 0),
  (21, [], .aload 2, 0, 0, 0),
  (22, [], .iload 3, 0, 0, 0),
  (23, [], .invokeinterface 16 209, 0, 34, 764),
  (26, [], .iconst (-2), 1, 0, 0),
  (28, [], .if_icmp .ne 33, 0, 0, 0),
  (31, [], .iload 3, 0, 0, 0),
  (32, [], .ireturn, 0, 0, 0),
  (33, [], .iinc 3 1, 0, 0, 0),
  (36, [], .goto 2, 0, 0, 0),
  (39, [], .iconst (-2), 1, 0, 0),
  (41, [], .ireturn, 0, 0, 0)]
theorem tk_Ea_leastFades : pm_okT M_Ea_leastFades T_Ea_leastFades = true := by decide +kernel
theorem ok_Ea_leastFades : pm_okm M_Ea_leastFades := pm_okm_of _ 788 81 786 787 (by decide +kernel)
set_option maxRecDepth 100000 in
set_option maxHeartbeats 4000000 in
theorem m_Ea_leastFades {d : Nat} {H : pmT} {Q : pmQ} (s : Nat)
    (h : pm_RW none (d + 1) M_Ea_leastFades Q 2 [(0, .ref 25), (1, .ref 1), (2, .ref s), (3, .int (0 : Int32))] [] H) : pm_R (d + 1) M_Ea_leastFades [.ref 25, .ref 1, .ref s] H Q :=
  pm_walk (n := 3) ok_Ea_leastFades tk_Ea_leastFades rfl (Nat.le_of_ble_eq_true rfl) (show pm_RW none (d + 1) M_Ea_leastFades Q 2 [(0, .ref 25), (1, .ref 1), (2, .ref s), (3, .int (0 : Int32))] [] H from h)
set_option maxRecDepth 100000 in
set_option maxHeartbeats 4000000 in
theorem b_Ea_leastFades_2 {d : Nat} {H : pmT} {Q : pmQ} (s : Nat) (v3 : Int32)
    (h : ((12 : Int32) < v3 → Q (some (.int (-2 : Int32))) H) ∧ (¬ (12 : Int32) < v3 → pm_R d M_Ha_takeAll [.ref 8, .ref 2] H (pm_v (fun H1 => pm_R d M_Ea_unlikeFromThought [.ref 25, .ref 1, .ref s, .int v3] H1 (pm_i (fun x3 H2 => (¬ x3 = (-2 : Int32) → pm_RW none (d + 1) M_Ea_leastFades Q 2 [(0, .ref 25), (1, .ref 1), (2, .ref s), (3, .int (v3 + (1 : Int32)))] [] H2) ∧ (x3 = (-2 : Int32) → Q (some (.int v3)) H2))))))) : pm_RW none (d + 1) M_Ea_leastFades Q 2 [(0, .ref 25), (1, .ref 1), (2, .ref s), (3, .int v3)] [] H :=
  pm_body tk_Ea_leastFades 17 2 (show ((12 : Int32) < v3 → Q (some (.int (-2 : Int32))) H) ∧ (¬ (12 : Int32) < v3 → pm_R d M_Ha_takeAll [.ref 8, .ref 2] H (pm_v (fun H1 => pm_R d M_Ea_unlikeFromThought [.ref 25, .ref 1, .ref s, .int v3] H1 (pm_i (fun x3 H2 => (¬ x3 = (-2 : Int32) → pm_RW none (d + 1) M_Ea_leastFades Q 2 [(0, .ref 25), (1, .ref 1), (2, .ref s), (3, .int (v3 + (1 : Int32)))] [] H2) ∧ (x3 = (-2 : Int32) → Q (some (.int v3)) H2)))))) from ⟨fun q1 => (h.1 q1), fun q1 => pm_mv' (h.2 q1) (fun H1 z2 => pm_mi z2 (fun x3 H2 z3 => ⟨fun q4 => (z3.1 q4), fun q4 => (z3.2 q4)⟩))⟩)
def T_Ea_likeBars : List pmE := [
  (0, [], .iconst 0, 0, 0, 0),
  (1, [], .istore 3, 0, 0, 0),
  (2, [], .iconst 0, 0, 0, 0),
  (3, [], .istore 4, 1, 0, 0),
  (5, [0, 1, 2, 3, 4], .iload 4, 1, 0, 0),
  (7, [], .aload 1, 0, 0, 0),
  (8, [], .getfield 384, 0, 21, 184),
  (11, [], .getfield 192, 0, 59, 111),
  (14, [], .if_icmp .ge 41, 0, 0, 0),
  (17, [], .aload 0, 0, 0, 0),
  (18, [], .aload 1, 0, 0, 0),
  (19, [], .iload 4, 1, 0, 0),
  (21, [], .aload 2, 0, 0, 0),
  (22, [], .invokeinterface 21 209, 0, 62, 797),
  (25, [], .ifCond .eq 35, 0, 0, 0),
  (28, [], .iload 3, 0, 0, 0),
  (29, [], .iconst 1, 0, 0, 0),
  (30, [], .iload 4, 1, 0, 0),
  (32, [], .ishl, 0, 0, 0),
  (33, [], .ior, 0, 0, 0),
  (34, [], .istore 3, 0, 0, 0),
  (35, [], .iinc 4 1, 0, 0, 0),
  (38, [], .goto 5, 0, 0, 0),
  (41, [], .iload 3, 0, 0, 0),
  (42, [], .ireturn, 0, 0, 0)]
theorem tk_Ea_likeBars : pm_okT M_Ea_likeBars T_Ea_likeBars = true := by decide +kernel
theorem ok_Ea_likeBars : pm_okm M_Ea_likeBars := pm_okm_of _ 796 81 794 795 (by decide +kernel)
set_option maxRecDepth 100000 in
set_option maxHeartbeats 4000000 in
theorem m_Ea_likeBars {d : Nat} {H : pmT} {Q : pmQ} (s : Nat)
    (h : pm_RW none (d + 1) M_Ea_likeBars Q 5 [(0, .ref 25), (1, .ref 1), (2, .ref s), (3, .int (0 : Int32)), (4, .int (0 : Int32))] [] H) : pm_R (d + 1) M_Ea_likeBars [.ref 25, .ref 1, .ref s] H Q :=
  pm_walk (n := 5) ok_Ea_likeBars tk_Ea_likeBars rfl (Nat.le_of_ble_eq_true rfl) (show pm_RW none (d + 1) M_Ea_likeBars Q 5 [(0, .ref 25), (1, .ref 1), (2, .ref s), (3, .int (0 : Int32)), (4, .int (0 : Int32))] [] H from h)
set_option maxRecDepth 100000 in
set_option maxHeartbeats 4000000 in
theorem b_Ea_likeBars_5 {d : Nat} {H : pmT} {Q : pmQ} (s : Nat) (v3 : Int32) (v4 : Int32)
    (h : ((H.1 2 0) ≤ v4 → Q (some (.int v3)) H) ∧ (¬ (H.1 2 0) ≤ v4 → pm_R d M_Ea_mayHaveBeen [.ref 25, .ref 1, .int v4, .ref s] H (pm_i (fun x2 H1 => (x2 = 0 → pm_RW none (d + 1) M_Ea_likeBars Q 5 [(0, .ref 25), (1, .ref 1), (2, .ref s), (3, .int v3), (4, .int (v4 + (1 : Int32)))] [] H1) ∧ (¬ x2 = 0 → pm_RW none (d + 1) M_Ea_likeBars Q 5 [(0, .ref 25), (1, .ref 1), (2, .ref s), (3, .int (v3 ||| ((1 : Int32) <<< (v4 &&& 31)))), (4, .int (v4 + (1 : Int32)))] [] H1))))) : pm_RW none (d + 1) M_Ea_likeBars Q 5 [(0, .ref 25), (1, .ref 1), (2, .ref s), (3, .int v3), (4, .int v4)] [] H :=
  pm_body tk_Ea_likeBars 19 5 (show ((H.1 2 0) ≤ v4 → Q (some (.int v3)) H) ∧ (¬ (H.1 2 0) ≤ v4 → pm_R d M_Ea_mayHaveBeen [.ref 25, .ref 1, .int v4, .ref s] H (pm_i (fun x2 H1 => (x2 = 0 → pm_RW none (d + 1) M_Ea_likeBars Q 5 [(0, .ref 25), (1, .ref 1), (2, .ref s), (3, .int v3), (4, .int (v4 + (1 : Int32)))] [] H1) ∧ (¬ x2 = 0 → pm_RW none (d + 1) M_Ea_likeBars Q 5 [(0, .ref 25), (1, .ref 1), (2, .ref s), (3, .int (v3 ||| ((1 : Int32) <<< (v4 &&& 31)))), (4, .int (v4 + (1 : Int32)))] [] H1)))) from ⟨fun q1 => (h.1 q1), fun q1 => pm_mi (h.2 q1) (fun x2 H1 z2 => ⟨fun q3 => (z2.1 q3), fun q3 => (z2.2 q3)⟩)⟩)
def T_Ea_mayHaveBeen : List pmE := [
  (0, [], .aload 1, 0, 0, 0),
  (1, [], .getfield 385, 0, 15, 187),
  (4, [], .iload 2, 0, 0, 0),
  (5, [], .aload 1, 0, 0, 0),
  (6, [], .getfield 384, 0, 21, 184),
  (9, [], .iload 2, 0, 0, 0),
  (10, [], .invokeinterface 26 272, 0, 66, 801),
  (13, [], .iconst 0, 0, 0, 0),
  (14, [], .istore 4, 1, 0, 0),
  (16, [1, 2, 3, 4], .iload 4, 1, 0, 0),
  (18, [], .aload 3, 0, 0, 0),
  (19, [], .getfield 450, 0, 38, 333),
  (22, [], .if_icmp .ge 72, 0, 0, 0),
  (25, [], .aload 1, 0, 0, 0),
  (26, [], .aload 1, 0, 0, 0),
  (27, [], .getfield 385, 0, 15, 187),
  (30, [], .iload 2, 0, 0, 0),
  (31, [], .iconst 0, 0, 0, 0),
  (32, [], .invokeinterface 75 465, 0, 70, 802),
  (35, [], .istore 5, 1, 0, 0),
  (37, [], .aload 3, 0, 0, 0),
  (38, [], .iload 4, 1, 0, 0),
  (40, [], .invokeinterface 88 522, 0, 43, 768),
  (43, [], .iload 5, 1, 0, 0),
  (45, [], .invokeinterface 17 9, 1, 51, 770),
  (48, [], .ifCond .eq 53, 0, 0, 0),
  (51, [], .iconst 0, 0, 0, 0),
  (52, [], .areturn, 0, 0, 0),
  (53, [], .aload 1, 0, 0, 0),
  (54, [], .aload 1, 0, 0, 0),
  (55, [], .getfield 385, 0, 15, 187),
  (58, [], .iload 2, 0, 0, 0),
  (59, [], .aload 1, 0, 0, 0),
  (60, [], .invokeinterface 72 453, 0, 30, 763),
  (63, [], .invokeinterface 78 464, 0, 73, 803),
  (66, [], .iinc 4 1, 0, 0, 0),
  (69, [], .goto 16, 0, 0, 0),
  (72, [], .iconst 1, 0, 0, 0),
  (73, [], .areturn, 0, 0, 0)]
theorem tk_Ea_mayHaveBeen : pm_okT M_Ea_mayHaveBeen T_Ea_mayHaveBeen = true := by decide +kernel
theorem ok_Ea_mayHaveBeen : pm_okm M_Ea_mayHaveBeen := pm_okm_of _ 800 81 799 23 (by decide +kernel)
set_option maxRecDepth 100000 in
set_option maxHeartbeats 4000000 in
theorem m_Ea_mayHaveBeen {d : Nat} {H : pmT} {Q : pmQ} (a2 : Int32) (s : Nat)
    (h : pm_R d M_Ha_takeBar [.ref 8, .int a2, .ref 2, .int a2] H (pm_v (fun H1 => pm_RW none (d + 1) M_Ea_mayHaveBeen Q 16 [(1, .ref 1), (2, .int a2), (3, .ref s), (4, .int (0 : Int32))] [] H1))) : pm_R (d + 1) M_Ea_mayHaveBeen [.ref 25, .ref 1, .int a2, .ref s] H Q :=
  pm_walk (n := 10) ok_Ea_mayHaveBeen tk_Ea_mayHaveBeen rfl (Nat.le_of_ble_eq_true rfl) (show pm_R d M_Ha_takeBar [.ref 8, .int a2, .ref 2, .int a2] H (pm_v (fun H1 => pm_RW none (d + 1) M_Ea_mayHaveBeen Q 16 [(1, .ref 1), (2, .int a2), (3, .ref s), (4, .int (0 : Int32))] [] H1)) from h)
set_option maxRecDepth 100000 in
set_option maxHeartbeats 4000000 in
theorem b_Ea_mayHaveBeen_16 {d : Nat} {H : pmT} {Q : pmQ} (s : Nat) (v2 : Int32) (v4 : Int32) (hs : pm_SH[s]? = some (.inl 7))
    (h : ((H.1 s 2) ≤ v4 → Q (some (.int (1 : Int32))) H) ∧ (¬ (H.1 s 2) ≤ v4 → pm_R d M_Pr_playOnce [.ref 1, .ref 8, .int v2, .int (0 : Int32)] H (pm_i (fun x2 H1 => pm_R d M_Sh_at [.ref s, .int v4] H1 (pm_l (fun x4 H3 => pm_R d M_Ea_differs [.long x4, .int x2] H3 (pm_i (fun x6 H5 => (x6 = 0 → pm_R d M_Pr_sleepOver [.ref 1, .ref 8, .int v2, .int (H5.1 20 2)] H5 (pm_v (fun H7 => pm_RW none (d + 1) M_Ea_mayHaveBeen Q 16 [(1, .ref 1), (2, .int v2), (3, .ref s), (4, .int (v4 + (1 : Int32)))] [] H7))) ∧ (¬ x6 = 0 → Q (some (.int (0 : Int32))) H5))))))))) : pm_RW none (d + 1) M_Ea_mayHaveBeen Q 16 [(1, .ref 1), (2, .int v2), (3, .ref s), (4, .int v4)] [] H :=
  pm_body tk_Ea_mayHaveBeen 26 16 (show pm_chkO s 7 (((H.1 s 2) ≤ v4 → ((1 : Int32) = 0 ∨ (1 : Int32) = 1) ∧ (Q (some (.int (1 : Int32))) H)) ∧ (¬ (H.1 s 2) ≤ v4 → pm_R d M_Pr_playOnce [.ref 1, .ref 8, .int v2, .int (0 : Int32)] H (pm_i (fun x2 H1 => pm_chkO s 7 (pm_R d M_Sh_at [.ref s, .int v4] H1 (pm_l (fun x4 H3 => pm_R d M_Ea_differs [.long x4, .int x2] H3 (pm_i (fun x6 H5 => (x6 = 0 → pm_R d M_Pr_fades [.ref 1] H5 (pm_i (fun x8 H7 => pm_R d M_Pr_sleepOver [.ref 1, .ref 8, .int v2, .int x8] H7 (pm_v (fun H9 => pm_RW none (d + 1) M_Ea_mayHaveBeen Q 16 [(1, .ref 1), (2, .int v2), (3, .ref s), (4, .int (v4 + (1 : Int32)))] [] H9))))) ∧ (¬ x6 = 0 → ((0 : Int32) = 0 ∨ (0 : Int32) = 1) ∧ (Q (some (.int (0 : Int32))) H5))))))))))) from pm_mkO hs (⟨fun q1 => ⟨Or.inr rfl, (h.1 q1)⟩, fun q1 => pm_mi (h.2 q1) (fun x2 H1 z2 => pm_mkO hs (pm_ml' z2 (fun x4 H3 z3 => pm_mi z3 (fun x6 H5 z4 => ⟨fun q5 => u_Pr_fades  (⟨(pm_ik rfl), (z4.1 q5)⟩), fun q5 => ⟨Or.inl rfl, (z4.2 q5)⟩⟩))))⟩))
def T_Ea_hearEachOther : List pmE := [
  (0, [], .aload 1, 0, 0, 0),
  (1, [], .getfield 385, 0, 15, 187),
  (4, [], .iconst 0, 0, 0, 0),
  (5, [], .aload 1, 0, 0, 0),
  (6, [], .getfield 384, 0, 21, 184),
  (9, [], .iload 2, 0, 0, 0),
  (10, [], .invokeinterface 26 272, 0, 66, 801),
  (13, [], .aload 1, 0, 0, 0),
  (14, [], .getfield 385, 0, 15, 187),
  (17, [], .iconst 1, 0, 0, 0),
  (18, [], .aload 1, 0, 0, 0),
  (19, [], .getfield 384, 0, 21, 184),
  (22, [], .iload 3, 0, 0, 0),
  (23, [], .invokeinterface 26 272, 0, 66, 801),
  (26, [], .aload 0, 0, 0, 0),
  (27, [], .iconst (-2), 1, 0, 0),
  (29, [], .putfield 128, 0, 9, 258),
  (32, [], .iconst 0, 0, 0, 0),
  (33, [], .istore 5, 1, 0, 0),
  (35, [0, 1, 4, 5], .iload 5, 1, 0, 0),
  (37, [], .iload 4, 1, 0, 0),
  (39, [], .if_icmp .ge 165, 0, 0, 0),
  (42, [], .aload 1, 0, 0, 0),
  (43, [], .aload 1, 0, 0, 0),
  (44, [], .getfield 385, 0, 15, 187),
  (47, [], .iconst 0, 0, 0, 0),
  (48, [], .iconst 0, 0, 0, 0),
  (49, [], .invokeinterface 75 465, 0, 70, 802),
  (52, [], .istore 6, 1, 0, 0),
  (54, [], .aload 1, 0, 0, 0),
  (55, [], .getfield 388, 0, 77, 195),
  (58, [], .istore 7, 1, 0, 0),
  (60, [], .aload 1, 0, 0, 0),
  (61, [], .aload 1, 0, 0, 0),
  (62, [], .getfield 385, 0, 15, 187),
  (65, [], .iconst 1, 0, 0, 0),
  (66, [], .iconst 0, 0, 0, 0),
  (67, [], .invokeinterface 75 465, 0, 70, 802),
  (70, [], .istore 8, 1, 0, 0),
  (72, [], .aload 1, 0, 0, 0),
  (73, [], .getfield 388, 0, 77, 195),
  (76, [], .istore 9, 1, 0, 0),
  (78, [], .aload 1, 0, 0, 0),
  (79, [], .getfield 385, 0, 15, 187),
  (82, [], .iconst 0, 0, 0, 0),
  (83, [], .iload 8, 1, 0, 0),
  (85, [], .iload 9, 1, 0, 0),
  (87, [], .iconst 2, 0, 0, 0),
  (88, [], .idiv, 0, 0, 0),
  (89, [], .invokeinterface 29 272, 0, 80, 812),
  (92, [], .aload 1, 0, 0, 0),
  (93, [], .getfield 385, 0, 15, 187),
  (96, [], .iconst 1, 0, 0, 0),
  (97, [], .iload 6, 1, 0, 0),
  (99, [], .iload 7, 1, 0, 0),
  (101, [], .iconst 2, 0, 0, 0),
  (102, [], .idiv, 0, 0, 0),
  (103, [], .invokeinterface 29 272, 0, 80, 812),
  (106, [], .aload 0, 0, 0, 0),
  (107, [], .getfield 128, 0, 9, 258),
  (110, [], .iconst (-2), 1, 0, 0),
  (112, [], .if_icmp .ne 133, 0, 0, 0),
  (115, [], .iload 6, 1, 0, 0),
  (117, [], .iconst 1, 0, 0, 0),
  (118, [], .if_icmp .ne 133, 0, 0, 0),
  (121, [], .iload 8, 1, 0, 0),
  (123, [], .iconst 1, 0, 0, 0),
  (124, [], .if_icmp .ne 133, 0, 0, 0),
  (127, [], .aload 0, 0, 0, 0),
  (128, [], .iload 5, 1, 0, 0),
  (130, [], .putfield 128, 0, 9, 258),
  (133, [], .aload 1, 0, 0, 0),
  (134, [], .aload 1, 0, 0, 0),
  (135, [], .getfield 385, 0, 15, 187),
  (138, [], .iconst 0, 0, 0, 0),
  (139, [], .aload 1, 0, 0, 0),
  (140, [], .invokeinterface 72 453, 0, 30, 763),
  (143, [], .invokeinterface 78 464, 0, 73, 803),
  (146, [], .aload 1, 0, 0, 0),
  (147, [], .aload 1, 0, 0, 0),
  (148, [], .getfield 385, 0, 15, 187),
  (151, [], .iconst 1, 0, 0, 0),
  (152, [], .aload 1, 0, 0, 0),
  (153, [], .invokeinterface 72 453, 0, 30, 763),
  (156, [], .invokeinterface 78 464, 0, 73, 803),
  (159, [], .iinc 5 1, 0, 0, 0),
  (162, [], .goto 35, 0, 0, 0),
  (165, [], .return_, 0, 0, 0)]
theorem tk_Ea_hearEachOther : pm_okT M_Ea_hearEachOther T_Ea_hearEachOther = true := by decide +kernel
theorem ok_Ea_hearEachOther : pm_okm M_Ea_hearEachOther := pm_okm_of _ 811 81 809 810 (by decide +kernel)
set_option maxRecDepth 100000 in
set_option maxHeartbeats 4000000 in
theorem m_Ea_hearEachOther {d : Nat} {H : pmT} {Q : pmQ} (a2 : Int32) (a3 : Int32) (a4 : Int32)
    (h : pm_R d M_Ha_takeBar [.ref 8, .int (0 : Int32), .ref 2, .int a2] H (pm_v (fun H1 => pm_R d M_Ha_takeBar [.ref 8, .int (1 : Int32), .ref 2, .int a3] H1 (pm_v (fun H2 => pm_RW none (d + 1) M_Ea_hearEachOther Q 35 [(0, .ref 25), (1, .ref 1), (4, .int a4), (5, .int (0 : Int32))] [] ((pm_up H2.1 25 0 (-2 : Int32)), H2.2)))))) : pm_R (d + 1) M_Ea_hearEachOther [.ref 25, .ref 1, .int a2, .int a3, .int a4] H Q :=
  pm_walk (n := 20) ok_Ea_hearEachOther tk_Ea_hearEachOther rfl (Nat.le_of_ble_eq_true rfl) (show pm_R d M_Ha_takeBar [.ref 8, .int (0 : Int32), .ref 2, .int a2] H (pm_v (fun H1 => pm_R d M_Ha_takeBar [.ref 8, .int (1 : Int32), .ref 2, .int a3] H1 (pm_v (fun H2 => pm_RW none (d + 1) M_Ea_hearEachOther Q 35 [(0, .ref 25), (1, .ref 1), (4, .int a4), (5, .int (0 : Int32))] [] ((pm_up H2.1 25 0 (-2 : Int32)), H2.2))))) from h)
set_option maxRecDepth 100000 in
set_option maxHeartbeats 4000000 in
theorem b_Ea_hearEachOther_35 {d : Nat} {H : pmT} {Q : pmQ} (v4 : Int32) (v5 : Int32)
    (h : (v4 ≤ v5 → Q none H) ∧ (¬ v4 ≤ v5 → pm_R d M_Pr_playOnce [.ref 1, .ref 8, .int (0 : Int32), .int (0 : Int32)] H (pm_i (fun x2 H1 => pm_R d M_Pr_playOnce [.ref 1, .ref 8, .int (1 : Int32), .int (0 : Int32)] H1 (pm_i (fun x4 H3 => pm_R d M_Ha_learn [.ref 8, .int (0 : Int32), .int x4, .int ((H3.1 1 4) / (2 : Int32))] H3 (pm_v (fun H5 => pm_R d M_Ha_learn [.ref 8, .int (1 : Int32), .int x2, .int ((H1.1 1 4) / (2 : Int32))] H5 (pm_v (fun H6 => (¬ (H6.1 25 0) = (-2 : Int32) → pm_R d M_Pr_sleepOver [.ref 1, .ref 8, .int (0 : Int32), .int (H6.1 20 2)] H6 (pm_v (fun H7 => pm_R d M_Pr_sleepOver [.ref 1, .ref 8, .int (1 : Int32), .int (H7.1 20 2)] H7 (pm_v (fun H8 => pm_RW none (d + 1) M_Ea_hearEachOther Q 35 [(0, .ref 25), (1, .ref 1), (4, .int v4), (5, .int (v5 + (1 : Int32)))] [] H8))))) ∧ ((H6.1 25 0) = (-2 : Int32) → (¬ x2 = (1 : Int32) → pm_R d M_Pr_sleepOver [.ref 1, .ref 8, .int (0 : Int32), .int (H6.1 20 2)] H6 (pm_v (fun H9 => pm_R d M_Pr_sleepOver [.ref 1, .ref 8, .int (1 : Int32), .int (H9.1 20 2)] H9 (pm_v (fun H10 => pm_RW none (d + 1) M_Ea_hearEachOther Q 35 [(0, .ref 25), (1, .ref 1), (4, .int v4), (5, .int (v5 + (1 : Int32)))] [] H10))))) ∧ (x2 = (1 : Int32) → (¬ x4 = (1 : Int32) → pm_R d M_Pr_sleepOver [.ref 1, .ref 8, .int (0 : Int32), .int (H6.1 20 2)] H6 (pm_v (fun H11 => pm_R d M_Pr_sleepOver [.ref 1, .ref 8, .int (1 : Int32), .int (H11.1 20 2)] H11 (pm_v (fun H12 => pm_RW none (d + 1) M_Ea_hearEachOther Q 35 [(0, .ref 25), (1, .ref 1), (4, .int v4), (5, .int (v5 + (1 : Int32)))] [] H12))))) ∧ (x4 = (1 : Int32) → pm_R d M_Pr_sleepOver [.ref 1, .ref 8, .int (0 : Int32), .int (H6.1 20 2)] ((pm_up H6.1 25 0 v5), H6.2) (pm_v (fun H13 => pm_R d M_Pr_sleepOver [.ref 1, .ref 8, .int (1 : Int32), .int (H13.1 20 2)] H13 (pm_v (fun H14 => pm_RW none (d + 1) M_Ea_hearEachOther Q 35 [(0, .ref 25), (1, .ref 1), (4, .int v4), (5, .int (v5 + (1 : Int32)))] [] H14))))))))))))))))) : pm_RW none (d + 1) M_Ea_hearEachOther Q 35 [(0, .ref 25), (1, .ref 1), (4, .int v4), (5, .int v5)] [] H :=
  pm_body tk_Ea_hearEachOther 68 35 (show (v4 ≤ v5 → Q none H) ∧ (¬ v4 ≤ v5 → pm_R d M_Pr_playOnce [.ref 1, .ref 8, .int (0 : Int32), .int (0 : Int32)] H (pm_i (fun x2 H1 => pm_R d M_Pr_playOnce [.ref 1, .ref 8, .int (1 : Int32), .int (0 : Int32)] H1 (pm_i (fun x4 H3 => ¬ (2 : Int32) = 0 ∧ (pm_R d M_Ha_learn [.ref 8, .int (0 : Int32), .int x4, .int ((H3.1 1 4) / (2 : Int32))] H3 (pm_v (fun H5 => ¬ (2 : Int32) = 0 ∧ (pm_R d M_Ha_learn [.ref 8, .int (1 : Int32), .int x2, .int ((H1.1 1 4) / (2 : Int32))] H5 (pm_v (fun H6 => (¬ (H6.1 25 0) = (-2 : Int32) → pm_R d M_Pr_fades [.ref 1] H6 (pm_i (fun x8 H7 => pm_R d M_Pr_sleepOver [.ref 1, .ref 8, .int (0 : Int32), .int x8] H7 (pm_v (fun H9 => pm_R d M_Pr_fades [.ref 1] H9 (pm_i (fun x11 H10 => pm_R d M_Pr_sleepOver [.ref 1, .ref 8, .int (1 : Int32), .int x11] H10 (pm_v (fun H12 => pm_RW none (d + 1) M_Ea_hearEachOther Q 35 [(0, .ref 25), (1, .ref 1), (4, .int v4), (5, .int (v5 + (1 : Int32)))] [] H12))))))))) ∧ ((H6.1 25 0) = (-2 : Int32) → (¬ x2 = (1 : Int32) → pm_R d M_Pr_fades [.ref 1] H6 (pm_i (fun x14 H13 => pm_R d M_Pr_sleepOver [.ref 1, .ref 8, .int (0 : Int32), .int x14] H13 (pm_v (fun H15 => pm_R d M_Pr_fades [.ref 1] H15 (pm_i (fun x17 H16 => pm_R d M_Pr_sleepOver [.ref 1, .ref 8, .int (1 : Int32), .int x17] H16 (pm_v (fun H18 => pm_RW none (d + 1) M_Ea_hearEachOther Q 35 [(0, .ref 25), (1, .ref 1), (4, .int v4), (5, .int (v5 + (1 : Int32)))] [] H18))))))))) ∧ (x2 = (1 : Int32) → (¬ x4 = (1 : Int32) → pm_R d M_Pr_fades [.ref 1] H6 (pm_i (fun x20 H19 => pm_R d M_Pr_sleepOver [.ref 1, .ref 8, .int (0 : Int32), .int x20] H19 (pm_v (fun H21 => pm_R d M_Pr_fades [.ref 1] H21 (pm_i (fun x23 H22 => pm_R d M_Pr_sleepOver [.ref 1, .ref 8, .int (1 : Int32), .int x23] H22 (pm_v (fun H24 => pm_RW none (d + 1) M_Ea_hearEachOther Q 35 [(0, .ref 25), (1, .ref 1), (4, .int v4), (5, .int (v5 + (1 : Int32)))] [] H24))))))))) ∧ (x4 = (1 : Int32) → pm_R d M_Pr_fades [.ref 1] ((pm_up H6.1 25 0 v5), H6.2) (pm_i (fun x26 H25 => pm_R d M_Pr_sleepOver [.ref 1, .ref 8, .int (0 : Int32), .int x26] H25 (pm_v (fun H27 => pm_R d M_Pr_fades [.ref 1] H27 (pm_i (fun x29 H28 => pm_R d M_Pr_sleepOver [.ref 1, .ref 8, .int (1 : Int32), .int x29] H28 (pm_v (fun H30 => pm_RW none (d + 1) M_Ea_hearEachOther Q 35 [(0, .ref 25), (1, .ref 1), (4, .int v4), (5, .int (v5 + (1 : Int32)))] [] H30)))))))))))))))))))))) from ⟨fun q1 => (h.1 q1), fun q1 => pm_mi (h.2 q1) (fun x2 H1 z2 => pm_mi z2 (fun x4 H3 z3 => ⟨(by decide), pm_mv' z3 (fun H5 z4 => ⟨(by decide), pm_mv' z4 (fun H6 z5 => ⟨fun q6 => u_Pr_fades  (⟨(pm_ik rfl), pm_mv' (z5.1 q6) (fun H7 z7 => u_Pr_fades  (⟨(pm_ik rfl), z7⟩))⟩), fun q6 => ⟨fun q9 => u_Pr_fades  (⟨(pm_ik rfl), pm_mv' ((z5.2 q6).1 q9) (fun H9 z10 => u_Pr_fades  (⟨(pm_ik rfl), z10⟩))⟩), fun q9 => ⟨fun q12 => u_Pr_fades  (⟨(pm_ik rfl), pm_mv' (((z5.2 q6).2 q9).1 q12) (fun H11 z13 => u_Pr_fades  (⟨(pm_ik rfl), z13⟩))⟩), fun q12 => u_Pr_fades  (⟨(pm_ik rfl), pm_mv' (((z5.2 q6).2 q9).2 q12) (fun H13 z15 => u_Pr_fades  (⟨(pm_ik rfl), z15⟩))⟩)⟩⟩⟩)⟩)⟩))⟩)
