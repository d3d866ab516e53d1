/-! tables and walks, by program: 19.tMo1 -/
def T_Mo_bitsOf : List pmE := [
  (0, [], .iconst 0, 0, 0, 0),
  (1, [], .istore 1, 0, 0, 0),
  (2, [], .iload 0, 0, 0, 0),
  (3, [], .istore 2, 0, 0, 0),
  (4, [1, 2], .iload 2, 0, 0, 0),
  (5, [], .ifCond .eq 20, 0, 0, 0),
  (8, [], .iinc 1 1, 0, 0, 0),
  (11, [], .iload 2, 0, 0, 0),
  (12, [], .iload 2, 0, 0, 0),
  (13, [], .iconst 1, 0, 0, 0),
  (14, [], .isub, 0, 0, 0),
  (15, [], .iand, 0, 0, 0),
  (16, [], .istore 2, 0, 0, 0),
  (17, [], .goto 4, 0, 0, 0),
  (20, [], .iload 1, 0, 0, 0),
  (21, [], .ireturn, 0, 0, 0)]
theorem tk_Mo_bitsOf : pm_okT M_Mo_bitsOf T_Mo_bitsOf = true := by decide +kernel
theorem ok_Mo_bitsOf : pm_okm M_Mo_bitsOf := pm_okm_of _ 1327 85 1326 0 (by decide +kernel)
set_option maxRecDepth 100000 in
set_option maxHeartbeats 4000000 in
theorem m_Mo_bitsOf {d : Nat} {H : pmT} {Q : pmQ} (a1 : Int32)
    (h : pm_RW none d M_Mo_bitsOf Q 4 [(1, .int (0 : Int32)), (2, .int a1)] [] H) : pm_R d M_Mo_bitsOf [.int a1] H Q :=
  pm_walk (n := 5) ok_Mo_bitsOf tk_Mo_bitsOf rfl (Nat.le_of_ble_eq_true rfl) (show pm_RW none d M_Mo_bitsOf Q 4 [(1, .int (0 : Int32)), (2, .int a1)] [] H from h)
set_option maxRecDepth 100000 in
set_option maxHeartbeats 4000000 in
theorem b_Mo_bitsOf_4 {d : Nat} {H : pmT} {Q : pmQ} (v1 : Int32) (v2 : Int32)
    (h : (v2 = 0 → Q (some (.int v1)) H) ∧ (¬ v2 = 0 → pm_RW none d M_Mo_bitsOf Q 4 [(1, .int (v1 + (1 : Int32))), (2, .int (v2 &&& (v2 - (1 : Int32))))] [] H)) : pm_RW none d M_Mo_bitsOf Q 4 [(1, .int v1), (2, .int v2)] [] H :=
  pm_body tk_Mo_bitsOf 10 4 (show (v2 = 0 → Q (some (.int v1)) H) ∧ (¬ v2 = 0 → pm_RW none d M_Mo_bitsOf Q 4 [(1, .int (v1 + (1 : Int32))), (2, .int (v2 &&& (v2 - (1 : Int32))))] [] H) from ⟨fun q1 => (h.1 q1), fun q1 => (h.2 q1)⟩)
def T_Mo_becomes : List pmE := [
  (0, [], .aload 0, 0, 0, 0),
  (1, [], .getfield 576, 0, 11, 978),
  (4, [], .iload 1, 0, 0, 0),
  (5, [], .iaload, 0, 0, 0),
  (6, [], .istore 3, 0, 0, 0),
  (7, [], .iload 3, 0, 0, 0),
  (8, [], .iload 2, 0, 0, 0),
  (9, [], .if_icmp .ne 14, 0, 0, 0),
  (12, [], .iload 3, 0, 0, 0),
  (13, [], .ireturn, 0, 0, 0),
  (14, [], .aload 0, 0, 0, 0),
  (15, [], .getfield 581, 0, 105, 983),
  (18, [], .iconst 40, 1, 0, 0),
  (20, [], .if_icmp .ne 97, 0, 0, 0),
  (23, [], .iconst 1, 0, 0, 0),
  (24, [], .istore 4, 1, 0, 0),
  (26, [0, 1, 2, 3, 4], .iload 4, 1, 0, 0),
  (28, [], .iconst 40, 1, 0, 0),
  (30, [], .if_icmp .ge 87, 0, 0, 0),
  (33, [], .aload 0, 0, 0, 0),
  (34, [], .getfield 577, 0, 15, 979),
  (37, [], .iload 4, 1, 0, 0),
  (39, [], .iconst 1, 0, 0, 0),
  (40, [], .isub, 0, 0, 0),
  (41, [], .aload 0, 0, 0, 0),
  (42, [], .getfield 577, 0, 15, 979),
  (45, [], .iload 4, 1, 0, 0),
  (47, [], .iaload, 0, 0, 0),
  (48, [], .iastore, 0, 0, 0),
  (49, [], .aload 0, 0, 0, 0),
  (50, [], .getfield 578, 0, 18, 980),
  (53, [], .iload 4, 1, 0, 0),
  (55, [], .iconst 1, 0, 0, 0),
  (56, [], .isub, 0, 0, 0),
  (57, [], .aload 0, 0, 0, 0),
  (58, [], .getfield 578, 0, 18, 980),
  (61, [], .iload 4, 1, 0, 0),
  (63, [], .iaload, 0, 0, 0),
  (64, [], .iastore, 0, 0, 0),
  (65, [], .aload 0, 0, 0, 0),
  (66, [], .getfield 579, 0, 21, 981),
  (69, [], .iload 4, 1, 0, 0),
  (71, [], .iconst 1, 0, 0, 0),
  (72, [], .isub, 0, 0, 0),
  (73, [], .aload 0, 0, 0, 0),
  (74, [], .getfield 579, 0, 21, 981),
  (77, [], .iload 4, 1, 0, 0),
  (79, [], .iaload, 0, 0, 0),
  (80, [], .iastore, 0, 0, 0),
  (81, [], .iinc 4 1, 0, 0, 0),
  (84, [], .goto 26, 0, 0, 0),
  (87, [], .aload 0, 0, 0, 0),
  (88, [], .dup, 0, 0, 0),
  (89, [], .getfield 581, 0, 105, 983),
  (92, [], .iconst 1, 0, 0, 0),
  (93, [], .isub, 0, 0, 0),
  (94, [], .putfield 581, 0, 105, 983),
  (97, [], .aload 0, 0, 0, 0),
  (98, [], .getfield 577, 0, 15, 979),
  (101, [], .aload 0, 0, 0, 0),
  (102, [], .getfield 581, 0, 105, 983),
  (105, [], .iload 1, 0, 0, 0),
  (106, [], .iastore, 0, 0, 0),
  (107, [], .aload 0, 0, 0, 0),
  (108, [], .getfield 578, 0, 18, 980),
  (111, [], .aload 0, 0, 0, 0),
  (112, [], .getfield 581, 0, 105, 983),
  (115, [], .iload 3, 0, 0, 0),
  (116, [], .iastore, 0, 0, 0),
  (117, [], .aload 0, 0, 0, 0),
  (118, [], .getfield 579, 0, 21, 981),
  (121, [], .aload 0, 0, 0, 0),
  (122, [], .getfield 581, 0, 105, 983),
  (125, [], .iload 2, 0, 0, 0),
  (126, [], .iastore, 0, 0, 0),
  (127, [], .aload 0, 0, 0, 0),
  (128, [], .dup, 0, 0, 0),
  (129, [], .getfield 581, 0, 105, 983),
  (132, [], .iconst 1, 0, 0, 0),
  (133, [], .iadd, 0, 0, 0),
  (134, [], .putfield 581, 0, 105, 983),
  (137, [], .aload 0, 0, 0, 0),
  (138, [], .aload 0, 0, 0, 0),
  (139, [], .getfield 581, 0, 105, 983),
  (142, [], .putfield 580, 0, 108, 982),
  (145, [], .aload 0, 0, 0, 0),
  (146, [], .getfield 576, 0, 11, 978),
  (149, [], .iload 1, 0, 0, 0),
  (150, [], .iload 2, 0, 0, 0),
  (151, [], .iastore, 0, 0, 0),
  (152, [], .iload 3, 0, 0, 0),
  (153, [], .ireturn, 0, 0, 0)]
theorem tk_Mo_becomes : pm_okT M_Mo_becomes T_Mo_becomes = true := by decide +kernel
theorem ok_Mo_becomes : pm_okm M_Mo_becomes := pm_okm_of _ 1189 85 1188 30 (by decide +kernel)
set_option maxRecDepth 100000 in
set_option maxHeartbeats 4000000 in
theorem m_Mo_becomes {d : Nat} {H : pmT} {Q : pmQ} (a1 : Int32) (a2 : Int32)
    (h : vp_in a1 41 ∧ ((¬ (H.1 56 a1.toNatClampNeg) = a2 → (¬ (H.1 55 5) = (40 : Int32) → vp_in (H.1 55 5) 40 ∧ (Q (some (.int (H.1 56 a1.toNatClampNeg))) ((pm_up (pm_up (pm_up (pm_up (pm_up (pm_up H.1 57 ((H.1 55 5).toNatClampNeg) a1) 58 ((H.1 55 5).toNatClampNeg) (H.1 56 a1.toNatClampNeg)) 59 ((H.1 55 5).toNatClampNeg) a2) 55 5 ((H.1 55 5) + (1 : Int32))) 55 4 ((H.1 55 5) + (1 : Int32))) 56 a1.toNatClampNeg a2), H.2))) ∧ ((H.1 55 5) = (40 : Int32) → pm_RW none d M_Mo_becomes Q 26 [(0, .ref 55), (1, .int a1), (2, .int a2), (3, .int (H.1 56 a1.toNatClampNeg)), (4, .int (1 : Int32))] [] H)) ∧ ((H.1 56 a1.toNatClampNeg) = a2 → Q (some (.int (H.1 56 a1.toNatClampNeg))) H))) : pm_R d M_Mo_becomes [.ref 55, .int a1, .int a2] H Q :=
  pm_walk (n := 47) ok_Mo_becomes tk_Mo_becomes rfl (Nat.le_of_ble_eq_true rfl) (show vp_in a1 41 ∧ ((¬ (H.1 56 a1.toNatClampNeg) = a2 → (¬ (H.1 55 5) = (40 : Int32) → vp_in (H.1 55 5) 40 ∧ (vp_in (H.1 55 5) 40 ∧ (vp_in (H.1 55 5) 40 ∧ (vp_in a1 41 ∧ (Q (some (.int (H.1 56 a1.toNatClampNeg))) ((pm_up (pm_up (pm_up (pm_up (pm_up (pm_up H.1 57 ((H.1 55 5).toNatClampNeg) a1) 58 ((H.1 55 5).toNatClampNeg) (H.1 56 a1.toNatClampNeg)) 59 ((H.1 55 5).toNatClampNeg) a2) 55 5 ((H.1 55 5) + (1 : Int32))) 55 4 ((H.1 55 5) + (1 : Int32))) 56 a1.toNatClampNeg a2), H.2)))))) ∧ ((H.1 55 5) = (40 : Int32) → pm_RW none d M_Mo_becomes Q 26 [(0, .ref 55), (1, .int a1), (2, .int a2), (3, .int (H.1 56 a1.toNatClampNeg)), (4, .int (1 : Int32))] [] H)) ∧ ((H.1 56 a1.toNatClampNeg) = a2 → Q (some (.int (H.1 56 a1.toNatClampNeg))) H)) from ⟨h.1, ⟨fun q1 => ⟨fun q2 => ⟨((h.2.1 q1).1 q2).1, ⟨((h.2.1 q1).1 q2).1, ⟨((h.2.1 q1).1 q2).1, ⟨h.1, ((h.2.1 q1).1 q2).2⟩⟩⟩⟩, fun q2 => ((h.2.1 q1).2 q2)⟩, fun q1 => (h.2.2 q1)⟩⟩)
set_option maxRecDepth 100000 in
set_option maxHeartbeats 4000000 in
theorem b_Mo_becomes_26 {d : Nat} {H : pmT} {Q : pmQ} (v1 : Int32) (v2 : Int32) (v3 : Int32) (v4 : Int32)
    (h : ((40 : Int32) ≤ v4 → vp_in ((H.1 55 5) - (1 : Int32)) 40 ∧ (vp_in v1 41 ∧ (Q (some (.int v3)) ((pm_up (pm_up (pm_up (pm_up (pm_up (pm_up (pm_up H.1 55 5 ((H.1 55 5) - (1 : Int32))) 57 (((H.1 55 5) - (1 : Int32)).toNatClampNeg) v1) 58 (((H.1 55 5) - (1 : Int32)).toNatClampNeg) v3) 59 (((H.1 55 5) - (1 : Int32)).toNatClampNeg) v2) 55 5 (((H.1 55 5) - (1 : Int32)) + (1 : Int32))) 55 4 (((H.1 55 5) - (1 : Int32)) + (1 : Int32))) 56 v1.toNatClampNeg v2), H.2)))) ∧ (¬ (40 : Int32) ≤ v4 → vp_in v4 40 ∧ (vp_in (v4 - (1 : Int32)) 40 ∧ (pm_RW none d M_Mo_becomes Q 26 [(0, .ref 55), (1, .int v1), (2, .int v2), (3, .int v3), (4, .int (v4 + (1 : Int32)))] [] ((pm_up (pm_up (pm_up H.1 57 ((v4 - (1 : Int32)).toNatClampNeg) (H.1 57 v4.toNatClampNeg)) 58 ((v4 - (1 : Int32)).toNatClampNeg) (H.1 58 v4.toNatClampNeg)) 59 ((v4 - (1 : Int32)).toNatClampNeg) (H.1 59 v4.toNatClampNeg)), H.2))))) : pm_RW none d M_Mo_becomes Q 26 [(0, .ref 55), (1, .int v1), (2, .int v2), (3, .int v3), (4, .int v4)] [] H :=
  pm_body tk_Mo_becomes 43 26 (show ((40 : Int32) ≤ v4 → vp_in ((H.1 55 5) - (1 : Int32)) 40 ∧ (vp_in ((H.1 55 5) - (1 : Int32)) 40 ∧ (vp_in ((H.1 55 5) - (1 : Int32)) 40 ∧ (vp_in v1 41 ∧ (Q (some (.int v3)) ((pm_up (pm_up (pm_up (pm_up (pm_up (pm_up (pm_up H.1 55 5 ((H.1 55 5) - (1 : Int32))) 57 (((H.1 55 5) - (1 : Int32)).toNatClampNeg) v1) 58 (((H.1 55 5) - (1 : Int32)).toNatClampNeg) v3) 59 (((H.1 55 5) - (1 : Int32)).toNatClampNeg) v2) 55 5 (((H.1 55 5) - (1 : Int32)) + (1 : Int32))) 55 4 (((H.1 55 5) - (1 : Int32)) + (1 : Int32))) 56 v1.toNatClampNeg v2), H.2)))))) ∧ (¬ (40 : Int32) ≤ v4 → vp_in v4 40 ∧ (vp_in (v4 - (1 : Int32)) 40 ∧ (vp_in v4 40 ∧ (vp_in (v4 - (1 : Int32)) 40 ∧ (vp_in v4 40 ∧ (vp_in (v4 - (1 : Int32)) 40 ∧ (pm_RW none d M_Mo_becomes Q 26 [(0, .ref 55), (1, .int v1), (2, .int v2), (3, .int v3), (4, .int (v4 + (1 : Int32)))] [] ((pm_up (pm_up (pm_up H.1 57 ((v4 - (1 : Int32)).toNatClampNeg) (H.1 57 v4.toNatClampNeg)) 58 ((v4 - (1 : Int32)).toNatClampNeg) (H.1 58 v4.toNatClampNeg)) 59 ((v4 - (1 : Int32)).toNatClampNeg) (H.1 59 v4.toNatClampNeg)), H.2)))))))) from ⟨fun q1 => ⟨(h.1 q1).1, ⟨(h.1 q1).1, ⟨(h.1 q1).1, ⟨(h.1 q1).2.1, (h.1 q1).2.2⟩⟩⟩⟩, fun q1 => ⟨(h.2 q1).1, ⟨(h.2 q1).2.1, ⟨(h.2 q1).1, ⟨(h.2 q1).2.1, ⟨(h.2 q1).1, ⟨(h.2 q1).2.1, (h.2 q1).2.2⟩⟩⟩⟩⟩⟩⟩)
def T_Mo_undo : List pmE := [
  (0, [], .aload 0, 0, 0, 0),
  (1, [], .getfield 581, 0, 105, 983),
  (4, [], .ifCond .ne 10, 0, 0, 0),
  (7, [], .iconst (-5), 1, 0, 0),
  (9, [], .ireturn, 0, 0, 0),
  (10, [], .aload 0, 0, 0, 0),
  (11, [], .dup, 0, 0, 0),
  (12, [], .getfield 581, 0, 105, 983),
  (15, [], .iconst 1, 0, 0, 0),
  (16, [], .isub, 0, 0, 0),
  (17, [], .putfield 581, 0, 105, 983),
  (20, [], .aload 0, 0, 0, 0),
  (21, [], .getfield 576, 0, 11, 978),
  (24, [], .aload 0, 0, 0, 0),
  (25, [], .getfield 577, 0, 15, 979),
  (28, [], .aload 0, 0, 0, 0),
  (29, [], .getfield 581, 0, 105, 983),
  (32, [], .iaload, 0, 0, 0),
  (33, [], .aload 0, 0, 0, 0),
  (34, [], .getfield 578, 0, 18, 980),
  (37, [], .aload 0, 0, 0, 0),
  (38, [], .getfield 581, 0, 105, 983),
  (41, [], .iaload, 0, 0, 0),
  (42, [], .iastore, 0, 0, 0),
  (43, [], .aload 0, 0, 0, 0),
  (44, [], .getfield 581, 0, 105, 983),
  (47, [], .ireturn, 0, 0, 0)]
theorem tk_Mo_undo : pm_okT M_Mo_undo T_Mo_undo = true := by decide +kernel
theorem ok_Mo_undo : pm_okm M_Mo_undo := pm_okm_of _ 1139 85 1137 1138 (by decide +kernel)
set_option maxRecDepth 100000 in
set_option maxHeartbeats 4000000 in
theorem m_Mo_undo {d : Nat} {H : pmT} {Q : pmQ} 
    (h : (¬ (H.1 55 5) = 0 → vp_in ((H.1 55 5) - (1 : Int32)) 40 ∧ (vp_in (H.1 57 (((H.1 55 5) - (1 : Int32)).toNatClampNeg)) 41 ∧ (Q (some (.int ((H.1 55 5) - (1 : Int32)))) ((pm_up (pm_up H.1 55 5 ((H.1 55 5) - (1 : Int32))) 56 ((H.1 57 (((H.1 55 5) - (1 : Int32)).toNatClampNeg)).toNatClampNeg) (H.1 58 (((H.1 55 5) - (1 : Int32)).toNatClampNeg))), H.2)))) ∧ ((H.1 55 5) = 0 → Q (some (.int (-5 : Int32))) H)) : pm_R d M_Mo_undo [.ref 55] H Q :=
  pm_walk (n := 25) ok_Mo_undo tk_Mo_undo rfl (Nat.le_of_ble_eq_true rfl) (show (¬ (H.1 55 5) = 0 → vp_in ((H.1 55 5) - (1 : Int32)) 40 ∧ (vp_in ((H.1 55 5) - (1 : Int32)) 40 ∧ (vp_in (H.1 57 (((H.1 55 5) - (1 : Int32)).toNatClampNeg)) 41 ∧ (Q (some (.int ((H.1 55 5) - (1 : Int32)))) ((pm_up (pm_up H.1 55 5 ((H.1 55 5) - (1 : Int32))) 56 ((H.1 57 (((H.1 55 5) - (1 : Int32)).toNatClampNeg)).toNatClampNeg) (H.1 58 (((H.1 55 5) - (1 : Int32)).toNatClampNeg))), H.2))))) ∧ ((H.1 55 5) = 0 → Q (some (.int (-5 : Int32))) H) from ⟨fun q1 => ⟨(h.1 q1).1, ⟨(h.1 q1).1, ⟨(h.1 q1).2.1, (h.1 q1).2.2⟩⟩⟩, fun q1 => (h.2 q1)⟩)
def T_Mo_redo : List pmE := [
  (0, [], .aload 0, 0, 0, 0),
  (1, [], .getfield 581, 0, 105, 983),
  (4, [], .aload 0, 0, 0, 0),
  (5, [], .getfield 580, 0, 108, 982),
  (8, [], .if_icmp .ne 14, 0, 0, 0),
  (11, [], .iconst (-5), 1, 0, 0),
  (13, [], .ireturn, 0, 0, 0),
  (14, [], .aload 0, 0, 0, 0),
  (15, [], .getfield 576, 0, 11, 978),
  (18, [], .aload 0, 0, 0, 0),
  (19, [], .getfield 577, 0, 15, 979),
  (22, [], .aload 0, 0, 0, 0),
  (23, [], .getfield 581, 0, 105, 983),
  (26, [], .iaload, 0, 0, 0),
  (27, [], .aload 0, 0, 0, 0),
  (28, [], .getfield 579, 0, 21, 981),
  (31, [], .aload 0, 0, 0, 0),
  (32, [], .getfield 581, 0, 105, 983),
  (35, [], .iaload, 0, 0, 0),
  (36, [], .iastore, 0, 0, 0),
  (37, [], .aload 0, 0, 0, 0),
  (38, [], .dup, 0, 0, 0),
  (39, [], .getfield 581, 0, 105, 983),
  (42, [], .iconst 1, 0, 0, 0),
  (43, [], .iadd, 0, 0, 0),
  (44, [], .putfield 581, 0, 105, 983),
  (47, [], .aload 0, 0, 0, 0),
  (48, [], .getfield 580, 0, 108, 982),
  (51, [], .aload 0, 0, 0, 0),
  (52, [], .getfield 581, 0, 105, 983),
  (55, [], .isub, 0, 0, 0),
  (56, [], .ireturn, 0, 0, 0)]
theorem tk_Mo_redo : pm_okT M_Mo_redo T_Mo_redo = true := by decide +kernel
theorem ok_Mo_redo : pm_okm M_Mo_redo := pm_okm_of _ 1143 85 1141 1142 (by decide +kernel)
set_option maxRecDepth 100000 in
set_option maxHeartbeats 4000000 in
theorem m_Mo_redo {d : Nat} {H : pmT} {Q : pmQ} 
    (h : (¬ (H.1 55 5) = (H.1 55 4) → vp_in (H.1 55 5) 40 ∧ (vp_in (H.1 57 ((H.1 55 5).toNatClampNeg)) 41 ∧ (Q (some (.int ((H.1 55 4) - ((H.1 55 5) + (1 : Int32))))) ((pm_up (pm_up H.1 56 ((H.1 57 ((H.1 55 5).toNatClampNeg)).toNatClampNeg) (H.1 59 ((H.1 55 5).toNatClampNeg))) 55 5 ((H.1 55 5) + (1 : Int32))), H.2)))) ∧ ((H.1 55 5) = (H.1 55 4) → Q (some (.int (-5 : Int32))) H)) : pm_R d M_Mo_redo [.ref 55] H Q :=
  pm_walk (n := 30) ok_Mo_redo tk_Mo_redo rfl (Nat.le_of_ble_eq_true rfl) (show (¬ (H.1 55 5) = (H.1 55 4) → vp_in (H.1 55 5) 40 ∧ (vp_in (H.1 55 5) 40 ∧ (vp_in (H.1 57 ((H.1 55 5).toNatClampNeg)) 41 ∧ (Q (some (.int ((H.1 55 4) - ((H.1 55 5) + (1 : Int32))))) ((pm_up (pm_up H.1 56 ((H.1 57 ((H.1 55 5).toNatClampNeg)).toNatClampNeg) (H.1 59 ((H.1 55 5).toNatClampNeg))) 55 5 ((H.1 55 5) + (1 : Int32))), H.2))))) ∧ ((H.1 55 5) = (H.1 55 4) → Q (some (.int (-5 : Int32))) H) from ⟨fun q1 => ⟨(h.1 q1).1, ⟨(h.1 q1).1, ⟨(h.1 q1).2.1, (h.1 q1).2.2⟩⟩⟩, fun q1 => (h.2 q1)⟩)
def T_Mo_bar : List pmE := [
  (0, [], .iload 1, 0, 0, 0),
  (1, [], .i2l, 0, 0, 0),
  (2, [], .iload 2, 0, 0, 0),
  (3, [], .i2l, 0, 0, 0),
  (4, [], .invokeinterface 152 9, 1, 120, 1148),
  (7, [], .ifCond .ne 12, 0, 0, 0),
  (10, [], .iconst (-1), 0, 0, 0),
  (11, [], .ireturn, 0, 0, 0),
  (12, [], .aload 0, 0, 0, 0),
  (13, [], .getfield 582, 0, 111, 984),
  (16, [], .iconst 12, 1, 0, 0),
  (18, [], .if_icmp .ne 24, 0, 0, 0),
  (21, [], .iconst (-3), 1, 0, 0),
  (23, [], .ireturn, 0, 0, 0),
  (24, [], .aload 0, 0, 0, 0),
  (25, [], .iload 1, 0, 0, 0),
  (26, [], .iload 2, 0, 0, 0),
  (27, [], .invokeinterface 151 652, 0, 124, 1155),
  (30, [], .aload 0, 0, 0, 0),
  (31, [], .getfield 582, 0, 111, 984),
  (34, [], .iconst 1, 0, 0, 0),
  (35, [], .isub, 0, 0, 0),
  (36, [], .ireturn, 0, 0, 0)]
theorem tk_Mo_bar : pm_okT M_Mo_bar T_Mo_bar = true := by decide +kernel
theorem ok_Mo_bar : pm_okm M_Mo_bar := pm_okm_of _ 1147 85 1145 1146 (by decide +kernel)
set_option maxRecDepth 100000 in
set_option maxHeartbeats 4000000 in
theorem m_Mo_bar {d : Nat} {H : pmT} {Q : pmQ} (a1 : Int32) (a2 : Int32)
    (h : ((lg_cmp a1.toInt64 (0 : Int64)) < 0 → Q (some (.int (-1 : Int32))) H) ∧ (¬ (lg_cmp a1.toInt64 (0 : Int64)) < 0 → (0 < (lg_cmp a1.toInt64 (999 : Int64)) → Q (some (.int (-1 : Int32))) H) ∧ (¬ 0 < (lg_cmp a1.toInt64 (999 : Int64)) → ((lg_cmp a2.toInt64 (0 : Int64)) < 0 → Q (some (.int (-1 : Int32))) H) ∧ (¬ (lg_cmp a2.toInt64 (0 : Int64)) < 0 → (0 < (lg_cmp a2.toInt64 (999 : Int64)) → Q (some (.int (-1 : Int32))) H) ∧ (¬ 0 < (lg_cmp a2.toInt64 (999 : Int64)) → (¬ (H.1 55 6) = (12 : Int32) → vp_in (H.1 55 6) 41 ∧ (vp_in ((12 : Int32) + (H.1 55 6)) 41 ∧ (vp_in ((24 : Int32) + (H.1 55 6)) 41 ∧ (vp_in (H.1 55 6) 12 ∧ (Q (some (.int (((H.1 55 6) + (1 : Int32)) - (1 : Int32)))) ((pm_up (pm_up (pm_up (pm_up (pm_up (pm_up H.1 56 ((H.1 55 6).toNatClampNeg) a1) 56 (((12 : Int32) + (H.1 55 6)).toNatClampNeg) a2) 56 (((24 : Int32) + (H.1 55 6)).toNatClampNeg) (0 : Int32)) 60 ((H.1 55 6).toNatClampNeg) (0 : Int32)) 61 ((H.1 55 6).toNatClampNeg) (0 : Int32)) 55 6 ((H.1 55 6) + (1 : Int32))), H.2)))))) ∧ ((H.1 55 6) = (12 : Int32) → Q (some (.int (-3 : Int32))) H)))))) : pm_R (d + 2) M_Mo_bar [.ref 55, .int a1, .int a2] H Q :=
  pm_walk (n := 19) ok_Mo_bar tk_Mo_bar rfl (Nat.le_of_ble_eq_true rfl) (show pm_R (d + 1) M_Mo_isOne [.long a1.toInt64, .long a2.toInt64] H (pm_i (fun x2 H1 => (¬ x2 = 0 → (¬ (H1.1 55 6) = (12 : Int32) → pm_R (d + 1) M_Mo_adds [.ref 55, .int a1, .int a2] H1 (pm_v (fun H3 => Q (some (.int ((H3.1 55 6) - (1 : Int32)))) H3))) ∧ ((H1.1 55 6) = (12 : Int32) → Q (some (.int (-3 : Int32))) H1)) ∧ (x2 = 0 → Q (some (.int (-1 : Int32))) H1))) from u_Mo_isOne a1.toInt64 a2.toInt64 (u_Mo_within a1.toInt64 (0 : Int64) (999 : Int64) (⟨fun q1 => ⟨Or.inl rfl, ⟨fun _ => ⟨Or.inl rfl, ⟨fun z => absurd (by decide) z, fun _ => (h.1 q1)⟩⟩, fun z => absurd (by decide) z⟩⟩, fun q1 => ⟨fun q2 => ⟨Or.inl rfl, ⟨fun _ => ⟨Or.inl rfl, ⟨fun z => absurd (by decide) z, fun _ => ((h.2 q1).1 q2)⟩⟩, fun z => absurd (by decide) z⟩⟩, fun q2 => ⟨Or.inr rfl, ⟨fun z => absurd z (by decide), fun _ => u_Mo_within a2.toInt64 (0 : Int64) (999 : Int64) (⟨fun q3 => ⟨Or.inl rfl, ⟨fun _ => ⟨Or.inl rfl, ⟨fun z => absurd (by decide) z, fun _ => (((h.2 q1).2 q2).1 q3)⟩⟩, fun z => absurd (by decide) z⟩⟩, fun q3 => ⟨fun q4 => ⟨Or.inl rfl, ⟨fun _ => ⟨Or.inl rfl, ⟨fun z => absurd (by decide) z, fun _ => ((((h.2 q1).2 q2).2 q3).1 q4)⟩⟩, fun z => absurd (by decide) z⟩⟩, fun q4 => ⟨Or.inr rfl, ⟨fun z => absurd z (by decide), fun _ => ⟨Or.inr rfl, ⟨fun _ => ⟨fun q5 => u_Mo_adds a1 a2 (⟨(((((h.2 q1).2 q2).2 q3).2 q4).1 q5).1, ⟨(((((h.2 q1).2 q2).2 q3).2 q4).1 q5).2.1, ⟨(((((h.2 q1).2 q2).2 q3).2 q4).1 q5).2.2.1, ⟨(((((h.2 q1).2 q2).2 q3).2 q4).1 q5).2.2.2.1, ⟨(((((h.2 q1).2 q2).2 q3).2 q4).1 q5).2.2.2.1, (((((h.2 q1).2 q2).2 q3).2 q4).1 q5).2.2.2.2⟩⟩⟩⟩⟩), fun q5 => (((((h.2 q1).2 q2).2 q3).2 q4).2 q5)⟩, fun z => absurd z (by decide)⟩⟩⟩⟩⟩⟩)⟩⟩⟩⟩)))
def T_Mo_bars : List pmE := [
  (0, [], .iload 1, 0, 0, 0),
  (1, [], .invokeinterface 235 5, 1, 128, 1163),
  (4, [], .ifCond .eq 19, 0, 0, 0),
  (7, [], .iload 3, 0, 0, 0),
  (8, [], .i2l, 0, 0, 0),
  (9, [], .jsr 1, 0, 0, 0),
  (10, [], .jsr 12, 1, 132, 1167),
  (13, [], .invokeinterface 143 13, 1, 114, 1152),
  (16, [], .ifCond .ne 21, 0, 0, 0),
  (19, [], .iconst (-1), 0, 0, 0),
  (20, [], .ireturn, 0, 0, 0),
  (21, [], .aload 0, 0, 0, 0),
  (22, [], .getfield 624, 0, 88, 1026),
  (25, [], .iload 1, 0, 0, 0),
  (26, [], .iaload, 0, 0, 0),
  (27, [], .ifCond .lt 44, 0, 0, 0),
  (30, [], .aload 0, 0, 0, 0),
  (31, [], .getfield 624, 0, 88, 1026),
  (34, [], .iload 1, 0, 0, 0),
  (35, [], .iaload, 0, 0, 0),
  (36, [], .iconst 51, 1, 0, 0),
  (38, [], .if_icmp .eq 44, 0, 0, 0),
  (41, [], .iconst (-12), 1, 0, 0),
  (43, [], .ireturn, 0, 0, 0),
  (44, [], .iconst 0, 0, 0, 0),
  (45, [], .istore 4, 1, 0, 0),
  (47, [], .aload 0, 0, 0, 0),
  (48, [], .getfield 624, 0, 88, 1026),
  (51, [], .iload 1, 0, 0, 0),
  (52, [], .iaload, 0, 0, 0),
  (53, [], .iconst 51, 1, 0, 0),
  (55, [], .if_icmp .ne 66, 0, 0, 0),
  (58, [], .iload 2, 0, 0, 0),
  (59, [], .ifCond .lt 66, 0, 0, 0),
  (62, [], .iconst 1, 0, 0, 0),
  (63, [], .goto 67, 0, 0, 0),
  (66, [], .iconst 0, 0, 0, 0),
  (67, [], .istore 5, 1, 0, 0),
  (69, [0, 1, 2, 3, 4, 5], .iload 5, 1, 0, 0),
  (71, [], .ifCond .eq 193, 0, 0, 0),
  (74, [], .iload 4, 1, 0, 0),
  (76, [], .iload 3, 0, 0, 0),
  (77, [], .if_icmp .ge 193, 0, 0, 0),
  (80, [], .iload 2, 0, 0, 0),
  (81, [], .aload 0, 0, 0, 0),
  (82, [], .getfield 625, 0, 91, 1027),
  (85, [], .iload 1, 0, 0, 0),
  (86, [], .iaload, 0, 0, 0),
  (87, [], .iconst 2, 0, 0, 0),
  (88, [], .isub, 0, 0, 0),
  (89, [], .iconst 2, 0, 0, 0),
  (90, [], .iload 4, 1, 0, 0),
  (92, [], .imul, 0, 0, 0),
  (93, [], .isub, 0, 0, 0),
  (94, [], .if_icmp .gt 110, 0, 0, 0),
  (97, [], .aload 0, 0, 0, 0),
  (98, [], .getfield 582, 0, 111, 984),
  (101, [], .iconst 12, 1, 0, 0),
  (103, [], .if_icmp .ge 110, 0, 0, 0),
  (106, [], .iconst 1, 0, 0, 0),
  (107, [], .goto 111, 0, 0, 0),
  (110, [], .iconst 0, 0, 0, 0),
  (111, [], .istore 5, 1, 0, 0),
  (113, [], .iconst 60, 1, 0, 0),
  (115, [], .iload 1, 0, 0, 0),
  (116, [], .imul, 0, 0, 0),
  (117, [], .iload 2, 0, 0, 0),
  (118, [], .iadd, 0, 0, 0),
  (119, [], .iconst 2, 0, 0, 0),
  (120, [], .iload 4, 1, 0, 0),
  (122, [], .imul, 0, 0, 0),
  (123, [], .iadd, 0, 0, 0),
  (124, [], .istore 6, 1, 0, 0),
  (126, [], .iload 5, 1, 0, 0),
  (128, [], .ifCond .eq 157, 0, 0, 0),
  (131, [], .aload 0, 0, 0, 0),
  (132, [], .getfield 626, 0, 94, 1028),
  (135, [], .iload 6, 1, 0, 0),
  (137, [], .laload, 0, 0, 0),
  (138, [], .aload 0, 0, 0, 0),
  (139, [], .getfield 626, 0, 94, 1028),
  (142, [], .iload 6, 1, 0, 0),
  (144, [], .iconst 1, 0, 0, 0),
  (145, [], .iadd, 0, 0, 0),
  (146, [], .laload, 0, 0, 0),
  (147, [], .invokeinterface 152 9, 1, 120, 1148),
  (150, [], .ifCond .eq 157, 0, 0, 0),
  (153, [], .iconst 1, 0, 0, 0),
  (154, [], .goto 158, 0, 0, 0),
  (157, [], .iconst 0, 0, 0, 0),
  (158, [], .istore 5, 1, 0, 0),
  (160, [], .iload 5, 1, 0, 0),
  (162, [], .ifCond .eq 190, 0, 0, 0),
  (165, [], .aload 0, 0, 0, 0),
  (166, [], .aload 0, 0, 0, 0),
  (167, [], .getfield 626, 0, 94, 1028),
  (170, [], .iload 6, 1, 0, 0),
  (172, [], .laload, 0, 0, 0),
  (173, [], .l2i, 0, 0, 0),
  (174, [], .aload 0, 0, 0, 0),
  (175, [], .getfield 626, 0, 94, 1028),
  (178, [], .iload 6, 1, 0, 0),
  (180, [], .iconst 1, 0, 0, 0),
  (181, [], .iadd, 0, 0, 0),
  (182, [], .laload, 0, 0, 0),
  (183, [], .l2i, 0, 0, 0),
  (184, [], .invokeinterface 151 652, 0, 124, 1155),
  (187, [], .iinc 4 1, 0, 0, 0),
  (190, [], .goto 69, 0, 0, 0),
  (193, [], .iload 4, 1, 0, 0),
  (195, [], .ireturn, 0, 0, 0)]
theorem tk_Mo_bars : pm_okT M_Mo_bars T_Mo_bars = true := by decide +kernel
theorem ok_Mo_bars : pm_okm M_Mo_bars := pm_okm_of _ 1162 85 1160 1161 (by decide +kernel)
set_option maxRecDepth 100000 in
set_option maxHeartbeats 4000000 in
theorem m_Mo_bars {d : Nat} {H : pmT} {Q : pmQ} (a1 : Int32) (a2 : Int32) (a3 : Int32)
    (h : ((lg_cmp a1.toInt64 (0 : Int64)) < 0 → Q (some (.int (-1 : Int32))) H) ∧ (¬ (lg_cmp a1.toInt64 (0 : Int64)) < 0 → (0 < (lg_cmp a1.toInt64 (5 : Int64)) → Q (some (.int (-1 : Int32))) H) ∧ (¬ 0 < (lg_cmp a1.toInt64 (5 : Int64)) → ((lg_cmp a3.toInt64 (1 : Int64)) < 0 → Q (some (.int (-1 : Int32))) H) ∧ (¬ (lg_cmp a3.toInt64 (1 : Int64)) < 0 → (0 < (lg_cmp a3.toInt64 (12 : Int64)) → Q (some (.int (-1 : Int32))) H) ∧ (¬ 0 < (lg_cmp a3.toInt64 (12 : Int64)) → vp_in a1 6 ∧ (((H.1 81 a1.toNatClampNeg) < 0 → (¬ (H.1 81 a1.toNatClampNeg) = (51 : Int32) → pm_RW none (d + 2) M_Mo_bars Q 69 [(0, .ref 55), (1, .int a1), (2, .int a2), (3, .int a3), (4, .int (0 : Int32)), (5, .int (0 : Int32))] [] H) ∧ ((H.1 81 a1.toNatClampNeg) = (51 : Int32) → (a2 < 0 → pm_RW none (d + 2) M_Mo_bars Q 69 [(0, .ref 55), (1, .int a1), (2, .int a2), (3, .int a3), (4, .int (0 : Int32)), (5, .int (0 : Int32))] [] H) ∧ (¬ a2 < 0 → pm_RW none (d + 2) M_Mo_bars Q 69 [(0, .ref 55), (1, .int a1), (2, .int a2), (3, .int a3), (4, .int (0 : Int32)), (5, .int (1 : Int32))] [] H))) ∧ (¬ (H.1 81 a1.toNatClampNeg) < 0 → ((H.1 81 a1.toNatClampNeg) = (51 : Int32) → (a2 < 0 → pm_RW none (d + 2) M_Mo_bars Q 69 [(0, .ref 55), (1, .int a1), (2, .int a2), (3, .int a3), (4, .int (0 : Int32)), (5, .int (0 : Int32))] [] H) ∧ (¬ a2 < 0 → pm_RW none (d + 2) M_Mo_bars Q 69 [(0, .ref 55), (1, .int a1), (2, .int a2), (3, .int a3), (4, .int (0 : Int32)), (5, .int (1 : Int32))] [] H)) ∧ (¬ (H.1 81 a1.toNatClampNeg) = (51 : Int32) → Q (some (.int (-12 : Int32))) H)))))))) : pm_R (d + 2) M_Mo_bars [.ref 55, .int a1, .int a2, .int a3] H Q :=
  pm_walk (n := 34) ok_Mo_bars tk_Mo_bars rfl (Nat.le_of_ble_eq_true rfl) (show pm_R (d + 1) M_Mo_isShelf [.int a1] H (pm_i (fun x2 H1 => (x2 = 0 → Q (some (.int (-1 : Int32))) H1) ∧ (¬ x2 = 0 → pm_R (d + 1) M_Mo_within [.long a3.toInt64, .long (1 : Int64), .long (12 : Int64)] H1 (pm_i (fun x4 H3 => (¬ x4 = 0 → vp_in a1 6 ∧ (((H3.1 81 a1.toNatClampNeg) < 0 → vp_in a1 6 ∧ ((¬ (H3.1 81 a1.toNatClampNeg) = (51 : Int32) → pm_RW none (d + 2) M_Mo_bars Q 69 [(0, .ref 55), (1, .int a1), (2, .int a2), (3, .int a3), (4, .int (0 : Int32)), (5, .int (0 : Int32))] [] H3) ∧ ((H3.1 81 a1.toNatClampNeg) = (51 : Int32) → (a2 < 0 → pm_RW none (d + 2) M_Mo_bars Q 69 [(0, .ref 55), (1, .int a1), (2, .int a2), (3, .int a3), (4, .int (0 : Int32)), (5, .int (0 : Int32))] [] H3) ∧ (¬ a2 < 0 → pm_RW none (d + 2) M_Mo_bars Q 69 [(0, .ref 55), (1, .int a1), (2, .int a2), (3, .int a3), (4, .int (0 : Int32)), (5, .int (1 : Int32))] [] H3)))) ∧ (¬ (H3.1 81 a1.toNatClampNeg) < 0 → vp_in a1 6 ∧ (((H3.1 81 a1.toNatClampNeg) = (51 : Int32) → vp_in a1 6 ∧ ((¬ (H3.1 81 a1.toNatClampNeg) = (51 : Int32) → pm_RW none (d + 2) M_Mo_bars Q 69 [(0, .ref 55), (1, .int a1), (2, .int a2), (3, .int a3), (4, .int (0 : Int32)), (5, .int (0 : Int32))] [] H3) ∧ ((H3.1 81 a1.toNatClampNeg) = (51 : Int32) → (a2 < 0 → pm_RW none (d + 2) M_Mo_bars Q 69 [(0, .ref 55), (1, .int a1), (2, .int a2), (3, .int a3), (4, .int (0 : Int32)), (5, .int (0 : Int32))] [] H3) ∧ (¬ a2 < 0 → pm_RW none (d + 2) M_Mo_bars Q 69 [(0, .ref 55), (1, .int a1), (2, .int a2), (3, .int a3), (4, .int (0 : Int32)), (5, .int (1 : Int32))] [] H3)))) ∧ (¬ (H3.1 81 a1.toNatClampNeg) = (51 : Int32) → Q (some (.int (-12 : Int32))) H3))))) ∧ (x4 = 0 → Q (some (.int (-1 : Int32))) H3)))))) from u_Mo_isShelf a1 (u_Mo_within a1.toInt64 (0 : Int64) (5 : Int64) (⟨fun q1 => ⟨Or.inl rfl, ⟨Or.inl rfl, ⟨fun _ => (h.1 q1), fun z => absurd (by decide) z⟩⟩⟩, fun q1 => ⟨fun q2 => ⟨Or.inl rfl, ⟨Or.inl rfl, ⟨fun _ => ((h.2 q1).1 q2), fun z => absurd (by decide) z⟩⟩⟩, fun q2 => ⟨Or.inr rfl, ⟨Or.inr rfl, ⟨fun z => absurd z (by decide), fun _ => u_Mo_within a3.toInt64 (1 : Int64) (12 : Int64) (⟨fun q3 => ⟨Or.inl rfl, ⟨fun z => absurd (by decide) z, fun _ => (((h.2 q1).2 q2).1 q3)⟩⟩, fun q3 => ⟨fun q4 => ⟨Or.inl rfl, ⟨fun z => absurd (by decide) z, fun _ => ((((h.2 q1).2 q2).2 q3).1 q4)⟩⟩, fun q4 => ⟨Or.inr rfl, ⟨fun _ => ⟨((((h.2 q1).2 q2).2 q3).2 q4).1, ⟨fun q5 => ⟨((((h.2 q1).2 q2).2 q3).2 q4).1, ⟨fun q6 => ((((((h.2 q1).2 q2).2 q3).2 q4).2.1 q5).1 q6), fun q6 => ⟨fun q7 => (((((((h.2 q1).2 q2).2 q3).2 q4).2.1 q5).2 q6).1 q7), fun q7 => (((((((h.2 q1).2 q2).2 q3).2 q4).2.1 q5).2 q6).2 q7)⟩⟩⟩, fun q5 => ⟨((((h.2 q1).2 q2).2 q3).2 q4).1, ⟨fun q8 => ⟨((((h.2 q1).2 q2).2 q3).2 q4).1, ⟨fun z => absurd q8 z, fun _ => ⟨fun q9 => (((((((h.2 q1).2 q2).2 q3).2 q4).2.2 q5).1 q8).1 q9), fun q9 => (((((((h.2 q1).2 q2).2 q3).2 q4).2.2 q5).1 q8).2 q9)⟩⟩⟩, fun q8 => ((((((h.2 q1).2 q2).2 q3).2 q4).2.2 q5).2 q8)⟩⟩⟩⟩, fun z => absurd z (by decide)⟩⟩⟩⟩)⟩⟩⟩⟩⟩)))
set_option maxRecDepth 100000 in
set_option maxHeartbeats 4000000 in
theorem b_Mo_bars_69 {d : Nat} {H : pmT} {Q : pmQ} (v1 : Int32) (v2 : Int32) (v3 : Int32) (v4 : Int32) (v5 : Int32)
    (h : (v5 = 0 → Q (some (.int v4)) H) ∧ (¬ v5 = 0 → (v3 ≤ v4 → Q (some (.int v4)) H) ∧ (¬ v3 ≤ v4 → vp_in v1 6 ∧ (((((H.1 82 v1.toNatClampNeg) - (2 : Int32)) - ((2 : Int32) * v4)) < v2 → pm_RW none (d + 2) M_Mo_bars Q 69 [(0, .ref 55), (1, .int v1), (2, .int v2), (3, .int v3), (4, .int v4), (5, .int (0 : Int32))] [] H) ∧ (¬ (((H.1 82 v1.toNatClampNeg) - (2 : Int32)) - ((2 : Int32) * v4)) < v2 → ((12 : Int32) ≤ (H.1 55 6) → pm_RW none (d + 2) M_Mo_bars Q 69 [(0, .ref 55), (1, .int v1), (2, .int v2), (3, .int v3), (4, .int v4), (5, .int (0 : Int32))] [] H) ∧ (¬ (12 : Int32) ≤ (H.1 55 6) → vp_in ((((60 : Int32) * v1) + v2) + ((2 : Int32) * v4)) 360 ∧ (vp_in (((((60 : Int32) * v1) + v2) + ((2 : Int32) * v4)) + (1 : Int32)) 360 ∧ (((lg_cmp (H.2.1 83 (((((60 : Int32) * v1) + v2) + ((2 : Int32) * v4)).toNatClampNeg)) (0 : Int64)) < 0 → pm_RW none (d + 2) M_Mo_bars Q 69 [(0, .ref 55), (1, .int v1), (2, .int v2), (3, .int v3), (4, .int v4), (5, .int (0 : Int32))] [] H) ∧ (¬ (lg_cmp (H.2.1 83 (((((60 : Int32) * v1) + v2) + ((2 : Int32) * v4)).toNatClampNeg)) (0 : Int64)) < 0 → (0 < (lg_cmp (H.2.1 83 (((((60 : Int32) * v1) + v2) + ((2 : Int32) * v4)).toNatClampNeg)) (999 : Int64)) → pm_RW none (d + 2) M_Mo_bars Q 69 [(0, .ref 55), (1, .int v1), (2, .int v2), (3, .int v3), (4, .int v4), (5, .int (0 : Int32))] [] H) ∧ (¬ 0 < (lg_cmp (H.2.1 83 (((((60 : Int32) * v1) + v2) + ((2 : Int32) * v4)).toNatClampNeg)) (999 : Int64)) → ((lg_cmp (H.2.1 83 ((((((60 : Int32) * v1) + v2) + ((2 : Int32) * v4)) + (1 : Int32)).toNatClampNeg)) (0 : Int64)) < 0 → pm_RW none (d + 2) M_Mo_bars Q 69 [(0, .ref 55), (1, .int v1), (2, .int v2), (3, .int v3), (4, .int v4), (5, .int (0 : Int32))] [] H) ∧ (¬ (lg_cmp (H.2.1 83 ((((((60 : Int32) * v1) + v2) + ((2 : Int32) * v4)) + (1 : Int32)).toNatClampNeg)) (0 : Int64)) < 0 → (0 < (lg_cmp (H.2.1 83 ((((((60 : Int32) * v1) + v2) + ((2 : Int32) * v4)) + (1 : Int32)).toNatClampNeg)) (999 : Int64)) → pm_RW none (d + 2) M_Mo_bars Q 69 [(0, .ref 55), (1, .int v1), (2, .int v2), (3, .int v3), (4, .int v4), (5, .int (0 : Int32))] [] H) ∧ (¬ 0 < (lg_cmp (H.2.1 83 ((((((60 : Int32) * v1) + v2) + ((2 : Int32) * v4)) + (1 : Int32)).toNatClampNeg)) (999 : Int64)) → vp_in (H.1 55 6) 41 ∧ (vp_in ((12 : Int32) + (H.1 55 6)) 41 ∧ (vp_in ((24 : Int32) + (H.1 55 6)) 41 ∧ (vp_in (H.1 55 6) 12 ∧ (pm_RW none (d + 2) M_Mo_bars Q 69 [(0, .ref 55), (1, .int v1), (2, .int v2), (3, .int v3), (4, .int (v4 + (1 : Int32))), (5, .int (1 : Int32))] [] ((pm_up (pm_up (pm_up (pm_up (pm_up (pm_up H.1 56 ((H.1 55 6).toNatClampNeg) ((H.2.1 83 (((((60 : Int32) * v1) + v2) + ((2 : Int32) * v4)).toNatClampNeg)).toInt32)) 56 (((12 : Int32) + (H.1 55 6)).toNatClampNeg) ((H.2.1 83 ((((((60 : Int32) * v1) + v2) + ((2 : Int32) * v4)) + (1 : Int32)).toNatClampNeg)).toInt32)) 56 (((24 : Int32) + (H.1 55 6)).toNatClampNeg) (0 : Int32)) 60 ((H.1 55 6).toNatClampNeg) (0 : Int32)) 61 ((H.1 55 6).toNatClampNeg) (0 : Int32)) 55 6 ((H.1 55 6) + (1 : Int32))), H.2))))))))))))))))) : pm_RW none (d + 2) M_Mo_bars Q 69 [(0, .ref 55), (1, .int v1), (2, .int v2), (3, .int v3), (4, .int v4), (5, .int v5)] [] H :=
  pm_body tk_Mo_bars 69 69 (show (v5 = 0 → Q (some (.int v4)) H) ∧ (¬ v5 = 0 → (v3 ≤ v4 → Q (some (.int v4)) H) ∧ (¬ v3 ≤ v4 → vp_in v1 6 ∧ (((((H.1 82 v1.toNatClampNeg) - (2 : Int32)) - ((2 : Int32) * v4)) < v2 → ((0 : Int32) = 0 → ((0 : Int32) = 0 → pm_RW none (d + 2) M_Mo_bars Q 69 [(0, .ref 55), (1, .int v1), (2, .int v2), (3, .int v3), (4, .int v4), (5, .int (0 : Int32))] [] H) ∧ (¬ (0 : Int32) = 0 → vp_in ((((60 : Int32) * v1) + v2) + ((2 : Int32) * v4)) 360 ∧ (vp_in (((((60 : Int32) * v1) + v2) + ((2 : Int32) * v4)) + (1 : Int32)) 360 ∧ (pm_R (d + 1) M_Mo_adds [.ref 55, .int ((H.2.1 83 (((((60 : Int32) * v1) + v2) + ((2 : Int32) * v4)).toNatClampNeg)).toInt32), .int ((H.2.1 83 ((((((60 : Int32) * v1) + v2) + ((2 : Int32) * v4)) + (1 : Int32)).toNatClampNeg)).toInt32)] H (pm_v (fun H1 => pm_RW none (d + 2) M_Mo_bars Q 69 [(0, .ref 55), (1, .int v1), (2, .int v2), (3, .int v3), (4, .int (v4 + (1 : Int32))), (5, .int (0 : Int32))] [] H1)))))) ∧ (¬ (0 : Int32) = 0 → vp_in ((((60 : Int32) * v1) + v2) + ((2 : Int32) * v4)) 360 ∧ (vp_in (((((60 : Int32) * v1) + v2) + ((2 : Int32) * v4)) + (1 : Int32)) 360 ∧ (pm_R (d + 1) M_Mo_isOne [.long (H.2.1 83 (((((60 : Int32) * v1) + v2) + ((2 : Int32) * v4)).toNatClampNeg)), .long (H.2.1 83 ((((((60 : Int32) * v1) + v2) + ((2 : Int32) * v4)) + (1 : Int32)).toNatClampNeg))] H (pm_i (fun x3 H2 => (x3 = 0 → ((0 : Int32) = 0 → pm_RW none (d + 2) M_Mo_bars Q 69 [(0, .ref 55), (1, .int v1), (2, .int v2), (3, .int v3), (4, .int v4), (5, .int (0 : Int32))] [] H2) ∧ (¬ (0 : Int32) = 0 → vp_in ((((60 : Int32) * v1) + v2) + ((2 : Int32) * v4)) 360 ∧ (vp_in (((((60 : Int32) * v1) + v2) + ((2 : Int32) * v4)) + (1 : Int32)) 360 ∧ (pm_R (d + 1) M_Mo_adds [.ref 55, .int ((H2.2.1 83 (((((60 : Int32) * v1) + v2) + ((2 : Int32) * v4)).toNatClampNeg)).toInt32), .int ((H2.2.1 83 ((((((60 : Int32) * v1) + v2) + ((2 : Int32) * v4)) + (1 : Int32)).toNatClampNeg)).toInt32)] H2 (pm_v (fun H4 => pm_RW none (d + 2) M_Mo_bars Q 69 [(0, .ref 55), (1, .int v1), (2, .int v2), (3, .int v3), (4, .int (v4 + (1 : Int32))), (5, .int (0 : Int32))] [] H4)))))) ∧ (¬ x3 = 0 → ((1 : Int32) = 0 → pm_RW none (d + 2) M_Mo_bars Q 69 [(0, .ref 55), (1, .int v1), (2, .int v2), (3, .int v3), (4, .int v4), (5, .int (1 : Int32))] [] H2) ∧ (¬ (1 : Int32) = 0 → vp_in ((((60 : Int32) * v1) + v2) + ((2 : Int32) * v4)) 360 ∧ (vp_in (((((60 : Int32) * v1) + v2) + ((2 : Int32) * v4)) + (1 : Int32)) 360 ∧ (pm_R (d + 1) M_Mo_adds [.ref 55, .int ((H2.2.1 83 (((((60 : Int32) * v1) + v2) + ((2 : Int32) * v4)).toNatClampNeg)).toInt32), .int ((H2.2.1 83 ((((((60 : Int32) * v1) + v2) + ((2 : Int32) * v4)) + (1 : Int32)).toNatClampNeg)).toInt32)] H2 (pm_v (fun H5 => pm_RW none (d + 2) M_Mo_bars Q 69 [(0, .ref 55), (1, .int v1), (2, .int v2), (3, .int v3), (4, .int (v4 + (1 : Int32))), (5, .int (1 : Int32))] [] H5)))))))))))) ∧ (¬ (((H.1 82 v1.toNatClampNeg) - (2 : Int32)) - ((2 : Int32) * v4)) < v2 → ((12 : Int32) ≤ (H.1 55 6) → ((0 : Int32) = 0 → ((0 : Int32) = 0 → pm_RW none (d + 2) M_Mo_bars Q 69 [(0, .ref 55), (1, .int v1), (2, .int v2), (3, .int v3), (4, .int v4), (5, .int (0 : Int32))] [] H) ∧ (¬ (0 : Int32) = 0 → vp_in ((((60 : Int32) * v1) + v2) + ((2 : Int32) * v4)) 360 ∧ (vp_in (((((60 : Int32) * v1) + v2) + ((2 : Int32) * v4)) + (1 : Int32)) 360 ∧ (pm_R (d + 1) M_Mo_adds [.ref 55, .int ((H.2.1 83 (((((60 : Int32) * v1) + v2) + ((2 : Int32) * v4)).toNatClampNeg)).toInt32), .int ((H.2.1 83 ((((((60 : Int32) * v1) + v2) + ((2 : Int32) * v4)) + (1 : Int32)).toNatClampNeg)).toInt32)] H (pm_v (fun H6 => pm_RW none (d + 2) M_Mo_bars Q 69 [(0, .ref 55), (1, .int v1), (2, .int v2), (3, .int v3), (4, .int (v4 + (1 : Int32))), (5, .int (0 : Int32))] [] H6)))))) ∧ (¬ (0 : Int32) = 0 → vp_in ((((60 : Int32) * v1) + v2) + ((2 : Int32) * v4)) 360 ∧ (vp_in (((((60 : Int32) * v1) + v2) + ((2 : Int32) * v4)) + (1 : Int32)) 360 ∧ (pm_R (d + 1) M_Mo_isOne [.long (H.2.1 83 (((((60 : Int32) * v1) + v2) + ((2 : Int32) * v4)).toNatClampNeg)), .long (H.2.1 83 ((((((60 : Int32) * v1) + v2) + ((2 : Int32) * v4)) + (1 : Int32)).toNatClampNeg))] H (pm_i (fun x8 H7 => (x8 = 0 → ((0 : Int32) = 0 → pm_RW none (d + 2) M_Mo_bars Q 69 [(0, .ref 55), (1, .int v1), (2, .int v2), (3, .int v3), (4, .int v4), (5, .int (0 : Int32))] [] H7) ∧ (¬ (0 : Int32) = 0 → vp_in ((((60 : Int32) * v1) + v2) + ((2 : Int32) * v4)) 360 ∧ (vp_in (((((60 : Int32) * v1) + v2) + ((2 : Int32) * v4)) + (1 : Int32)) 360 ∧ (pm_R (d + 1) M_Mo_adds [.ref 55, .int ((H7.2.1 83 (((((60 : Int32) * v1) + v2) + ((2 : Int32) * v4)).toNatClampNeg)).toInt32), .int ((H7.2.1 83 ((((((60 : Int32) * v1) + v2) + ((2 : Int32) * v4)) + (1 : Int32)).toNatClampNeg)).toInt32)] H7 (pm_v (fun H9 => pm_RW none (d + 2) M_Mo_bars Q 69 [(0, .ref 55), (1, .int v1), (2, .int v2), (3, .int v3), (4, .int (v4 + (1 : Int32))), (5, .int (0 : Int32))] [] H9)))))) ∧ (¬ x8 = 0 → ((1 : Int32) = 0 → pm_RW none (d + 2) M_Mo_bars Q 69 [(0, .ref 55), (1, .int v1), (2, .int v2), (3, .int v3), (4, .int v4), (5, .int (1 : Int32))] [] H7) ∧ (¬ (1 : Int32) = 0 → vp_in ((((60 : Int32) * v1) + v2) + ((2 : Int32) * v4)) 360 ∧ (vp_in (((((60 : Int32) * v1) + v2) + ((2 : Int32) * v4)) + (1 : Int32)) 360 ∧ (pm_R (d + 1) M_Mo_adds [.ref 55, .int ((H7.2.1 83 (((((60 : Int32) * v1) + v2) + ((2 : Int32) * v4)).toNatClampNeg)).toInt32), .int ((H7.2.1 83 ((((((60 : Int32) * v1) + v2) + ((2 : Int32) * v4)) + (1 : Int32)).toNatClampNeg)).toInt32)] H7 (pm_v (fun H10 => pm_RW none (d + 2) M_Mo_bars Q 69 [(0, .ref 55), (1, .int v1), (2, .int v2), (3, .int v3), (4, .int (v4 + (1 : Int32))), (5, .int (1 : Int32))] [] H10)))))))))))) ∧ (¬ (12 : Int32) ≤ (H.1 55 6) → ((1 : Int32) = 0 → ((0 : Int32) = 0 → pm_RW none (d + 2) M_Mo_bars Q 69 [(0, .ref 55), (1, .int v1), (2, .int v2), (3, .int v3), (4, .int v4), (5, .int (0 : Int32))] [] H) ∧ (¬ (0 : Int32) = 0 → vp_in ((((60 : Int32) * v1) + v2) + ((2 : Int32) * v4)) 360 ∧ (vp_in (((((60 : Int32) * v1) + v2) + ((2 : Int32) * v4)) + (1 : Int32)) 360 ∧ (pm_R (d + 1) M_Mo_adds [.ref 55, .int ((H.2.1 83 (((((60 : Int32) * v1) + v2) + ((2 : Int32) * v4)).toNatClampNeg)).toInt32), .int ((H.2.1 83 ((((((60 : Int32) * v1) + v2) + ((2 : Int32) * v4)) + (1 : Int32)).toNatClampNeg)).toInt32)] H (pm_v (fun H11 => pm_RW none (d + 2) M_Mo_bars Q 69 [(0, .ref 55), (1, .int v1), (2, .int v2), (3, .int v3), (4, .int (v4 + (1 : Int32))), (5, .int (0 : Int32))] [] H11)))))) ∧ (¬ (1 : Int32) = 0 → vp_in ((((60 : Int32) * v1) + v2) + ((2 : Int32) * v4)) 360 ∧ (vp_in (((((60 : Int32) * v1) + v2) + ((2 : Int32) * v4)) + (1 : Int32)) 360 ∧ (pm_R (d + 1) M_Mo_isOne [.long (H.2.1 83 (((((60 : Int32) * v1) + v2) + ((2 : Int32) * v4)).toNatClampNeg)), .long (H.2.1 83 ((((((60 : Int32) * v1) + v2) + ((2 : Int32) * v4)) + (1 : Int32)).toNatClampNeg))] H (pm_i (fun x13 H12 => (x13 = 0 → ((0 : Int32) = 0 → pm_RW none (d + 2) M_Mo_bars Q 69 [(0, .ref 55), (1, .int v1), (2, .int v2), (3, .int v3), (4, .int v4), (5, .int (0 : Int32))] [] H12) ∧ (¬ (0 : Int32) = 0 → vp_in ((((60 : Int32) * v1) + v2) + ((2 : Int32) * v4)) 360 ∧ (vp_in (((((60 : Int32) * v1) + v2) + ((2 : Int32) * v4)) + (1 : Int32)) 360 ∧ (pm_R (d + 1) M_Mo_adds [.ref 55, .int ((H12.2.1 83 (((((60 : Int32) * v1) + v2) + ((2 : Int32) * v4)).toNatClampNeg)).toInt32), .int ((H12.2.1 83 ((((((60 : Int32) * v1) + v2) + ((2 : Int32) * v4)) + (1 : Int32)).toNatClampNeg)).toInt32)] H12 (pm_v (fun H14 => pm_RW none (d + 2) M_Mo_bars Q 69 [(0, .ref 55), (1, .int v1), (2, .int v2), (3, .int v3), (4, .int (v4 + (1 : Int32))), (5, .int (0 : Int32))] [] H14)))))) ∧ (¬ x13 = 0 → ((1 : Int32) = 0 → pm_RW none (d + 2) M_Mo_bars Q 69 [(0, .ref 55), (1, .int v1), (2, .int v2), (3, .int v3), (4, .int v4), (5, .int (1 : Int32))] [] H12) ∧ (¬ (1 : Int32) = 0 → vp_in ((((60 : Int32) * v1) + v2) + ((2 : Int32) * v4)) 360 ∧ (vp_in (((((60 : Int32) * v1) + v2) + ((2 : Int32) * v4)) + (1 : Int32)) 360 ∧ (pm_R (d + 1) M_Mo_adds [.ref 55, .int ((H12.2.1 83 (((((60 : Int32) * v1) + v2) + ((2 : Int32) * v4)).toNatClampNeg)).toInt32), .int ((H12.2.1 83 ((((((60 : Int32) * v1) + v2) + ((2 : Int32) * v4)) + (1 : Int32)).toNatClampNeg)).toInt32)] H12 (pm_v (fun H15 => pm_RW none (d + 2) M_Mo_bars Q 69 [(0, .ref 55), (1, .int v1), (2, .int v2), (3, .int v3), (4, .int (v4 + (1 : Int32))), (5, .int (1 : Int32))] [] H15)))))))))))))))) from ⟨fun q1 => (h.1 q1), fun q1 => ⟨fun q2 => ((h.2 q1).1 q2), fun q2 => ⟨((h.2 q1).2 q2).1, ⟨fun q3 => ⟨fun _ => ⟨fun _ => (((h.2 q1).2 q2).2.1 q3), fun z => absurd (by decide) z⟩, fun z => absurd (by decide) z⟩, fun q3 => ⟨fun q4 => ⟨fun _ => ⟨fun _ => ((((h.2 q1).2 q2).2.2 q3).1 q4), fun z => absurd (by decide) z⟩, fun z => absurd (by decide) z⟩, fun q4 => ⟨fun z => absurd z (by decide), fun _ => ⟨((((h.2 q1).2 q2).2.2 q3).2 q4).1, ⟨((((h.2 q1).2 q2).2.2 q3).2 q4).2.1, u_Mo_isOne (H.2.1 83 (((((60 : Int32) * v1) + v2) + ((2 : Int32) * v4)).toNatClampNeg)) (H.2.1 83 ((((((60 : Int32) * v1) + v2) + ((2 : Int32) * v4)) + (1 : Int32)).toNatClampNeg)) (u_Mo_within (H.2.1 83 (((((60 : Int32) * v1) + v2) + ((2 : Int32) * v4)).toNatClampNeg)) (0 : Int64) (999 : Int64) (⟨fun q5 => ⟨Or.inl rfl, ⟨fun _ => ⟨Or.inl rfl, ⟨fun _ => ⟨fun _ => (((((h.2 q1).2 q2).2.2 q3).2 q4).2.2.1 q5), fun z => absurd (by decide) z⟩, fun z => absurd (by decide) z⟩⟩, fun z => absurd (by decide) z⟩⟩, fun q5 => ⟨fun q6 => ⟨Or.inl rfl, ⟨fun _ => ⟨Or.inl rfl, ⟨fun _ => ⟨fun _ => ((((((h.2 q1).2 q2).2.2 q3).2 q4).2.2.2 q5).1 q6), fun z => absurd (by decide) z⟩, fun z => absurd (by decide) z⟩⟩, fun z => absurd (by decide) z⟩⟩, fun q6 => ⟨Or.inr rfl, ⟨fun z => absurd z (by decide), fun _ => u_Mo_within (H.2.1 83 ((((((60 : Int32) * v1) + v2) + ((2 : Int32) * v4)) + (1 : Int32)).toNatClampNeg)) (0 : Int64) (999 : Int64) (⟨fun q7 => ⟨Or.inl rfl, ⟨fun _ => ⟨Or.inl rfl, ⟨fun _ => ⟨fun _ => (((((((h.2 q1).2 q2).2.2 q3).2 q4).2.2.2 q5).2 q6).1 q7), fun z => absurd (by decide) z⟩, fun z => absurd (by decide) z⟩⟩, fun z => absurd (by decide) z⟩⟩, fun q7 => ⟨fun q8 => ⟨Or.inl rfl, ⟨fun _ => ⟨Or.inl rfl, ⟨fun _ => ⟨fun _ => ((((((((h.2 q1).2 q2).2.2 q3).2 q4).2.2.2 q5).2 q6).2 q7).1 q8), fun z => absurd (by decide) z⟩, fun z => absurd (by decide) z⟩⟩, fun z => absurd (by decide) z⟩⟩, fun q8 => ⟨Or.inr rfl, ⟨fun z => absurd z (by decide), fun _ => ⟨Or.inr rfl, ⟨fun z => absurd z (by decide), fun _ => ⟨fun z => absurd z (by decide), fun _ => ⟨((((h.2 q1).2 q2).2.2 q3).2 q4).1, ⟨((((h.2 q1).2 q2).2.2 q3).2 q4).2.1, u_Mo_adds ((H.2.1 83 (((((60 : Int32) * v1) + v2) + ((2 : Int32) * v4)).toNatClampNeg)).toInt32) ((H.2.1 83 ((((((60 : Int32) * v1) + v2) + ((2 : Int32) * v4)) + (1 : Int32)).toNatClampNeg)).toInt32) (⟨((((((((h.2 q1).2 q2).2.2 q3).2 q4).2.2.2 q5).2 q6).2 q7).2 q8).1, ⟨((((((((h.2 q1).2 q2).2.2 q3).2 q4).2.2.2 q5).2 q6).2 q7).2 q8).2.1, ⟨((((((((h.2 q1).2 q2).2.2 q3).2 q4).2.2.2 q5).2 q6).2 q7).2 q8).2.2.1, ⟨((((((((h.2 q1).2 q2).2.2 q3).2 q4).2.2.2 q5).2 q6).2 q7).2 q8).2.2.2.1, ⟨((((((((h.2 q1).2 q2).2.2 q3).2 q4).2.2.2 q5).2 q6).2 q7).2 q8).2.2.2.1, ((((((((h.2 q1).2 q2).2.2 q3).2 q4).2.2.2 q5).2 q6).2 q7).2 q8).2.2.2.2⟩⟩⟩⟩⟩)⟩⟩⟩⟩⟩⟩⟩⟩⟩)⟩⟩⟩⟩))⟩⟩⟩⟩⟩⟩⟩⟩)
def T_Mo_placeOf : List pmE := [
  (0, [], .iload 2, 0, 0, 0),
  (1, [], .i2l, 0, 0, 0),
  (2, [], .jsr 0, 0, 0, 0),
  (3, [], .jsr 2, 1, 134, 1176),
  (6, [], .invokeinterface 143 13, 1, 114, 1152),
  (9, [], .ifCond .eq 32, 0, 0, 0),
  (12, [], .aload 0, 0, 0, 0),
  (13, [], .iload 1, 0, 0, 0),
  (14, [], .i2l, 0, 0, 0),
  (15, [], .invokeinterface 150 649, 0, 136, 1177),
  (18, [], .ifCond .eq 30, 0, 0, 0),
  (21, [], .iconst 12, 1, 0, 0),
  (23, [], .iload 2, 0, 0, 0),
  (24, [], .imul, 0, 0, 0),
  (25, [], .iload 1, 0, 0, 0),
  (26, [], .iadd, 0, 0, 0),
  (27, [], .goto 31, 0, 0, 0),
  (30, [], .iconst (-1), 0, 0, 0),
  (31, [], .ireturn, 0, 0, 0),
  (32, [], .iload 1, 0, 0, 0),
  (33, [], .ifCond .ne 59, 0, 0, 0),
  (36, [], .iload 2, 0, 0, 0),
  (37, [], .i2l, 0, 0, 0),
  (38, [], .jsr 3, 1, 140, 1181),
  (41, [], .jsr 7, 1, 142, 1182),
  (44, [], .invokeinterface 143 13, 1, 114, 1152),
  (47, [], .ifCond .eq 59, 0, 0, 0),
  (50, [], .iconst 36, 1, 0, 0),
  (52, [], .iload 2, 0, 0, 0),
  (53, [], .iadd, 0, 0, 0),
  (54, [], .iconst 3, 0, 0, 0),
  (55, [], .isub, 0, 0, 0),
  (56, [], .goto 60, 0, 0, 0),
  (59, [], .iconst (-1), 0, 0, 0),
  (60, [], .ireturn, 0, 0, 0)]
theorem tk_Mo_placeOf : pm_okT M_Mo_placeOf T_Mo_placeOf = true := by decide +kernel
theorem ok_Mo_placeOf : pm_okm M_Mo_placeOf := pm_okm_of _ 1175 85 1174 28 (by decide +kernel)
set_option maxRecDepth 100000 in
set_option maxHeartbeats 4000000 in
theorem m_Mo_placeOf {d : Nat} {H : pmT} {Q : pmQ} (a1 : Int32) (a2 : Int32)
    (h : ((lg_cmp a2.toInt64 (0 : Int64)) < 0 → (¬ a1 = 0 → Q (some (.int (-1 : Int32))) H) ∧ (a1 = 0 → ((lg_cmp a2.toInt64 (3 : Int64)) < 0 → Q (some (.int (-1 : Int32))) H) ∧ (¬ (lg_cmp a2.toInt64 (3 : Int64)) < 0 → (0 < (lg_cmp a2.toInt64 (7 : Int64)) → Q (some (.int (-1 : Int32))) H) ∧ (¬ 0 < (lg_cmp a2.toInt64 (7 : Int64)) → Q (some (.int (((36 : Int32) + a2) - (3 : Int32)))) H)))) ∧ (¬ (lg_cmp a2.toInt64 (0 : Int64)) < 0 → (0 < (lg_cmp a2.toInt64 (2 : Int64)) → (¬ a1 = 0 → Q (some (.int (-1 : Int32))) H) ∧ (a1 = 0 → ((lg_cmp a2.toInt64 (3 : Int64)) < 0 → Q (some (.int (-1 : Int32))) H) ∧ (¬ (lg_cmp a2.toInt64 (3 : Int64)) < 0 → (0 < (lg_cmp a2.toInt64 (7 : Int64)) → Q (some (.int (-1 : Int32))) H) ∧ (¬ 0 < (lg_cmp a2.toInt64 (7 : Int64)) → Q (some (.int (((36 : Int32) + a2) - (3 : Int32)))) H)))) ∧ (¬ 0 < (lg_cmp a2.toInt64 (2 : Int64)) → ((lg_cmp a1.toInt64 (0 : Int64)) < 0 → Q (some (.int (-1 : Int32))) H) ∧ (¬ (lg_cmp a1.toInt64 (0 : Int64)) < 0 → (0 < (lg_cmp a1.toInt64 (((H.1 55 6) - (1 : Int32)).toInt64)) → Q (some (.int (-1 : Int32))) H) ∧ (¬ 0 < (lg_cmp a1.toInt64 (((H.1 55 6) - (1 : Int32)).toInt64)) → Q (some (.int (((12 : Int32) * a2) + a1))) H))))) : pm_R (d + 2) M_Mo_placeOf [.ref 55, .int a1, .int a2] H Q :=
  pm_walk (n := 21) ok_Mo_placeOf tk_Mo_placeOf rfl (Nat.le_of_ble_eq_true rfl) (show pm_R (d + 1) M_Mo_within [.long a2.toInt64, .long (0 : Int64), .long (2 : Int64)] H (pm_i (fun x2 H1 => (x2 = 0 → (¬ a1 = 0 → Q (some (.int (-1 : Int32))) H1) ∧ (a1 = 0 → pm_R (d + 1) M_Mo_within [.long a2.toInt64, .long (3 : Int64), .long (7 : Int64)] H1 (pm_i (fun x4 H3 => (x4 = 0 → Q (some (.int (-1 : Int32))) H3) ∧ (¬ x4 = 0 → Q (some (.int (((36 : Int32) + a2) - (3 : Int32)))) H3))))) ∧ (¬ x2 = 0 → pm_R (d + 1) M_Mo_isBar [.ref 55, .long a1.toInt64] H1 (pm_i (fun x6 H5 => (x6 = 0 → Q (some (.int (-1 : Int32))) H5) ∧ (¬ x6 = 0 → Q (some (.int (((12 : Int32) * a2) + a1))) H5)))))) from u_Mo_within a2.toInt64 (0 : Int64) (2 : Int64) (⟨fun q1 => ⟨Or.inl rfl, ⟨fun _ => ⟨fun q2 => ((h.1 q1).1 q2), fun q2 => u_Mo_within a2.toInt64 (3 : Int64) (7 : Int64) (⟨fun q3 => ⟨Or.inl rfl, ⟨fun _ => (((h.1 q1).2 q2).1 q3), fun z => absurd (by decide) z⟩⟩, fun q3 => ⟨fun q4 => ⟨Or.inl rfl, ⟨fun _ => ((((h.1 q1).2 q2).2 q3).1 q4), fun z => absurd (by decide) z⟩⟩, fun q4 => ⟨Or.inr rfl, ⟨fun z => absurd z (by decide), fun _ => ((((h.1 q1).2 q2).2 q3).2 q4)⟩⟩⟩⟩)⟩, fun z => absurd (by decide) z⟩⟩, fun q1 => ⟨fun q5 => ⟨Or.inl rfl, ⟨fun _ => ⟨fun q6 => (((h.2 q1).1 q5).1 q6), fun q6 => u_Mo_within a2.toInt64 (3 : Int64) (7 : Int64) (⟨fun q7 => ⟨Or.inl rfl, ⟨fun _ => ((((h.2 q1).1 q5).2 q6).1 q7), fun z => absurd (by decide) z⟩⟩, fun q7 => ⟨fun q8 => ⟨Or.inl rfl, ⟨fun _ => (((((h.2 q1).1 q5).2 q6).2 q7).1 q8), fun z => absurd (by decide) z⟩⟩, fun q8 => ⟨Or.inr rfl, ⟨fun z => absurd z (by decide), fun _ => (((((h.2 q1).1 q5).2 q6).2 q7).2 q8)⟩⟩⟩⟩)⟩, fun z => absurd (by decide) z⟩⟩, fun q5 => ⟨Or.inr rfl, ⟨fun z => absurd z (by decide), fun _ => u_Mo_isBar a1.toInt64 (u_Mo_within a1.toInt64 (0 : Int64) (((H.1 55 6) - (1 : Int32)).toInt64) (⟨fun q9 => ⟨Or.inl rfl, ⟨Or.inl rfl, ⟨fun _ => (((h.2 q1).2 q5).1 q9), fun z => absurd (by decide) z⟩⟩⟩, fun q9 => ⟨fun q10 => ⟨Or.inl rfl, ⟨Or.inl rfl, ⟨fun _ => ((((h.2 q1).2 q5).2 q9).1 q10), fun z => absurd (by decide) z⟩⟩⟩, fun q10 => ⟨Or.inr rfl, ⟨Or.inr rfl, ⟨fun z => absurd z (by decide), fun _ => ((((h.2 q1).2 q5).2 q9).2 q10)⟩⟩⟩⟩⟩))⟩⟩⟩⟩))
def T_Mo_mend : List pmE := [
  (0, [], .aload 0, 0, 0, 0),
  (1, [], .iload 1, 0, 0, 0),
  (2, [], .iload 2, 0, 0, 0),
  (3, [], .invokeinterface 155 653, 0, 144, 1172),
  (6, [], .istore 4, 1, 0, 0),
  (8, [], .iload 4, 1, 0, 0),
  (10, [], .ifCond .lt 37, 0, 0, 0),
  (13, [], .iload 3, 0, 0, 0),
  (14, [], .i2l, 0, 0, 0),
  (15, [], .jsr 0, 0, 0, 0),
  (16, [], .iload 2, 0, 0, 0),
  (17, [], .invokeinterface 156 5, 1, 148, 1183),
  (20, [], .i2l, 0, 0, 0),
  (21, [], .invokeinterface 143 13, 1, 114, 1152),
  (24, [], .ifCond .eq 37, 0, 0, 0),
  (27, [], .aload 0, 0, 0, 0),
  (28, [], .iload 4, 1, 0, 0),
  (30, [], .iload 3, 0, 0, 0),
  (31, [], .invokeinterface 147 653, 0, 152, 1186),
  (34, [], .goto 38, 0, 0, 0),
  (37, [], .iconst (-1), 0, 0, 0),
  (38, [], .ireturn, 0, 0, 0)]
theorem tk_Mo_mend : pm_okT M_Mo_mend T_Mo_mend = true := by decide +kernel
theorem ok_Mo_mend : pm_okm M_Mo_mend := pm_okm_of _ 1171 85 1169 1170 (by decide +kernel)
set_option maxRecDepth 100000 in
set_option maxHeartbeats 4000000 in
theorem m_Mo_mend {d : Nat} {H : pmT} {Q : pmQ} (a1 : Int32) (a2 : Int32) (a3 : Int32)
    (h : pm_R d M_Mo_placeOf [.ref 55, .int a1, .int a2] H (pm_i (fun x2 H1 => (x2 < 0 → Q (some (.int (-1 : Int32))) H1) ∧ (¬ x2 < 0 → (a2 = (0 : Int32) → ((lg_cmp a3.toInt64 (0 : Int64)) < 0 → Q (some (.int (-1 : Int32))) H1) ∧ (¬ (lg_cmp a3.toInt64 (0 : Int64)) < 0 → (0 < (lg_cmp a3.toInt64 ((999 : Int32).toInt64)) → Q (some (.int (-1 : Int32))) H1) ∧ (¬ 0 < (lg_cmp a3.toInt64 ((999 : Int32).toInt64)) → pm_R d M_Mo_becomes [.ref 55, .int x2, .int a3] H1 (pm_i (fun x50 H49 => Q (some (.int x50)) H49))))) ∧ (¬ a2 = (0 : Int32) → (a2 = (1 : Int32) → ((lg_cmp a3.toInt64 (0 : Int64)) < 0 → Q (some (.int (-1 : Int32))) H1) ∧ (¬ (lg_cmp a3.toInt64 (0 : Int64)) < 0 → (0 < (lg_cmp a3.toInt64 ((999 : Int32).toInt64)) → Q (some (.int (-1 : Int32))) H1) ∧ (¬ 0 < (lg_cmp a3.toInt64 ((999 : Int32).toInt64)) → pm_R d M_Mo_becomes [.ref 55, .int x2, .int a3] H1 (pm_i (fun x44 H43 => Q (some (.int x44)) H43))))) ∧ (¬ a2 = (1 : Int32) → (a2 = (2 : Int32) → ((lg_cmp a3.toInt64 (0 : Int64)) < 0 → Q (some (.int (-1 : Int32))) H1) ∧ (¬ (lg_cmp a3.toInt64 (0 : Int64)) < 0 → (0 < (lg_cmp a3.toInt64 ((1 : Int32).toInt64)) → Q (some (.int (-1 : Int32))) H1) ∧ (¬ 0 < (lg_cmp a3.toInt64 ((1 : Int32).toInt64)) → pm_R d M_Mo_becomes [.ref 55, .int x2, .int a3] H1 (pm_i (fun x38 H37 => Q (some (.int x38)) H37))))) ∧ (¬ a2 = (2 : Int32) → (a2 = (3 : Int32) → ((lg_cmp a3.toInt64 (0 : Int64)) < 0 → Q (some (.int (-1 : Int32))) H1) ∧ (¬ (lg_cmp a3.toInt64 (0 : Int64)) < 0 → (0 < (lg_cmp a3.toInt64 ((99 : Int32).toInt64)) → Q (some (.int (-1 : Int32))) H1) ∧ (¬ 0 < (lg_cmp a3.toInt64 ((99 : Int32).toInt64)) → pm_R d M_Mo_becomes [.ref 55, .int x2, .int a3] H1 (pm_i (fun x32 H31 => Q (some (.int x32)) H31))))) ∧ (¬ a2 = (3 : Int32) → (a2 = (4 : Int32) → ((lg_cmp a3.toInt64 (0 : Int64)) < 0 → Q (some (.int (-1 : Int32))) H1) ∧ (¬ (lg_cmp a3.toInt64 (0 : Int64)) < 0 → (0 < (lg_cmp a3.toInt64 ((99 : Int32).toInt64)) → Q (some (.int (-1 : Int32))) H1) ∧ (¬ 0 < (lg_cmp a3.toInt64 ((99 : Int32).toInt64)) → pm_R d M_Mo_becomes [.ref 55, .int x2, .int a3] H1 (pm_i (fun x26 H25 => Q (some (.int x26)) H25))))) ∧ (¬ a2 = (4 : Int32) → (a2 = (5 : Int32) → ((lg_cmp a3.toInt64 (0 : Int64)) < 0 → Q (some (.int (-1 : Int32))) H1) ∧ (¬ (lg_cmp a3.toInt64 (0 : Int64)) < 0 → (0 < (lg_cmp a3.toInt64 ((12 : Int32).toInt64)) → Q (some (.int (-1 : Int32))) H1) ∧ (¬ 0 < (lg_cmp a3.toInt64 ((12 : Int32).toInt64)) → pm_R d M_Mo_becomes [.ref 55, .int x2, .int a3] H1 (pm_i (fun x20 H19 => Q (some (.int x20)) H19))))) ∧ (¬ a2 = (5 : Int32) → (a2 = (6 : Int32) → ((lg_cmp a3.toInt64 (0 : Int64)) < 0 → Q (some (.int (-1 : Int32))) H1) ∧ (¬ (lg_cmp a3.toInt64 (0 : Int64)) < 0 → (0 < (lg_cmp a3.toInt64 ((9 : Int32).toInt64)) → Q (some (.int (-1 : Int32))) H1) ∧ (¬ 0 < (lg_cmp a3.toInt64 ((9 : Int32).toInt64)) → pm_R d M_Mo_becomes [.ref 55, .int x2, .int a3] H1 (pm_i (fun x14 H13 => Q (some (.int x14)) H13))))) ∧ (¬ a2 = (6 : Int32) → ((lg_cmp a3.toInt64 (0 : Int64)) < 0 → Q (some (.int (-1 : Int32))) H1) ∧ (¬ (lg_cmp a3.toInt64 (0 : Int64)) < 0 → (0 < (lg_cmp a3.toInt64 ((99 : Int32).toInt64)) → Q (some (.int (-1 : Int32))) H1) ∧ (¬ 0 < (lg_cmp a3.toInt64 ((99 : Int32).toInt64)) → pm_R d M_Mo_becomes [.ref 55, .int x2, .int a3] H1 (pm_i (fun x8 H7 => Q (some (.int x8)) H7))))))))))))))) : pm_R (d + 1) M_Mo_mend [.ref 55, .int a1, .int a2, .int a3] H Q :=
  pm_walk (n := 21) ok_Mo_mend tk_Mo_mend rfl (Nat.le_of_ble_eq_true rfl) (show pm_R d M_Mo_placeOf [.ref 55, .int a1, .int a2] H (pm_i (fun x2 H1 => (x2 < 0 → Q (some (.int (-1 : Int32))) H1) ∧ (¬ x2 < 0 → pm_R d M_Mo_greatest [.int a2] H1 (pm_i (fun x4 H3 => pm_R d M_Mo_within [.long a3.toInt64, .long (0 : Int64), .long x4.toInt64] H3 (pm_i (fun x6 H5 => (x6 = 0 → Q (some (.int (-1 : Int32))) H5) ∧ (¬ x6 = 0 → pm_R d M_Mo_becomes [.ref 55, .int x2, .int a3] H5 (pm_i (fun x8 H7 => Q (some (.int x8)) H7)))))))))) from pm_mi h (fun x2 H1 z1 => ⟨fun q2 => (z1.1 q2), fun q2 => u_Mo_greatest a2 (⟨fun q3 => u_Mo_within a3.toInt64 (0 : Int64) ((999 : Int32).toInt64) (⟨fun q4 => ⟨Or.inl rfl, ⟨fun _ => (((z1.2 q2).1 q3).1 q4), fun z => absurd (by decide) z⟩⟩, fun q4 => ⟨fun q5 => ⟨Or.inl rfl, ⟨fun _ => ((((z1.2 q2).1 q3).2 q4).1 q5), fun z => absurd (by decide) z⟩⟩, fun q5 => ⟨Or.inr rfl, ⟨fun z => absurd z (by decide), fun _ => ((((z1.2 q2).1 q3).2 q4).2 q5)⟩⟩⟩⟩), fun q3 => ⟨fun q7 => u_Mo_within a3.toInt64 (0 : Int64) ((999 : Int32).toInt64) (⟨fun q8 => ⟨Or.inl rfl, ⟨fun _ => ((((z1.2 q2).2 q3).1 q7).1 q8), fun z => absurd (by decide) z⟩⟩, fun q8 => ⟨fun q9 => ⟨Or.inl rfl, ⟨fun _ => (((((z1.2 q2).2 q3).1 q7).2 q8).1 q9), fun z => absurd (by decide) z⟩⟩, fun q9 => ⟨Or.inr rfl, ⟨fun z => absurd z (by decide), fun _ => (((((z1.2 q2).2 q3).1 q7).2 q8).2 q9)⟩⟩⟩⟩), fun q7 => ⟨fun q11 => u_Mo_within a3.toInt64 (0 : Int64) ((1 : Int32).toInt64) (⟨fun q12 => ⟨Or.inl rfl, ⟨fun _ => (((((z1.2 q2).2 q3).2 q7).1 q11).1 q12), fun z => absurd (by decide) z⟩⟩, fun q12 => ⟨fun q13 => ⟨Or.inl rfl, ⟨fun _ => ((((((z1.2 q2).2 q3).2 q7).1 q11).2 q12).1 q13), fun z => absurd (by decide) z⟩⟩, fun q13 => ⟨Or.inr rfl, ⟨fun z => absurd z (by decide), fun _ => ((((((z1.2 q2).2 q3).2 q7).1 q11).2 q12).2 q13)⟩⟩⟩⟩), fun q11 => ⟨fun q15 => u_Mo_within a3.toInt64 (0 : Int64) ((99 : Int32).toInt64) (⟨fun q16 => ⟨Or.inl rfl, ⟨fun _ => ((((((z1.2 q2).2 q3).2 q7).2 q11).1 q15).1 q16), fun z => absurd (by decide) z⟩⟩, fun q16 => ⟨fun q17 => ⟨Or.inl rfl, ⟨fun _ => (((((((z1.2 q2).2 q3).2 q7).2 q11).1 q15).2 q16).1 q17), fun z => absurd (by decide) z⟩⟩, fun q17 => ⟨Or.inr rfl, ⟨fun z => absurd z (by decide), fun _ => (((((((z1.2 q2).2 q3).2 q7).2 q11).1 q15).2 q16).2 q17)⟩⟩⟩⟩), fun q15 => ⟨fun q19 => u_Mo_within a3.toInt64 (0 : Int64) ((99 : Int32).toInt64) (⟨fun q20 => ⟨Or.inl rfl, ⟨fun _ => (((((((z1.2 q2).2 q3).2 q7).2 q11).2 q15).1 q19).1 q20), fun z => absurd (by decide) z⟩⟩, fun q20 => ⟨fun q21 => ⟨Or.inl rfl, ⟨fun _ => ((((((((z1.2 q2).2 q3).2 q7).2 q11).2 q15).1 q19).2 q20).1 q21), fun z => absurd (by decide) z⟩⟩, fun q21 => ⟨Or.inr rfl, ⟨fun z => absurd z (by decide), fun _ => ((((((((z1.2 q2).2 q3).2 q7).2 q11).2 q15).1 q19).2 q20).2 q21)⟩⟩⟩⟩), fun q19 => ⟨fun q23 => u_Mo_within a3.toInt64 (0 : Int64) ((12 : Int32).toInt64) (⟨fun q24 => ⟨Or.inl rfl, ⟨fun _ => ((((((((z1.2 q2).2 q3).2 q7).2 q11).2 q15).2 q19).1 q23).1 q24), fun z => absurd (by decide) z⟩⟩, fun q24 => ⟨fun q25 => ⟨Or.inl rfl, ⟨fun _ => (((((((((z1.2 q2).2 q3).2 q7).2 q11).2 q15).2 q19).1 q23).2 q24).1 q25), fun z => absurd (by decide) z⟩⟩, fun q25 => ⟨Or.inr rfl, ⟨fun z => absurd z (by decide), fun _ => (((((((((z1.2 q2).2 q3).2 q7).2 q11).2 q15).2 q19).1 q23).2 q24).2 q25)⟩⟩⟩⟩), fun q23 => ⟨fun q27 => u_Mo_within a3.toInt64 (0 : Int64) ((9 : Int32).toInt64) (⟨fun q28 => ⟨Or.inl rfl, ⟨fun _ => (((((((((z1.2 q2).2 q3).2 q7).2 q11).2 q15).2 q19).2 q23).1 q27).1 q28), fun z => absurd (by decide) z⟩⟩, fun q28 => ⟨fun q29 => ⟨Or.inl rfl, ⟨fun _ => ((((((((((z1.2 q2).2 q3).2 q7).2 q11).2 q15).2 q19).2 q23).1 q27).2 q28).1 q29), fun z => absurd (by decide) z⟩⟩, fun q29 => ⟨Or.inr rfl, ⟨fun z => absurd z (by decide), fun _ => ((((((((((z1.2 q2).2 q3).2 q7).2 q11).2 q15).2 q19).2 q23).1 q27).2 q28).2 q29)⟩⟩⟩⟩), fun q27 => u_Mo_within a3.toInt64 (0 : Int64) ((99 : Int32).toInt64) (⟨fun q31 => ⟨Or.inl rfl, ⟨fun _ => (((((((((z1.2 q2).2 q3).2 q7).2 q11).2 q15).2 q19).2 q23).2 q27).1 q31), fun z => absurd (by decide) z⟩⟩, fun q31 => ⟨fun q32 => ⟨Or.inl rfl, ⟨fun _ => ((((((((((z1.2 q2).2 q3).2 q7).2 q11).2 q15).2 q19).2 q23).2 q27).2 q31).1 q32), fun z => absurd (by decide) z⟩⟩, fun q32 => ⟨Or.inr rfl, ⟨fun z => absurd z (by decide), fun _ => ((((((((((z1.2 q2).2 q3).2 q7).2 q11).2 q15).2 q19).2 q23).2 q27).2 q31).2 q32)⟩⟩⟩⟩)⟩⟩⟩⟩⟩⟩⟩)⟩))
def T_Mo_of : List pmE := [
  (0, [], .aload 0, 0, 0, 0),
  (1, [], .iload 1, 0, 0, 0),
  (2, [], .iload 2, 0, 0, 0),
  (3, [], .invokeinterface 155 653, 0, 144, 1172),
  (6, [], .istore 3, 0, 0, 0),
  (7, [], .iload 3, 0, 0, 0),
  (8, [], .ifCond .lt 18, 0, 0, 0),
  (11, [], .aload 0, 0, 0, 0),
  (12, [], .getfield 576, 0, 11, 978),
  (15, [], .iload 3, 0, 0, 0),
  (16, [], .iaload, 0, 0, 0),
  (17, [], .ireturn, 0, 0, 0),
  (18, [], .aload 0, 0, 0, 0),
  (19, [], .iload 1, 0, 0, 0),
  (20, [], .i2l, 0, 0, 0),
  (21, [], .invokeinterface 150 649, 0, 136, 1177),
  (24, [], .ifCond .ne 29, 0, 0, 0),
  (27, [], .iconst (-1), 0, 0, 0),
  (28, [], .ireturn, 0, 0, 0),
  (29, [], .iload 2, 0, 0, 0),
  (30, [], .iconst 10, 1, 0, 0),
  (32, [], .if_icmp .ne 44, 0, 0, 0),
  (35, [], .aload 0, 0, 0, 0),
  (36, [], .getfield 583, 0, 24, 985),
  (39, [], .iload 1, 0, 0, 0),
  (40, [], .iaload, 0, 0, 0),
  (41, [], .goto 60, 0, 0, 0),
  (44, [], .iload 2, 0, 0, 0),
  (45, [], .iconst 11, 1, 0, 0),
  (47, [], .if_icmp .ne 59, 0, 0, 0),
  (50, [], .aload 0, 0, 0, 0),
  (51, [], .getfield 584, 0, 27, 986),
  (54, [], .iload 1, 0, 0, 0),
  (55, [], .iaload, 0, 0, 0),
  (56, [], .goto 60, 0, 0, 0),
  (59, [], .iconst (-1), 0, 0, 0),
  (60, [], .ireturn, 0, 0, 0)]
theorem tk_Mo_of : pm_okT M_Mo_of T_Mo_of = true := by decide +kernel
theorem ok_Mo_of : pm_okm M_Mo_of := pm_okm_of _ 1193 85 1191 1192 (by decide +kernel)
set_option maxRecDepth 100000 in
set_option maxHeartbeats 4000000 in
theorem m_Mo_of {d : Nat} {H : pmT} {Q : pmQ} (a1 : Int32) (a2 : Int32)
    (h : pm_R (d + 1) M_Mo_placeOf [.ref 55, .int a1, .int a2] H (pm_i (fun x2 H1 => (x2 < 0 → ((lg_cmp a1.toInt64 (0 : Int64)) < 0 → Q (some (.int (-1 : Int32))) H1) ∧ (¬ (lg_cmp a1.toInt64 (0 : Int64)) < 0 → (0 < (lg_cmp a1.toInt64 (((H1.1 55 6) - (1 : Int32)).toInt64)) → Q (some (.int (-1 : Int32))) H1) ∧ (¬ 0 < (lg_cmp a1.toInt64 (((H1.1 55 6) - (1 : Int32)).toInt64)) → (¬ a2 = (10 : Int32) → (¬ a2 = (11 : Int32) → Q (some (.int (-1 : Int32))) H1) ∧ (a2 = (11 : Int32) → vp_in a1 12 ∧ (Q (some (.int (H1.1 61 a1.toNatClampNeg))) H1))) ∧ (a2 = (10 : Int32) → vp_in a1 12 ∧ (Q (some (.int (H1.1 60 a1.toNatClampNeg))) H1))))) ∧ (¬ x2 < 0 → vp_in x2 41 ∧ (Q (some (.int (H1.1 56 x2.toNatClampNeg))) H1))))) : pm_R (d + 2) M_Mo_of [.ref 55, .int a1, .int a2] H Q :=
  pm_walk (n := 24) ok_Mo_of tk_Mo_of rfl (Nat.le_of_ble_eq_true rfl) (show pm_R (d + 1) M_Mo_placeOf [.ref 55, .int a1, .int a2] H (pm_i (fun x2 H1 => (x2 < 0 → pm_R (d + 1) M_Mo_isBar [.ref 55, .long a1.toInt64] H1 (pm_i (fun x4 H3 => (¬ x4 = 0 → (¬ a2 = (10 : Int32) → (¬ a2 = (11 : Int32) → Q (some (.int (-1 : Int32))) H3) ∧ (a2 = (11 : Int32) → vp_in a1 12 ∧ (Q (some (.int (H3.1 61 a1.toNatClampNeg))) H3))) ∧ (a2 = (10 : Int32) → vp_in a1 12 ∧ (Q (some (.int (H3.1 60 a1.toNatClampNeg))) H3))) ∧ (x4 = 0 → Q (some (.int (-1 : Int32))) H3)))) ∧ (¬ x2 < 0 → vp_in x2 41 ∧ (Q (some (.int (H1.1 56 x2.toNatClampNeg))) H1)))) from pm_mi h (fun x2 H1 z1 => ⟨fun q2 => u_Mo_isBar a1.toInt64 (u_Mo_within a1.toInt64 (0 : Int64) (((H1.1 55 6) - (1 : Int32)).toInt64) (⟨fun q3 => ⟨Or.inl rfl, ⟨Or.inl rfl, ⟨fun z => absurd (by decide) z, fun _ => ((z1.1 q2).1 q3)⟩⟩⟩, fun q3 => ⟨fun q4 => ⟨Or.inl rfl, ⟨Or.inl rfl, ⟨fun z => absurd (by decide) z, fun _ => (((z1.1 q2).2 q3).1 q4)⟩⟩⟩, fun q4 => ⟨Or.inr rfl, ⟨Or.inr rfl, ⟨fun _ => ⟨fun q5 => ⟨fun q6 => (((((z1.1 q2).2 q3).2 q4).1 q5).1 q6), fun q6 => ⟨(((((z1.1 q2).2 q3).2 q4).1 q5).2 q6).1, (((((z1.1 q2).2 q3).2 q4).1 q5).2 q6).2⟩⟩, fun q5 => ⟨((((z1.1 q2).2 q3).2 q4).2 q5).1, ((((z1.1 q2).2 q3).2 q4).2 q5).2⟩⟩, fun z => absurd z (by decide)⟩⟩⟩⟩⟩)), fun q2 => ⟨(z1.2 q2).1, (z1.2 q2).2⟩⟩))
def T_Mo_feed : List pmE := [
  (0, [], .iload 1, 0, 0, 0),
  (1, [], .i2l, 0, 0, 0),
  (2, [], .jsr 0, 0, 0, 0),
  (3, [], .jsr 255, 1, 155, 1198),
  (6, [], .invokeinterface 143 13, 1, 114, 1152),
  (9, [], .ifCond .ne 14, 0, 0, 0),
  (12, [], .iconst (-1), 0, 0, 0),
  (13, [], .ireturn, 0, 0, 0),
  (14, [], .aload 0, 0, 0, 0),
  (15, [], .getfield 586, 0, 157, 988),
  (18, [], .iconst 120, 1, 0, 0),
  (20, [], .if_icmp .ne 26, 0, 0, 0),
  (23, [], .iconst (-3), 1, 0, 0),
  (25, [], .ireturn, 0, 0, 0),
  (26, [], .aload 0, 0, 0, 0),
  (27, [], .getfield 585, 0, 30, 987),
  (30, [], .aload 0, 0, 0, 0),
  (31, [], .getfield 586, 0, 157, 988),
  (34, [], .iload 1, 0, 0, 0),
  (35, [], .iastore, 0, 0, 0),
  (36, [], .aload 0, 0, 0, 0),
  (37, [], .dup, 0, 0, 0),
  (38, [], .getfield 586, 0, 157, 988),
  (41, [], .iconst 1, 0, 0, 0),
  (42, [], .iadd, 0, 0, 0),
  (43, [], .putfield 586, 0, 157, 988),
  (46, [], .aload 0, 0, 0, 0),
  (47, [], .getfield 586, 0, 157, 988),
  (50, [], .ireturn, 0, 0, 0)]
theorem tk_Mo_feed : pm_okT M_Mo_feed T_Mo_feed = true := by decide +kernel
theorem ok_Mo_feed : pm_okm M_Mo_feed := pm_okm_of _ 1197 85 1195 1196 (by decide +kernel)
set_option maxRecDepth 100000 in
set_option maxHeartbeats 4000000 in
theorem m_Mo_feed {d : Nat} {H : pmT} {Q : pmQ} (a1 : Int32)
    (h : ((lg_cmp a1.toInt64 (0 : Int64)) < 0 → Q (some (.int (-1 : Int32))) H) ∧ (¬ (lg_cmp a1.toInt64 (0 : Int64)) < 0 → (0 < (lg_cmp a1.toInt64 (255 : Int64)) → Q (some (.int (-1 : Int32))) H) ∧ (¬ 0 < (lg_cmp a1.toInt64 (255 : Int64)) → (¬ (H.1 55 10) = (120 : Int32) → vp_in (H.1 55 10) 120 ∧ (Q (some (.int ((H.1 55 10) + (1 : Int32)))) ((pm_up (pm_up H.1 62 ((H.1 55 10).toNatClampNeg) a1) 55 10 ((H.1 55 10) + (1 : Int32))), H.2))) ∧ ((H.1 55 10) = (120 : Int32) → Q (some (.int (-3 : Int32))) H)))) : pm_R (d + 1) M_Mo_feed [.ref 55, .int a1] H Q :=
  pm_walk (n := 25) ok_Mo_feed tk_Mo_feed rfl (Nat.le_of_ble_eq_true rfl) (show pm_R d M_Mo_within [.long a1.toInt64, .long (0 : Int64), .long (255 : Int64)] H (pm_i (fun x2 H1 => (¬ x2 = 0 → (¬ (H1.1 55 10) = (120 : Int32) → vp_in (H1.1 55 10) 120 ∧ (Q (some (.int ((H1.1 55 10) + (1 : Int32)))) ((pm_up (pm_up H1.1 62 ((H1.1 55 10).toNatClampNeg) a1) 55 10 ((H1.1 55 10) + (1 : Int32))), H1.2))) ∧ ((H1.1 55 10) = (120 : Int32) → Q (some (.int (-3 : Int32))) H1)) ∧ (x2 = 0 → Q (some (.int (-1 : Int32))) H1))) from u_Mo_within a1.toInt64 (0 : Int64) (255 : Int64) (⟨fun q1 => ⟨Or.inl rfl, ⟨fun z => absurd (by decide) z, fun _ => (h.1 q1)⟩⟩, fun q1 => ⟨fun q2 => ⟨Or.inl rfl, ⟨fun z => absurd (by decide) z, fun _ => ((h.2 q1).1 q2)⟩⟩, fun q2 => ⟨Or.inr rfl, ⟨fun _ => ⟨fun q3 => ⟨(((h.2 q1).2 q2).1 q3).1, (((h.2 q1).2 q2).1 q3).2⟩, fun q3 => (((h.2 q1).2 q2).2 q3)⟩, fun z => absurd z (by decide)⟩⟩⟩⟩))
def T_Mo_byteAt : List pmE := [
  (0, [], .aload 0, 0, 0, 0),
  (1, [], .getfield 590, 0, 160, 992),
  (4, [], .aload 0, 0, 0, 0),
  (5, [], .getfield 591, 0, 163, 993),
  (8, [], .if_icmp .ge 47, 0, 0, 0),
  (11, [], .aload 0, 0, 0, 0),
  (12, [], .getfield 589, 0, 166, 991),
  (15, [], .ifCond .ge 30, 0, 0, 0),
  (18, [], .aload 0, 0, 0, 0),
  (19, [], .getfield 585, 0, 30, 987),
  (22, [], .aload 0, 0, 0, 0),
  (23, [], .getfield 590, 0, 160, 992),
  (26, [], .iaload, 0, 0, 0),
  (27, [], .goto 48, 0, 0, 0),
  (30, [], .aload 0, 0, 0, 0),
  (31, [], .getfield 587, 0, 33, 989),
  (34, [], .aload 0, 0, 0, 0),
  (35, [], .getfield 589, 0, 166, 991),
  (38, [], .aload 0, 0, 0, 0),
  (39, [], .getfield 590, 0, 160, 992),
  (42, [], .iadd, 0, 0, 0),
  (43, [], .iaload, 0, 0, 0),
  (44, [], .goto 48, 0, 0, 0),
  (47, [], .iconst 0, 0, 0, 0),
  (48, [], .ireturn, 0, 0, 0)]
theorem tk_Mo_byteAt : pm_okT M_Mo_byteAt T_Mo_byteAt = true := by decide +kernel
theorem ok_Mo_byteAt : pm_okm M_Mo_byteAt := pm_okm_of _ 1234 85 1233 38 (by decide +kernel)
set_option maxRecDepth 100000 in
set_option maxHeartbeats 4000000 in
theorem m_Mo_byteAt {d : Nat} {H : pmT} {Q : pmQ} 
    (h : ((H.1 55 15) ≤ (H.1 55 14) → Q (some (.int (0 : Int32))) H) ∧ (¬ (H.1 55 15) ≤ (H.1 55 14) → (0 ≤ (H.1 55 13) → vp_in ((H.1 55 13) + (H.1 55 14)) 120 ∧ (Q (some (.int (H.1 63 (((H.1 55 13) + (H.1 55 14)).toNatClampNeg)))) H)) ∧ (¬ 0 ≤ (H.1 55 13) → vp_in (H.1 55 14) 120 ∧ (Q (some (.int (H.1 62 ((H.1 55 14).toNatClampNeg)))) H)))) : pm_R d M_Mo_byteAt [.ref 55] H Q :=
  pm_walk (n := 18) ok_Mo_byteAt tk_Mo_byteAt rfl (Nat.le_of_ble_eq_true rfl) (show ((H.1 55 15) ≤ (H.1 55 14) → Q (some (.int (0 : Int32))) H) ∧ (¬ (H.1 55 15) ≤ (H.1 55 14) → (0 ≤ (H.1 55 13) → vp_in ((H.1 55 13) + (H.1 55 14)) 120 ∧ (Q (some (.int (H.1 63 (((H.1 55 13) + (H.1 55 14)).toNatClampNeg)))) H)) ∧ (¬ 0 ≤ (H.1 55 13) → vp_in (H.1 55 14) 120 ∧ (Q (some (.int (H.1 62 ((H.1 55 14).toNatClampNeg)))) H))) from ⟨fun q1 => (h.1 q1), fun q1 => ⟨fun q2 => ⟨((h.2 q1).1 q2).1, ((h.2 q1).1 q2).2⟩, fun q2 => ⟨((h.2 q1).2 q2).1, ((h.2 q1).2 q2).2⟩⟩⟩)
def T_Mo_takes : List pmE := [
  (0, [], .aload 0, 0, 0, 0),
  (1, [], .getfield 592, 0, 169, 994),
  (4, [], .ifCond .ge 15, 0, 0, 0),
  (7, [], .aload 0, 0, 0, 0),
  (8, [], .invokeinterface 160 645, 0, 172, 1231),
  (11, [], .iload 1, 0, 0, 0),
  (12, [], .if_icmp .eq 17, 0, 0, 0),
  (15, [], .iconst 0, 0, 0, 0),
  (16, [], .areturn, 0, 0, 0),
  (17, [], .aload 0, 0, 0, 0),
  (18, [], .dup, 0, 0, 0),
  (19, [], .getfield 590, 0, 160, 992),
  (22, [], .iconst 1, 0, 0, 0),
  (23, [], .iadd, 0, 0, 0),
  (24, [], .putfield 590, 0, 160, 992),
  (27, [], .iconst 1, 0, 0, 0),
  (28, [], .areturn, 0, 0, 0)]
theorem tk_Mo_takes : pm_okT M_Mo_takes T_Mo_takes = true := by decide +kernel
theorem ok_Mo_takes : pm_okm M_Mo_takes := pm_okm_of _ 1242 85 1241 40 (by decide +kernel)
set_option maxRecDepth 100000 in
set_option maxHeartbeats 4000000 in
theorem m_Mo_takes {d : Nat} {H : pmT} {Q : pmQ} (a1 : Int32)
    (h : (0 ≤ (H.1 55 16) → Q (some (.int (0 : Int32))) H) ∧ (¬ 0 ≤ (H.1 55 16) → pm_R d M_Mo_byteAt [.ref 55] H (pm_i (fun x2 H1 => (x2 = a1 → Q (some (.int (1 : Int32))) ((pm_up H1.1 55 14 ((H1.1 55 14) + (1 : Int32))), H1.2)) ∧ (¬ x2 = a1 → Q (some (.int (0 : Int32))) H1))))) : pm_R (d + 1) M_Mo_takes [.ref 55, .int a1] H Q :=
  pm_walk (n := 15) ok_Mo_takes tk_Mo_takes rfl (Nat.le_of_ble_eq_true rfl) (show (0 ≤ (H.1 55 16) → ((0 : Int32) = 0 ∨ (0 : Int32) = 1) ∧ (Q (some (.int (0 : Int32))) H)) ∧ (¬ 0 ≤ (H.1 55 16) → pm_R d M_Mo_byteAt [.ref 55] H (pm_i (fun x2 H1 => (x2 = a1 → ((1 : Int32) = 0 ∨ (1 : Int32) = 1) ∧ (Q (some (.int (1 : Int32))) ((pm_up H1.1 55 14 ((H1.1 55 14) + (1 : Int32))), H1.2))) ∧ (¬ x2 = a1 → ((0 : Int32) = 0 ∨ (0 : Int32) = 1) ∧ (Q (some (.int (0 : Int32))) H1))))) from ⟨fun q1 => ⟨Or.inl rfl, (h.1 q1)⟩, fun q1 => pm_mi (h.2 q1) (fun x2 H1 z2 => ⟨fun q3 => ⟨Or.inr rfl, (z2.1 q3)⟩, fun q3 => ⟨Or.inl rfl, (z2.2 q3)⟩⟩)⟩)
def T_Mo_either : List pmE := [
  (0, [], .aload 0, 0, 0, 0),
  (1, [], .invokeinterface 164 645, 0, 176, 1211),
  (4, [], .istore 1, 0, 0, 0),
  (5, [0, 1], .aload 0, 0, 0, 0),
  (6, [], .iconst 124, 1, 0, 0),
  (8, [], .invokeinterface 162 649, 0, 179, 1239),
  (11, [], .ifCond .eq 36, 0, 0, 0),
  (14, [], .aload 0, 0, 0, 0),
  (15, [], .invokeinterface 164 645, 0, 176, 1211),
  (18, [], .istore 2, 0, 0, 0),
  (19, [], .iload 1, 0, 0, 0),
  (20, [], .ifCond .ne 27, 0, 0, 0),
  (23, [], .iload 2, 0, 0, 0),
  (24, [], .ifCond .eq 31, 0, 0, 0),
  (27, [], .iconst 1, 0, 0, 0),
  (28, [], .goto 32, 0, 0, 0),
  (31, [], .iconst 0, 0, 0, 0),
  (32, [], .istore 1, 0, 0, 0),
  (33, [], .goto 5, 0, 0, 0),
  (36, [], .iload 1, 0, 0, 0),
  (37, [], .ireturn, 0, 0, 0)]
theorem tk_Mo_either : pm_okT M_Mo_either T_Mo_either = true := by decide +kernel
theorem ok_Mo_either : pm_okm M_Mo_either := pm_okm_of _ 1210 85 1209 32 (by decide +kernel)
set_option maxRecDepth 100000 in
set_option maxHeartbeats 4000000 in
theorem m_Mo_either {d : Nat} {H : pmT} {Q : pmQ} 
    (h : pm_R d M_Mo_both [.ref 55] H (pm_i (fun x2 H1 => pm_RW none (d + 1) M_Mo_either Q 5 [(0, .ref 55), (1, .int x2)] [] H1))) : pm_R (d + 1) M_Mo_either [.ref 55] H Q :=
  pm_walk (n := 4) ok_Mo_either tk_Mo_either rfl (Nat.le_of_ble_eq_true rfl) (show pm_R d M_Mo_both [.ref 55] H (pm_i (fun x2 H1 => pm_RW none (d + 1) M_Mo_either Q 5 [(0, .ref 55), (1, .int x2)] [] H1)) from h)
set_option maxRecDepth 100000 in
set_option maxHeartbeats 4000000 in
theorem b_Mo_either_5 {d : Nat} {H : pmT} {Q : pmQ} (v1 : Int32)
    (h : pm_R d M_Mo_takes [.ref 55, .int (124 : Int32)] H (pm_i (fun x2 H1 => (x2 = 0 → Q (some (.int v1)) H1) ∧ (¬ x2 = 0 → pm_R d M_Mo_both [.ref 55] H1 (pm_i (fun x4 H3 => (¬ v1 = 0 → pm_RW none (d + 1) M_Mo_either Q 5 [(0, .ref 55), (1, .int (1 : Int32))] [] H3) ∧ (v1 = 0 → (x4 = 0 → pm_RW none (d + 1) M_Mo_either Q 5 [(0, .ref 55), (1, .int (0 : Int32))] [] H3) ∧ (¬ x4 = 0 → pm_RW none (d + 1) M_Mo_either Q 5 [(0, .ref 55), (1, .int (1 : Int32))] [] H3)))))))) : pm_RW none (d + 1) M_Mo_either Q 5 [(0, .ref 55), (1, .int v1)] [] H :=
  pm_body tk_Mo_either 15 5 (show pm_R d M_Mo_takes [.ref 55, .int (124 : Int32)] H (pm_i (fun x2 H1 => (x2 = 0 → Q (some (.int v1)) H1) ∧ (¬ x2 = 0 → pm_R d M_Mo_both [.ref 55] H1 (pm_i (fun x4 H3 => (¬ v1 = 0 → pm_RW none (d + 1) M_Mo_either Q 5 [(0, .ref 55), (1, .int (1 : Int32))] [] H3) ∧ (v1 = 0 → (x4 = 0 → pm_RW none (d + 1) M_Mo_either Q 5 [(0, .ref 55), (1, .int (0 : Int32))] [] H3) ∧ (¬ x4 = 0 → pm_RW none (d + 1) M_Mo_either Q 5 [(0, .ref 55), (1, .int (1 : Int32))] [] H3))))))) from pm_mi h (fun x2 H1 z1 => ⟨fun q2 => (z1.1 q2), fun q2 => pm_mi (z1.2 q2) (fun x4 H3 z3 => ⟨fun q4 => (z3.1 q4), fun q4 => ⟨fun q5 => ((z3.2 q4).1 q5), fun q5 => ((z3.2 q4).2 q5)⟩⟩)⟩))
def T_Mo_both : List pmE := [
  (0, [], .aload 0, 0, 0, 0),
  (1, [], .invokeinterface 165 645, 0, 182, 1215),
  (4, [], .istore 1, 0, 0, 0),
  (5, [0, 1], .aload 0, 0, 0, 0),
  (6, [], .iconst 38, 1, 0, 0),
  (8, [], .invokeinterface 162 649, 0, 179, 1239),
  (11, [], .ifCond .eq 36, 0, 0, 0),
  (14, [], .aload 0, 0, 0, 0),
  (15, [], .invokeinterface 165 645, 0, 182, 1215),
  (18, [], .istore 2, 0, 0, 0),
  (19, [], .iload 1, 0, 0, 0),
  (20, [], .ifCond .eq 31, 0, 0, 0),
  (23, [], .iload 2, 0, 0, 0),
  (24, [], .ifCond .eq 31, 0, 0, 0),
  (27, [], .iconst 1, 0, 0, 0),
  (28, [], .goto 32, 0, 0, 0),
  (31, [], .iconst 0, 0, 0, 0),
  (32, [], .istore 1, 0, 0, 0),
  (33, [], .goto 5, 0, 0, 0),
  (36, [], .iload 1, 0, 0, 0),
  (37, [], .ireturn, 0, 0, 0)]
theorem tk_Mo_both : pm_okT M_Mo_both T_Mo_both = true := by decide +kernel
theorem ok_Mo_both : pm_okm M_Mo_both := pm_okm_of _ 1214 85 1213 33 (by decide +kernel)
set_option maxRecDepth 100000 in
set_option maxHeartbeats 4000000 in
theorem m_Mo_both {d : Nat} {H : pmT} {Q : pmQ} 
    (h : pm_R d M_Mo_compared [.ref 55] H (pm_i (fun x2 H1 => pm_RW none (d + 1) M_Mo_both Q 5 [(0, .ref 55), (1, .int x2)] [] H1))) : pm_R (d + 1) M_Mo_both [.ref 55] H Q :=
  pm_walk (n := 4) ok_Mo_both tk_Mo_both rfl (Nat.le_of_ble_eq_true rfl) (show pm_R d M_Mo_compared [.ref 55] H (pm_i (fun x2 H1 => pm_RW none (d + 1) M_Mo_both Q 5 [(0, .ref 55), (1, .int x2)] [] H1)) from h)
set_option maxRecDepth 100000 in
set_option maxHeartbeats 4000000 in
theorem b_Mo_both_5 {d : Nat} {H : pmT} {Q : pmQ} (v1 : Int32)
    (h : pm_R d M_Mo_takes [.ref 55, .int (38 : Int32)] H (pm_i (fun x2 H1 => (x2 = 0 → Q (some (.int v1)) H1) ∧ (¬ x2 = 0 → pm_R d M_Mo_compared [.ref 55] H1 (pm_i (fun x4 H3 => (v1 = 0 → pm_RW none (d + 1) M_Mo_both Q 5 [(0, .ref 55), (1, .int (0 : Int32))] [] H3) ∧ (¬ v1 = 0 → (x4 = 0 → pm_RW none (d + 1) M_Mo_both Q 5 [(0, .ref 55), (1, .int (0 : Int32))] [] H3) ∧ (¬ x4 = 0 → pm_RW none (d + 1) M_Mo_both Q 5 [(0, .ref 55), (1, .int (1 : Int32))] [] H3)))))))) : pm_RW none (d + 1) M_Mo_both Q 5 [(0, .ref 55), (1, .int v1)] [] H :=
  pm_body tk_Mo_both 15 5 (show pm_R d M_Mo_takes [.ref 55, .int (38 : Int32)] H (pm_i (fun x2 H1 => (x2 = 0 → Q (some (.int v1)) H1) ∧ (¬ x2 = 0 → pm_R d M_Mo_compared [.ref 55] H1 (pm_i (fun x4 H3 => (v1 = 0 → pm_RW none (d + 1) M_Mo_both Q 5 [(0, .ref 55), (1, .int (0 : Int32))] [] H3) ∧ (¬ v1 = 0 → (x4 = 0 → pm_RW none (d + 1) M_Mo_both Q 5 [(0, .ref 55), (1, .int (0 : Int32))] [] H3) ∧ (¬ x4 = 0 → pm_RW none (d + 1) M_Mo_both Q 5 [(0, .ref 55), (1, .int (1 : Int32))] [] H3))))))) from pm_mi h (fun x2 H1 z1 => ⟨fun q2 => (z1.1 q2), fun q2 => pm_mi (z1.2 q2) (fun x4 H3 z3 => ⟨fun q4 => (z3.1 q4), fun q4 => ⟨fun q5 => ((z3.2 q4).1 q5), fun q5 => ((z3.2 q4).2 q5)⟩⟩)⟩))
def T_Mo_compared : List pmE := [
  (0, [], .aload 0, 0, 0, 0),
  (1, [], .invokeinterface 166 645, 0, 185, 1219),
  (4, [], .istore 1, 0, 0, 0),
  (5, [], .aload 0, 0, 0, 0),
  (6, [], .invokeinterface 160 645, 0, 172, 1231),
  (9, [], .istore 2, 0, 0, 0),
  (10, [], .aload 0, 0, 0, 0),
  (11, [], .getfield 592, 0, 169, 994),
  (14, [], .ifCond .ge 35, 0, 0, 0),
  (17, [], .iload 2, 0, 0, 0),
  (18, [], .iconst 60, 1, 0, 0),
  (20, [], .if_icmp .eq 37, 0, 0, 0),
  (23, [], .iload 2, 0, 0, 0),
  (24, [], .iconst 61, 1, 0, 0),
  (26, [], .if_icmp .eq 37, 0, 0, 0),
  (29, [], .iload 2, 0, 0, 0),
  (30, [], .iconst 62, 1, 0, 0),
  (32, [], .if_icmp .eq 37, 0, 0, 0),
  (35, [], .iload 1, 0, 0, 0),
  (36, [], .ireturn, 0, 0, 0),
  (37, [], .aload 0, 0, 0, 0),
  (38, [], .dup, 0, 0, 0),
  (39, [], .getfield 590, 0, 160, 992),
  (42, [], .iconst 1, 0, 0, 0),
  (43, [], .iadd, 0, 0, 0),
  (44, [], .putfield 590, 0, 160, 992),
  (47, [], .aload 0, 0, 0, 0),
  (48, [], .invokeinterface 166 645, 0, 185, 1219),
  (51, [], .istore 3, 0, 0, 0),
  (52, [], .iload 2, 0, 0, 0),
  (53, [], .iconst 60, 1, 0, 0),
  (55, [], .if_icmp .ne 66, 0, 0, 0),
  (58, [], .iload 1, 0, 0, 0),
  (59, [], .iload 3, 0, 0, 0),
  (60, [], .if_icmp .ge 89, 0, 0, 0),
  (63, [], .goto 85, 0, 0, 0),
  (66, [], .iload 2, 0, 0, 0),
  (67, [], .iconst 61, 1, 0, 0),
  (69, [], .if_icmp .ne 80, 0, 0, 0),
  (72, [], .iload 1, 0, 0, 0),
  (73, [], .iload 3, 0, 0, 0),
  (74, [], .if_icmp .ne 89, 0, 0, 0),
  (77, [], .goto 85, 0, 0, 0),
  (80, [], .iload 1, 0, 0, 0),
  (81, [], .iload 3, 0, 0, 0),
  (82, [], .if_icmp .le 89, 0, 0, 0),
  (85, [], .iconst 1, 0, 0, 0),
  (86, [], .goto 90, 0, 0, 0),
  (89, [], .iconst 0, 0, 0, 0),
  (90, [], .ireturn, 0, 0, 0)]
theorem tk_Mo_compared : pm_okT M_Mo_compared T_Mo_compared = true := by decide +kernel
theorem ok_Mo_compared : pm_okm M_Mo_compared := pm_okm_of _ 1218 85 1217 34 (by decide +kernel)
set_option maxRecDepth 100000 in
set_option maxHeartbeats 4000000 in
theorem m_Mo_compared {d : Nat} {H : pmT} {Q : pmQ} 
    (h : pm_R d M_Mo_sums [.ref 55] H (pm_i (fun x2 H1 => pm_R d M_Mo_byteAt [.ref 55] H1 (pm_i (fun x4 H3 => (0 ≤ (H3.1 55 16) → Q (some (.int x2)) H3) ∧ (¬ 0 ≤ (H3.1 55 16) → (x4 = (60 : Int32) → pm_R d M_Mo_sums [.ref 55] ((pm_up H3.1 55 14 ((H3.1 55 14) + (1 : Int32))), H3.2) (pm_i (fun x6 H5 => (x6 ≤ x2 → Q (some (.int (0 : Int32))) H5) ∧ (¬ x6 ≤ x2 → Q (some (.int (1 : Int32))) H5)))) ∧ (¬ x4 = (60 : Int32) → (x4 = (61 : Int32) → pm_R d M_Mo_sums [.ref 55] ((pm_up H3.1 55 14 ((H3.1 55 14) + (1 : Int32))), H3.2) (pm_i (fun x8 H7 => (¬ x2 = x8 → Q (some (.int (0 : Int32))) H7) ∧ (x2 = x8 → Q (some (.int (1 : Int32))) H7)))) ∧ (¬ x4 = (61 : Int32) → (x4 = (62 : Int32) → pm_R d M_Mo_sums [.ref 55] ((pm_up H3.1 55 14 ((H3.1 55 14) + (1 : Int32))), H3.2) (pm_i (fun x10 H9 => (x2 ≤ x10 → Q (some (.int (0 : Int32))) H9) ∧ (¬ x2 ≤ x10 → Q (some (.int (1 : Int32))) H9)))) ∧ (¬ x4 = (62 : Int32) → Q (some (.int x2)) H3))))))))) : pm_R (d + 1) M_Mo_compared [.ref 55] H Q :=
  pm_walk (n := 40) ok_Mo_compared tk_Mo_compared rfl (Nat.le_of_ble_eq_true rfl) (show pm_R d M_Mo_sums [.ref 55] H (pm_i (fun x2 H1 => pm_R d M_Mo_byteAt [.ref 55] H1 (pm_i (fun x4 H3 => (0 ≤ (H3.1 55 16) → Q (some (.int x2)) H3) ∧ (¬ 0 ≤ (H3.1 55 16) → (x4 = (60 : Int32) → pm_R d M_Mo_sums [.ref 55] ((pm_up H3.1 55 14 ((H3.1 55 14) + (1 : Int32))), H3.2) (pm_i (fun x6 H5 => (¬ x4 = (60 : Int32) → (¬ x4 = (61 : Int32) → (x2 ≤ x6 → Q (some (.int (0 : Int32))) H5) ∧ (¬ x2 ≤ x6 → Q (some (.int (1 : Int32))) H5)) ∧ (x4 = (61 : Int32) → (¬ x2 = x6 → Q (some (.int (0 : Int32))) H5) ∧ (x2 = x6 → Q (some (.int (1 : Int32))) H5))) ∧ (x4 = (60 : Int32) → (x6 ≤ x2 → Q (some (.int (0 : Int32))) H5) ∧ (¬ x6 ≤ x2 → Q (some (.int (1 : Int32))) H5))))) ∧ (¬ x4 = (60 : Int32) → (x4 = (61 : Int32) → pm_R d M_Mo_sums [.ref 55] ((pm_up H3.1 55 14 ((H3.1 55 14) + (1 : Int32))), H3.2) (pm_i (fun x8 H7 => (¬ x4 = (60 : Int32) → (¬ x4 = (61 : Int32) → (x2 ≤ x8 → Q (some (.int (0 : Int32))) H7) ∧ (¬ x2 ≤ x8 → Q (some (.int (1 : Int32))) H7)) ∧ (x4 = (61 : Int32) → (¬ x2 = x8 → Q (some (.int (0 : Int32))) H7) ∧ (x2 = x8 → Q (some (.int (1 : Int32))) H7))) ∧ (x4 = (60 : Int32) → (x8 ≤ x2 → Q (some (.int (0 : Int32))) H7) ∧ (¬ x8 ≤ x2 → Q (some (.int (1 : Int32))) H7))))) ∧ (¬ x4 = (61 : Int32) → (x4 = (62 : Int32) → pm_R d M_Mo_sums [.ref 55] ((pm_up H3.1 55 14 ((H3.1 55 14) + (1 : Int32))), H3.2) (pm_i (fun x10 H9 => (¬ x4 = (60 : Int32) → (¬ x4 = (61 : Int32) → (x2 ≤ x10 → Q (some (.int (0 : Int32))) H9) ∧ (¬ x2 ≤ x10 → Q (some (.int (1 : Int32))) H9)) ∧ (x4 = (61 : Int32) → (¬ x2 = x10 → Q (some (.int (0 : Int32))) H9) ∧ (x2 = x10 → Q (some (.int (1 : Int32))) H9))) ∧ (x4 = (60 : Int32) → (x10 ≤ x2 → Q (some (.int (0 : Int32))) H9) ∧ (¬ x10 ≤ x2 → Q (some (.int (1 : Int32))) H9))))) ∧ (¬ x4 = (62 : Int32) → Q (some (.int x2)) H3)))))))) from pm_mi h (fun x2 H1 z1 => pm_mi z1 (fun x4 H3 z2 => ⟨fun q3 => (z2.1 q3), fun q3 => ⟨fun q4 => pm_mi ((z2.2 q3).1 q4) (fun x6 H5 z5 => ⟨fun z => absurd q4 z, fun _ => ⟨fun q6 => (z5.1 q6), fun q6 => (z5.2 q6)⟩⟩), fun q4 => ⟨fun q7 => pm_mi (((z2.2 q3).2 q4).1 q7) (fun x8 H7 z8 => ⟨fun _ => ⟨fun z => absurd q7 z, fun _ => ⟨fun q9 => (z8.1 q9), fun q9 => (z8.2 q9)⟩⟩, fun z => absurd z q4⟩), fun q7 => ⟨fun q10 => pm_mi ((((z2.2 q3).2 q4).2 q7).1 q10) (fun x10 H9 z11 => ⟨fun _ => ⟨fun _ => ⟨fun q12 => (z11.1 q12), fun q12 => (z11.2 q12)⟩, fun z => absurd z q7⟩, fun z => absurd z q4⟩), fun q10 => ((((z2.2 q3).2 q4).2 q7).2 q10)⟩⟩⟩⟩)))
def T_Mo_sums : List pmE := [
  (0, [], .aload 0, 0, 0, 0),
  (1, [], .invokeinterface 167 645, 0, 188, 1223),
  (4, [], .istore 1, 0, 0, 0),
  (5, [0, 1], .aload 0, 0, 0, 0),
  (6, [], .getfield 592, 0, 169, 994),
  (9, [], .ifCond .ge 77, 0, 0, 0),
  (12, [], .aload 0, 0, 0, 0),
  (13, [], .invokeinterface 160 645, 0, 172, 1231),
  (16, [], .iconst 43, 1, 0, 0),
  (18, [], .if_icmp .eq 30, 0, 0, 0),
  (21, [], .aload 0, 0, 0, 0),
  (22, [], .invokeinterface 160 645, 0, 172, 1231),
  (25, [], .iconst 45, 1, 0, 0),
  (27, [], .if_icmp .ne 77, 0, 0, 0),
  (30, [], .aload 0, 0, 0, 0),
  (31, [], .invokeinterface 160 645, 0, 172, 1231),
  (34, [], .iconst 43, 1, 0, 0),
  (36, [], .if_icmp .ne 43, 0, 0, 0),
  (39, [], .iconst 1, 0, 0, 0),
  (40, [], .goto 44, 0, 0, 0),
  (43, [], .iconst 0, 0, 0, 0),
  (44, [], .istore 2, 0, 0, 0),
  (45, [], .aload 0, 0, 0, 0),
  (46, [], .dup, 0, 0, 0),
  (47, [], .getfield 590, 0, 160, 992),
  (50, [], .iconst 1, 0, 0, 0),
  (51, [], .iadd, 0, 0, 0),
  (52, [], .putfield 590, 0, 160, 992),
  (55, [], .aload 0, 0, 0, 0),
  (56, [], .invokeinterface 167 645, 0, 188, 1223),
  (59, [], .istore 3, 0, 0, 0),
  (60, [], .iload 2, 0, 0, 0),
  (61, [], .ifCond .eq 70, 0, 0, 0),
  (64, [], .iload 1, 0, 0, 0),
  (65, [], .iload 3, 0, 0, 0),
  (66, [], .iadd, 0, 0, 0),
  (67, [], .goto 73, 0, 0, 0),
  (70, [], .iload 1, 0, 0, 0),
  (71, [], .iload 3, 0, 0, 0),
  (72, [], .isub, 0, 0, 0),
  (73, [], .istore 1, 0, 0, 0),
  (74, [], .goto 5, 0, 0, 0),
  (77, [], .iload 1, 0, 0, 0),
  (78, [], .ireturn, 0, 0, 0)]
theorem tk_Mo_sums : pm_okT M_Mo_sums T_Mo_sums = true := by decide +kernel
theorem ok_Mo_sums : pm_okm M_Mo_sums := pm_okm_of _ 1222 85 1221 35 (by decide +kernel)
set_option maxRecDepth 100000 in
set_option maxHeartbeats 4000000 in
theorem m_Mo_sums {d : Nat} {H : pmT} {Q : pmQ} 
    (h : pm_R d M_Mo_product [.ref 55] H (pm_i (fun x2 H1 => pm_RW none (d + 1) M_Mo_sums Q 5 [(0, .ref 55), (1, .int x2)] [] H1))) : pm_R (d + 1) M_Mo_sums [.ref 55] H Q :=
  pm_walk (n := 4) ok_Mo_sums tk_Mo_sums rfl (Nat.le_of_ble_eq_true rfl) (show pm_R d M_Mo_product [.ref 55] H (pm_i (fun x2 H1 => pm_RW none (d + 1) M_Mo_sums Q 5 [(0, .ref 55), (1, .int x2)] [] H1)) from h)
set_option maxRecDepth 100000 in
set_option maxHeartbeats 4000000 in
theorem b_Mo_sums_5 {d : Nat} {H : pmT} {Q : pmQ} (v1 : Int32)
    (h : (0 ≤ (H.1 55 16) → Q (some (.int v1)) H) ∧ (¬ 0 ≤ (H.1 55 16) → pm_R d M_Mo_byteAt [.ref 55] H (pm_i (fun x2 H1 => (x2 = (43 : Int32) → pm_R d M_Mo_byteAt [.ref 55] H1 (pm_i (fun x4 H3 => (¬ x4 = (43 : Int32) → pm_R d M_Mo_product [.ref 55] ((pm_up H3.1 55 14 ((H3.1 55 14) + (1 : Int32))), H3.2) (pm_i (fun x6 H5 => pm_RW none (d + 1) M_Mo_sums Q 5 [(0, .ref 55), (1, .int (v1 - x6))] [] H5))) ∧ (x4 = (43 : Int32) → pm_R d M_Mo_product [.ref 55] ((pm_up H3.1 55 14 ((H3.1 55 14) + (1 : Int32))), H3.2) (pm_i (fun x8 H7 => pm_RW none (d + 1) M_Mo_sums Q 5 [(0, .ref 55), (1, .int (v1 + x8))] [] H7)))))) ∧ (¬ x2 = (43 : Int32) → pm_R d M_Mo_byteAt [.ref 55] H1 (pm_i (fun x10 H9 => (¬ x10 = (45 : Int32) → Q (some (.int v1)) H9) ∧ (x10 = (45 : Int32) → pm_R d M_Mo_byteAt [.ref 55] H9 (pm_i (fun x12 H11 => (¬ x12 = (43 : Int32) → pm_R d M_Mo_product [.ref 55] ((pm_up H11.1 55 14 ((H11.1 55 14) + (1 : Int32))), H11.2) (pm_i (fun x14 H13 => pm_RW none (d + 1) M_Mo_sums Q 5 [(0, .ref 55), (1, .int (v1 - x14))] [] H13))) ∧ (x12 = (43 : Int32) → pm_R d M_Mo_product [.ref 55] ((pm_up H11.1 55 14 ((H11.1 55 14) + (1 : Int32))), H11.2) (pm_i (fun x16 H15 => pm_RW none (d + 1) M_Mo_sums Q 5 [(0, .ref 55), (1, .int (v1 + x16))] [] H15))))))))))))) : pm_RW none (d + 1) M_Mo_sums Q 5 [(0, .ref 55), (1, .int v1)] [] H :=
  pm_body tk_Mo_sums 35 5 (show (0 ≤ (H.1 55 16) → Q (some (.int v1)) H) ∧ (¬ 0 ≤ (H.1 55 16) → pm_R d M_Mo_byteAt [.ref 55] H (pm_i (fun x2 H1 => (x2 = (43 : Int32) → pm_R d M_Mo_byteAt [.ref 55] H1 (pm_i (fun x4 H3 => (¬ x4 = (43 : Int32) → pm_R d M_Mo_product [.ref 55] ((pm_up H3.1 55 14 ((H3.1 55 14) + (1 : Int32))), H3.2) (pm_i (fun x6 H5 => ((0 : Int32) = 0 → pm_RW none (d + 1) M_Mo_sums Q 5 [(0, .ref 55), (1, .int (v1 - x6))] [] H5) ∧ (¬ (0 : Int32) = 0 → pm_RW none (d + 1) M_Mo_sums Q 5 [(0, .ref 55), (1, .int (v1 + x6))] [] H5)))) ∧ (x4 = (43 : Int32) → pm_R d M_Mo_product [.ref 55] ((pm_up H3.1 55 14 ((H3.1 55 14) + (1 : Int32))), H3.2) (pm_i (fun x8 H7 => ((1 : Int32) = 0 → pm_RW none (d + 1) M_Mo_sums Q 5 [(0, .ref 55), (1, .int (v1 - x8))] [] H7) ∧ (¬ (1 : Int32) = 0 → pm_RW none (d + 1) M_Mo_sums Q 5 [(0, .ref 55), (1, .int (v1 + x8))] [] H7))))))) ∧ (¬ x2 = (43 : Int32) → pm_R d M_Mo_byteAt [.ref 55] H1 (pm_i (fun x10 H9 => (¬ x10 = (45 : Int32) → Q (some (.int v1)) H9) ∧ (x10 = (45 : Int32) → pm_R d M_Mo_byteAt [.ref 55] H9 (pm_i (fun x12 H11 => (¬ x12 = (43 : Int32) → pm_R d M_Mo_product [.ref 55] ((pm_up H11.1 55 14 ((H11.1 55 14) + (1 : Int32))), H11.2) (pm_i (fun x14 H13 => ((0 : Int32) = 0 → pm_RW none (d + 1) M_Mo_sums Q 5 [(0, .ref 55), (1, .int (v1 - x14))] [] H13) ∧ (¬ (0 : Int32) = 0 → pm_RW none (d + 1) M_Mo_sums Q 5 [(0, .ref 55), (1, .int (v1 + x14))] [] H13)))) ∧ (x12 = (43 : Int32) → pm_R d M_Mo_product [.ref 55] ((pm_up H11.1 55 14 ((H11.1 55 14) + (1 : Int32))), H11.2) (pm_i (fun x16 H15 => ((1 : Int32) = 0 → pm_RW none (d + 1) M_Mo_sums Q 5 [(0, .ref 55), (1, .int (v1 - x16))] [] H15) ∧ (¬ (1 : Int32) = 0 → pm_RW none (d + 1) M_Mo_sums Q 5 [(0, .ref 55), (1, .int (v1 + x16))] [] H15))))))))))))) from ⟨fun q1 => (h.1 q1), fun q1 => pm_mi (h.2 q1) (fun x2 H1 z2 => ⟨fun q3 => pm_mi (z2.1 q3) (fun x4 H3 z4 => ⟨fun q5 => pm_mi (z4.1 q5) (fun x6 H5 z6 => ⟨fun _ => z6, fun z => absurd (by decide) z⟩), fun q5 => pm_mi (z4.2 q5) (fun x8 H7 z7 => ⟨fun z => absurd z (by decide), fun _ => z7⟩)⟩), fun q3 => pm_mi (z2.2 q3) (fun x10 H9 z8 => ⟨fun q9 => (z8.1 q9), fun q9 => pm_mi (z8.2 q9) (fun x12 H11 z10 => ⟨fun q11 => pm_mi (z10.1 q11) (fun x14 H13 z12 => ⟨fun _ => z12, fun z => absurd (by decide) z⟩), fun q11 => pm_mi (z10.2 q11) (fun x16 H15 z13 => ⟨fun z => absurd z (by decide), fun _ => z13⟩)⟩)⟩)⟩)⟩)
def T_Mo_product : List pmE := [
  (0, [], .aload 0, 0, 0, 0),
  (1, [], .invokeinterface 169 645, 0, 191, 1227),
  (4, [], .istore 1, 0, 0, 0),
  (5, [], .aload 0, 0, 0, 0),
  (6, [], .invokeinterface 160 645, 0, 172, 1231),
  (9, [], .istore 2, 0, 0, 0),
  (10, [0, 1, 2], .aload 0, 0, 0, 0),
  (11, [], .getfield 592, 0, 169, 994),
  (14, [], .ifCond .ge 94, 0, 0, 0),
  (17, [], .iload 2, 0, 0, 0),
  (18, [], .iconst 42, 1, 0, 0),
  (20, [], .if_icmp .eq 35, 0, 0, 0),
  (23, [], .iload 2, 0, 0, 0),
  (24, [], .iconst 47, 1, 0, 0),
  (26, [], .if_icmp .eq 35, 0, 0, 0),
  (29, [], .iload 2, 0, 0, 0),
  (30, [], .iconst 37, 1, 0, 0),
  (32, [], .if_icmp .ne 94, 0, 0, 0),
  (35, [], .aload 0, 0, 0, 0),
  (36, [], .dup, 0, 0, 0),
  (37, [], .getfield 590, 0, 160, 992),
  (40, [], .iconst 1, 0, 0, 0),
  (41, [], .iadd, 0, 0, 0),
  (42, [], .putfield 590, 0, 160, 992),
  (45, [], .aload 0, 0, 0, 0),
  (46, [], .invokeinterface 169 645, 0, 191, 1227),
  (49, [], .istore 3, 0, 0, 0),
  (50, [], .iload 2, 0, 0, 0),
  (51, [], .iconst 42, 1, 0, 0),
  (53, [], .if_icmp .ne 62, 0, 0, 0),
  (56, [], .iload 1, 0, 0, 0),
  (57, [], .iload 3, 0, 0, 0),
  (58, [], .imul, 0, 0, 0),
  (59, [], .goto 85, 0, 0, 0),
  (62, [], .iload 3, 0, 0, 0),
  (63, [], .ifCond .ne 70, 0, 0, 0),
  (66, [], .iconst 0, 0, 0, 0),
  (67, [], .goto 85, 0, 0, 0),
  (70, [], .iload 2, 0, 0, 0),
  (71, [], .iconst 47, 1, 0, 0),
  (73, [], .if_icmp .ne 82, 0, 0, 0),
  (76, [], .iload 1, 0, 0, 0),
  (77, [], .iload 3, 0, 0, 0),
  (78, [], .idiv, 0, 0, 0),
  (79, [], .goto 85, 0, 0, 0),
  (82, [], .iload 1, 0, 0, 0),
  (83, [], .iload 3, 0, 0, 0),
  (84, [], .irem, 0, 0, 0),
  (85, [], .istore 1, 0, 0, 0),
  (86, [], .aload 0, 0, 0, 0),
  (87, [], .invokeinterface 160 645, 0, 172, 1231),
  (90, [], .istore 2, 0, 0, 0),
  (91, [], .goto 10, 0, 0, 0),
  (94, [], .iload 1, 0, 0, 0),
  (95, [], .ireturn, 0, 0, 0)]
theorem tk_Mo_product : pm_okT M_Mo_product T_Mo_product = true := by decide +kernel
theorem ok_Mo_product : pm_okm M_Mo_product := pm_okm_of _ 1226 85 1225 36 (by decide +kernel)
set_option maxRecDepth 100000 in
set_option maxHeartbeats 4000000 in
theorem m_Mo_product {d : Nat} {H : pmT} {Q : pmQ} 
    (h : pm_R d M_Mo_one [.ref 55] H (pm_i (fun x2 H1 => pm_R d M_Mo_byteAt [.ref 55] H1 (pm_i (fun x4 H3 => pm_RW none (d + 1) M_Mo_product Q 10 [(0, .ref 55), (1, .int x2), (2, .int x4)] [] H3))))) : pm_R (d + 1) M_Mo_product [.ref 55] H Q :=
  pm_walk (n := 7) ok_Mo_product tk_Mo_product rfl (Nat.le_of_ble_eq_true rfl) (show pm_R d M_Mo_one [.ref 55] H (pm_i (fun x2 H1 => pm_R d M_Mo_byteAt [.ref 55] H1 (pm_i (fun x4 H3 => pm_RW none (d + 1) M_Mo_product Q 10 [(0, .ref 55), (1, .int x2), (2, .int x4)] [] H3)))) from h)
set_option maxRecDepth 100000 in
set_option maxHeartbeats 4000000 in
theorem b_Mo_product_10 {d : Nat} {H : pmT} {Q : pmQ} (v1 : Int32) (v2 : Int32)
    (h : (0 ≤ (H.1 55 16) → Q (some (.int v1)) H) ∧ (¬ 0 ≤ (H.1 55 16) → (v2 = (42 : Int32) → pm_R d M_Mo_one [.ref 55] ((pm_up H.1 55 14 ((H.1 55 14) + (1 : Int32))), H.2) (pm_i (fun x2 H1 => pm_R d M_Mo_byteAt [.ref 55] H1 (pm_i (fun x10 H9 => pm_RW none (d + 1) M_Mo_product Q 10 [(0, .ref 55), (1, .int (v1 * x2)), (2, .int x10)] [] H9))))) ∧ (¬ v2 = (42 : Int32) → (v2 = (47 : Int32) → pm_R d M_Mo_one [.ref 55] ((pm_up H.1 55 14 ((H.1 55 14) + (1 : Int32))), H.2) (pm_i (fun x12 H11 => (¬ x12 = 0 → pm_R d M_Mo_byteAt [.ref 55] H11 (pm_i (fun x16 H15 => pm_RW none (d + 1) M_Mo_product Q 10 [(0, .ref 55), (1, .int (v1 / x12)), (2, .int x16)] [] H15))) ∧ (x12 = 0 → pm_R d M_Mo_byteAt [.ref 55] H11 (pm_i (fun x18 H17 => pm_RW none (d + 1) M_Mo_product Q 10 [(0, .ref 55), (1, .int (0 : Int32)), (2, .int x18)] [] H17)))))) ∧ (¬ v2 = (47 : Int32) → (¬ v2 = (37 : Int32) → Q (some (.int v1)) H) ∧ (v2 = (37 : Int32) → pm_R d M_Mo_one [.ref 55] ((pm_up H.1 55 14 ((H.1 55 14) + (1 : Int32))), H.2) (pm_i (fun x22 H21 => (¬ x22 = 0 → pm_R d M_Mo_byteAt [.ref 55] H21 (pm_i (fun x24 H23 => pm_RW none (d + 1) M_Mo_product Q 10 [(0, .ref 55), (1, .int (v1 - v1 / x22 * x22)), (2, .int x24)] [] H23))) ∧ (x22 = 0 → pm_R d M_Mo_byteAt [.ref 55] H21 (pm_i (fun x28 H27 => pm_RW none (d + 1) M_Mo_product Q 10 [(0, .ref 55), (1, .int (0 : Int32)), (2, .int x28)] [] H27)))))))))) : pm_RW none (d + 1) M_Mo_product Q 10 [(0, .ref 55), (1, .int v1), (2, .int v2)] [] H :=
  pm_body tk_Mo_product 38 10 (show (0 ≤ (H.1 55 16) → Q (some (.int v1)) H) ∧ (¬ 0 ≤ (H.1 55 16) → (v2 = (42 : Int32) → pm_R d M_Mo_one [.ref 55] ((pm_up H.1 55 14 ((H.1 55 14) + (1 : Int32))), H.2) (pm_i (fun x2 H1 => (¬ v2 = (42 : Int32) → (¬ x2 = 0 → (¬ v2 = (47 : Int32) → ¬ x2 = 0 ∧ (pm_R d M_Mo_byteAt [.ref 55] H1 (pm_i (fun x4 H3 => pm_RW none (d + 1) M_Mo_product Q 10 [(0, .ref 55), (1, .int (v1 - v1 / x2 * x2)), (2, .int x4)] [] H3)))) ∧ (v2 = (47 : Int32) → ¬ x2 = 0 ∧ (pm_R d M_Mo_byteAt [.ref 55] H1 (pm_i (fun x6 H5 => pm_RW none (d + 1) M_Mo_product Q 10 [(0, .ref 55), (1, .int (v1 / x2)), (2, .int x6)] [] H5))))) ∧ (x2 = 0 → pm_R d M_Mo_byteAt [.ref 55] H1 (pm_i (fun x8 H7 => pm_RW none (d + 1) M_Mo_product Q 10 [(0, .ref 55), (1, .int (0 : Int32)), (2, .int x8)] [] H7)))) ∧ (v2 = (42 : Int32) → pm_R d M_Mo_byteAt [.ref 55] H1 (pm_i (fun x10 H9 => pm_RW none (d + 1) M_Mo_product Q 10 [(0, .ref 55), (1, .int (v1 * x2)), (2, .int x10)] [] H9)))))) ∧ (¬ v2 = (42 : Int32) → (v2 = (47 : Int32) → pm_R d M_Mo_one [.ref 55] ((pm_up H.1 55 14 ((H.1 55 14) + (1 : Int32))), H.2) (pm_i (fun x12 H11 => (¬ v2 = (42 : Int32) → (¬ x12 = 0 → (¬ v2 = (47 : Int32) → ¬ x12 = 0 ∧ (pm_R d M_Mo_byteAt [.ref 55] H11 (pm_i (fun x14 H13 => pm_RW none (d + 1) M_Mo_product Q 10 [(0, .ref 55), (1, .int (v1 - v1 / x12 * x12)), (2, .int x14)] [] H13)))) ∧ (v2 = (47 : Int32) → ¬ x12 = 0 ∧ (pm_R d M_Mo_byteAt [.ref 55] H11 (pm_i (fun x16 H15 => pm_RW none (d + 1) M_Mo_product Q 10 [(0, .ref 55), (1, .int (v1 / x12)), (2, .int x16)] [] H15))))) ∧ (x12 = 0 → pm_R d M_Mo_byteAt [.ref 55] H11 (pm_i (fun x18 H17 => pm_RW none (d + 1) M_Mo_product Q 10 [(0, .ref 55), (1, .int (0 : Int32)), (2, .int x18)] [] H17)))) ∧ (v2 = (42 : Int32) → pm_R d M_Mo_byteAt [.ref 55] H11 (pm_i (fun x20 H19 => pm_RW none (d + 1) M_Mo_product Q 10 [(0, .ref 55), (1, .int (v1 * x12)), (2, .int x20)] [] H19)))))) ∧ (¬ v2 = (47 : Int32) → (¬ v2 = (37 : Int32) → Q (some (.int v1)) H) ∧ (v2 = (37 : Int32) → pm_R d M_Mo_one [.ref 55] ((pm_up H.1 55 14 ((H.1 55 14) + (1 : Int32))), H.2) (pm_i (fun x22 H21 => (¬ v2 = (42 : Int32) → (¬ x22 = 0 → (¬ v2 = (47 : Int32) → ¬ x22 = 0 ∧ (pm_R d M_Mo_byteAt [.ref 55] H21 (pm_i (fun x24 H23 => pm_RW none (d + 1) M_Mo_product Q 10 [(0, .ref 55), (1, .int (v1 - v1 / x22 * x22)), (2, .int x24)] [] H23)))) ∧ (v2 = (47 : Int32) → ¬ x22 = 0 ∧ (pm_R d M_Mo_byteAt [.ref 55] H21 (pm_i (fun x26 H25 => pm_RW none (d + 1) M_Mo_product Q 10 [(0, .ref 55), (1, .int (v1 / x22)), (2, .int x26)] [] H25))))) ∧ (x22 = 0 → pm_R d M_Mo_byteAt [.ref 55] H21 (pm_i (fun x28 H27 => pm_RW none (d + 1) M_Mo_product Q 10 [(0, .ref 55), (1, .int (0 : Int32)), (2, .int x28)] [] H27)))) ∧ (v2 = (42 : Int32) → pm_R d M_Mo_byteAt [.ref 55] H21 (pm_i (fun x30 H29 => pm_RW none (d + 1) M_Mo_product Q 10 [(0, .ref 55), (1, .int (v1 * x22)), (2, .int x30)] [] H29))))))))) from ⟨fun q1 => (h.1 q1), fun q1 => ⟨fun q2 => pm_mi ((h.2 q1).1 q2) (fun x2 H1 z3 => ⟨fun z => absurd q2 z, fun _ => z3⟩), fun q2 => ⟨fun q5 => pm_mi (((h.2 q1).2 q2).1 q5) (fun x12 H11 z6 => ⟨fun _ => ⟨fun q7 => ⟨fun z => absurd q5 z, fun _ => ⟨q7, (z6.1 q7)⟩⟩, fun q7 => (z6.2 q7)⟩, fun z => absurd z q2⟩), fun q5 => ⟨fun q10 => ((((h.2 q1).2 q2).2 q5).1 q10), fun q10 => pm_mi ((((h.2 q1).2 q2).2 q5).2 q10) (fun x22 H21 z11 => ⟨fun _ => ⟨fun q12 => ⟨fun _ => ⟨q12, (z11.1 q12)⟩, fun z => absurd z q5⟩, fun q12 => (z11.2 q12)⟩, fun z => absurd z q2⟩)⟩⟩⟩⟩)
def T_Mo_nameOf : List pmE := [
  (0, [], .iload 0, 0, 0, 0),
  (1, [], .lookupswitch 72 #[(109, 68), (110, 70), (111, 72), (112, 72), (113, 64), (114, 60), (115, 66), (116, 72), (117, 72), (118, 72), (119, 62)], 1, 59, 0),
  (60, [], .iconst 0, 0, 0, 0),
  (61, [], .ireturn, 0, 0, 0),
  (62, [], .iconst 1, 0, 0, 0),
  (63, [], .ireturn, 0, 0, 0),
  (64, [], .iconst 2, 0, 0, 0),
  (65, [], .ireturn, 0, 0, 0),
  (66, [], .iconst 3, 0, 0, 0),
  (67, [], .ireturn, 0, 0, 0),
  (68, [], .iconst 4, 0, 0, 0),
  (69, [], .ireturn, 0, 0, 0),
  (70, [], .iconst 5, 0, 0, 0),
  (71, [], .ireturn, 0, 0, 0),
  (72, [], .iconst (-1), 0, 0, 0),
  (73, [], .ireturn, 0, 0, 0)]
theorem tk_Mo_nameOf : pm_okT M_Mo_nameOf T_Mo_nameOf = true := by decide +kernel
theorem ok_Mo_nameOf : pm_okm M_Mo_nameOf := pm_okm_of _ 1245 85 1244 0 (by decide +kernel)
set_option maxRecDepth 100000 in
set_option maxHeartbeats 4000000 in
theorem m_Mo_nameOf {d : Nat} {H : pmT} {Q : pmQ} (a1 : Int32)
    (h : (a1 = (109 : Int32) → Q (some (.int (4 : Int32))) H) ∧ (¬ a1 = (109 : Int32) → (a1 = (110 : Int32) → Q (some (.int (5 : Int32))) H) ∧ (¬ a1 = (110 : Int32) → (a1 = (111 : Int32) → Q (some (.int (-1 : Int32))) H) ∧ (¬ a1 = (111 : Int32) → (a1 = (112 : Int32) → Q (some (.int (-1 : Int32))) H) ∧ (¬ a1 = (112 : Int32) → (a1 = (113 : Int32) → Q (some (.int (2 : Int32))) H) ∧ (¬ a1 = (113 : Int32) → (a1 = (114 : Int32) → Q (some (.int (0 : Int32))) H) ∧ (¬ a1 = (114 : Int32) → (a1 = (115 : Int32) → Q (some (.int (3 : Int32))) H) ∧ (¬ a1 = (115 : Int32) → (a1 = (116 : Int32) → Q (some (.int (-1 : Int32))) H) ∧ (¬ a1 = (116 : Int32) → (a1 = (117 : Int32) → Q (some (.int (-1 : Int32))) H) ∧ (¬ a1 = (117 : Int32) → (a1 = (118 : Int32) → Q (some (.int (-1 : Int32))) H) ∧ (¬ a1 = (118 : Int32) → (a1 = (119 : Int32) → Q (some (.int (1 : Int32))) H) ∧ (¬ a1 = (119 : Int32) → Q (some (.int (-1 : Int32))) H)))))))))))) : pm_R d M_Mo_nameOf [.int a1] H Q :=
  pm_walk (n := 4) ok_Mo_nameOf tk_Mo_nameOf rfl (Nat.le_of_ble_eq_true rfl) (show (a1 = (109 : Int32) → Q (some (.int (4 : Int32))) H) ∧ (¬ a1 = (109 : Int32) → (a1 = (110 : Int32) → Q (some (.int (5 : Int32))) H) ∧ (¬ a1 = (110 : Int32) → (a1 = (111 : Int32) → Q (some (.int (-1 : Int32))) H) ∧ (¬ a1 = (111 : Int32) → (a1 = (112 : Int32) → Q (some (.int (-1 : Int32))) H) ∧ (¬ a1 = (112 : Int32) → (a1 = (113 : Int32) → Q (some (.int (2 : Int32))) H) ∧ (¬ a1 = (113 : Int32) → (a1 = (114 : Int32) → Q (some (.int (0 : Int32))) H) ∧ (¬ a1 = (114 : Int32) → (a1 = (115 : Int32) → Q (some (.int (3 : Int32))) H) ∧ (¬ a1 = (115 : Int32) → (a1 = (116 : Int32) → Q (some (.int (-1 : Int32))) H) ∧ (¬ a1 = (116 : Int32) → (a1 = (117 : Int32) → Q (some (.int (-1 : Int32))) H) ∧ (¬ a1 = (117 : Int32) → (a1 = (118 : Int32) → Q (some (.int (-1 : Int32))) H) ∧ (¬ a1 = (118 : Int32) → (a1 = (119 : Int32) → Q (some (.int (1 : Int32))) H) ∧ (¬ a1 = (119 : Int32) → Q (some (.int (-1 : Int32))) H))))))))))) from ⟨fun q1 => (h.1 q1), fun q1 => ⟨fun q2 => ((h.2 q1).1 q2), fun q2 => ⟨fun q3 => (((h.2 q1).2 q2).1 q3), fun q3 => ⟨fun q4 => ((((h.2 q1).2 q2).2 q3).1 q4), fun q4 => ⟨fun q5 => (((((h.2 q1).2 q2).2 q3).2 q4).1 q5), fun q5 => ⟨fun q6 => ((((((h.2 q1).2 q2).2 q3).2 q4).2 q5).1 q6), fun q6 => ⟨fun q7 => (((((((h.2 q1).2 q2).2 q3).2 q4).2 q5).2 q6).1 q7), fun q7 => ⟨fun q8 => ((((((((h.2 q1).2 q2).2 q3).2 q4).2 q5).2 q6).2 q7).1 q8), fun q8 => ⟨fun q9 => (((((((((h.2 q1).2 q2).2 q3).2 q4).2 q5).2 q6).2 q7).2 q8).1 q9), fun q9 => ⟨fun q10 => ((((((((((h.2 q1).2 q2).2 q3).2 q4).2 q5).2 q6).2 q7).2 q8).2 q9).1 q10), fun q10 => ⟨fun q11 => (((((((((((h.2 q1).2 q2).2 q3).2 q4).2 q5).2 q6).2 q7).2 q8).2 q9).2 q10).1 q11), fun q11 => (((((((((((h.2 q1).2 q2).2 q3).2 q4).2 q5).2 q6).2 q7).2 q8).2 q9).2 q10).2 q11)⟩⟩⟩⟩⟩⟩⟩⟩⟩⟩⟩)
def T_Mo_one : List pmE := [
  (0, [], .aload 0, 0, 0, 0),
  (1, [], .getfield 592, 0, 169, 994),
  (4, [], .ifCond .lt 9, 0, 0, 0),
  (7, [], .iconst 0, 0, 0, 0),
  (8, [], .ireturn, 0, 0, 0),
  (9, [], .aload 0, 0, 0, 0),
  (10, [], .invokeinterface 160 645, 0, 172, 1231),
  (13, [], .istore 1, 0, 0, 0),
  (14, [], .iload 1, 0, 0, 0),
  (15, [], .iconst 33, 1, 0, 0),
  (17, [], .if_icmp .eq 32, 0, 0, 0),
  (20, [], .iload 1, 0, 0, 0),
  (21, [], .iconst 45, 1, 0, 0),
  (23, [], .if_icmp .eq 32, 0, 0, 0),
  (26, [], .iload 1, 0, 0, 0),
  (27, [], .iconst 40, 1, 0, 0),
  (29, [], .if_icmp .ne 145, 0, 0, 0),
  (32, [], .aload 0, 0, 0, 0),
  (33, [], .getfield 593, 0, 194, 995),
  (36, [], .iconst 6, 1, 0, 0),
  (38, [], .if_icmp .ne 46, 0, 0, 0),
  (41, [], .aload 0, 0, 0, 0),
  (42, [], .invokeinterface 161 645, 0, 197, 1235),
  (45, [], .ireturn, 0, 0, 0),
  (46, [], .aload 0, 0, 0, 0),
  (47, [], .dup, 0, 0, 0),
  (48, [], .getfield 593, 0, 194, 995),
  (51, [], .iconst 1, 0, 0, 0),
  (52, [], .iadd, 0, 0, 0),
  (53, [], .putfield 593, 0, 194, 995),
  (56, [], .aload 0, 0, 0, 0),
  (57, [], .dup, 0, 0, 0),
  (58, [], .getfield 590, 0, 160, 992),
  (61, [], .iconst 1, 0, 0, 0),
  (62, [], .iadd, 0, 0, 0),
  (63, [], .putfield 590, 0, 160, 992),
  (66, [], .iload 1, 0, 0, 0),
  (67, [], .iconst 40, 1, 0, 0),
  (69, [], .if_icmp .ne 79, 0, 0, 0),
  (72, [], .aload 0, 0, 0, 0),
  (73, [], .invokeinterface 163 645, 0, 200, 1207),
  (76, [], .goto 83, 0, 0, 0),
  (79, [], .aload 0, 0, 0, 0),
  (80, [], .invokeinterface 169 645, 0, 191, 1227),
  (83, [], .istore 2, 0, 0, 0),
  (84, [], .iload 1, 0, 0, 0),
  (85, [], .iconst 40, 1, 0, 0),
  (87, [], .if_icmp .ne 104, 0, 0, 0),
  (90, [], .aload 0, 0, 0, 0),
  (91, [], .iconst 41, 1, 0, 0),
  (93, [], .invokeinterface 162 649, 0, 179, 1239),
  (96, [], .ifCond .ne 104, 0, 0, 0),
  (99, [], .aload 0, 0, 0, 0),
  (100, [], .invokeinterface 161 645, 0, 197, 1235),
  (103, [], .ireturn, 0, 0, 0),
  (104, [], .aload 0, 0, 0, 0),
  (105, [], .dup, 0, 0, 0),
  (106, [], .getfield 593, 0, 194, 995),
  (109, [], .iconst 1, 0, 0, 0),
  (110, [], .isub, 0, 0, 0),
  (111, [], .putfield 593, 0, 194, 995),
  (114, [], .iload 1, 0, 0, 0),
  (115, [], .iconst 40, 1, 0, 0),
  (117, [], .if_icmp .ne 124, 0, 0, 0),
  (120, [], .iload 2, 0, 0, 0),
  (121, [], .goto 144, 0, 0, 0),
  (124, [], .iload 1, 0, 0, 0),
  (125, [], .iconst 45, 1, 0, 0),
  (127, [], .if_icmp .ne 135, 0, 0, 0),
  (130, [], .iload 2, 0, 0, 0),
  (131, [], .ineg, 0, 0, 0),
  (132, [], .goto 144, 0, 0, 0),
  (135, [], .iload 2, 0, 0, 0),
  (136, [], .ifCond .ne 143, 0, 0, 0),
  (139, [], .iconst 1, 0, 0, 0),
  (140, [], .goto 144, 0, 0, 0),
  (143, [], .iconst 0, 0, 0, 0),
  (144, [], .ireturn, 0, 0, 0),
  (145, [], .iload 1, 0, 0, 0),
  (146, [], .invokeinterface 168 5, 1, 203, 1243),
  (149, [], .istore 2, 0, 0, 0),
  (150, [], .iload 2, 0, 0, 0),
  (151, [], .ifCond .lt 171, 0, 0, 0),
  (154, [], .aload 0, 0, 0, 0),
  (155, [], .dup, 0, 0, 0),
  (156, [], .getfield 590, 0, 160, 992),
  (159, [], .iconst 1, 0, 0, 0),
  (160, [], .iadd, 0, 0, 0),
  (161, [], .putfield 590, 0, 160, 992),
  (164, [], .aload 0, 0, 0, 0),
  (165, [], .getfield 594, 0, 36, 996),
  (168, [], .iload 2, 0, 0, 0),
  (169, [], .iaload, 0, 0, 0),
  (170, [], .ireturn, 0, 0, 0),
  (171, [], .iconst 0, 0, 0, 0),
  (172, [], .istore 3, 0, 0, 0),
  (173, [], .iconst 0, 0, 0, 0),
  (174, [], .istore 4, 1, 0, 0),
  (176, [0, 3, 4], .iload 4, 1, 0, 0),
  (178, [], .iconst 4, 0, 0, 0),
  (179, [], .if_icmp .ge 229, 0, 0, 0),
  (182, [], .aload 0, 0, 0, 0),
  (183, [], .invokeinterface 160 645, 0, 172, 1231),
  (186, [], .iconst 48, 1, 0, 0),
  (188, [], .if_icmp .lt 229, 0, 0, 0),
  (191, [], .aload 0, 0, 0, 0),
  (192, [], .invokeinterface 160 645, 0, 172, 1231),
  (195, [], .iconst 57, 1, 0, 0),
  (197, [], .if_icmp .gt 229, 0, 0, 0),
  (200, [], .iconst 10, 1, 0, 0),
  (202, [], .iload 3, 0, 0, 0),
  (203, [], .imul, 0, 0, 0),
  (204, [], .aload 0, 0, 0, 0),
  (205, [], .invokeinterface 160 645, 0, 172, 1231),
  (208, [], .iadd, 0, 0, 0),
  (209, [], .iconst 48, 1, 0, 0),
  (211, [], .isub, 0, 0, 0),
  (212, [], .istore 3, 0, 0, 0),
  (213, [], .iinc 4 1, 0, 0, 0),
  (216, [], .aload 0, 0, 0, 0),
  (217, [], .dup, 0, 0, 0),
  (218, [], .getfield 590, 0, 160, 992),
  (221, [], .iconst 1, 0, 0, 0),
  (222, [], .iadd, 0, 0, 0),
  (223, [], .putfield 590, 0, 160, 992),
  (226, [], .goto 176, 0, 0, 0),
  (229, [], .iload 4, 1, 0, 0),
  (231, [], .ifCond .ne 241, 0, 0, 0),
  (234, [], .aload 0, 0, 0, 0),
  (235, [], .invokeinterface 161 645, 0, 197, 1235),
  (238, [], .goto 242, 0, 0, 0),
  (241, [], .iload 3, 0, 0, 0),
  (242, [], .ireturn, 0, 0, 0)]
theorem tk_Mo_one : pm_okT M_Mo_one T_Mo_one = true := by decide +kernel
theorem ok_Mo_one : pm_okm M_Mo_one := pm_okm_of _ 1230 85 1229 37 (by decide +kernel)
set_option maxRecDepth 100000 in
set_option maxHeartbeats 4000000 in
theorem m_Mo_one {d : Nat} {H : pmT} {Q : pmQ} 
    (h : ((H.1 55 16) < 0 → pm_R d M_Mo_byteAt [.ref 55] H (pm_i (fun x2 H1 => (x2 = (33 : Int32) → (¬ (H1.1 55 17) = (6 : Int32) → pm_R d M_Mo_one [.ref 55] ((pm_up (pm_up H1.1 55 17 ((H1.1 55 17) + (1 : Int32))) 55 14 ((H1.1 55 14) + (1 : Int32))), H1.2) (pm_i (fun x4 H3 => (¬ x4 = 0 → Q (some (.int (0 : Int32))) ((pm_up H3.1 55 17 ((H3.1 55 17) - (1 : Int32))), H3.2)) ∧ (x4 = 0 → Q (some (.int (1 : Int32))) ((pm_up H3.1 55 17 ((H3.1 55 17) - (1 : Int32))), H3.2))))) ∧ ((H1.1 55 17) = (6 : Int32) → (0 ≤ (H1.1 55 16) → Q (some (.int (0 : Int32))) ((pm_up H1.1 55 16 (H1.1 55 16)), H1.2)) ∧ (¬ 0 ≤ (H1.1 55 16) → Q (some (.int (0 : Int32))) ((pm_up H1.1 55 16 (H1.1 55 14)), H1.2)))) ∧ (¬ x2 = (33 : Int32) → (x2 = (45 : Int32) → (¬ (H1.1 55 17) = (6 : Int32) → pm_R d M_Mo_one [.ref 55] ((pm_up (pm_up H1.1 55 17 ((H1.1 55 17) + (1 : Int32))) 55 14 ((H1.1 55 14) + (1 : Int32))), H1.2) (pm_i (fun x12 H11 => Q (some (.int (-x12))) ((pm_up H11.1 55 17 ((H11.1 55 17) - (1 : Int32))), H11.2)))) ∧ ((H1.1 55 17) = (6 : Int32) → (0 ≤ (H1.1 55 16) → Q (some (.int (0 : Int32))) ((pm_up H1.1 55 16 (H1.1 55 16)), H1.2)) ∧ (¬ 0 ≤ (H1.1 55 16) → Q (some (.int (0 : Int32))) ((pm_up H1.1 55 16 (H1.1 55 14)), H1.2)))) ∧ (¬ x2 = (45 : Int32) → (¬ x2 = (40 : Int32) → pm_R d M_Mo_nameOf [.int x2] H1 (pm_i (fun x20 H19 => (x20 < 0 → pm_RW none (d + 1) M_Mo_one Q 176 [(0, .ref 55), (3, .int (0 : Int32)), (4, .int (0 : Int32))] [] H19) ∧ (¬ x20 < 0 → vp_in x20 6 ∧ (Q (some (.int (H19.1 64 x20.toNatClampNeg))) ((pm_up H19.1 55 14 ((H19.1 55 14) + (1 : Int32))), H19.2)))))) ∧ (x2 = (40 : Int32) → (¬ (H1.1 55 17) = (6 : Int32) → pm_R d M_Mo_either [.ref 55] ((pm_up (pm_up H1.1 55 17 ((H1.1 55 17) + (1 : Int32))) 55 14 ((H1.1 55 14) + (1 : Int32))), H1.2) (pm_i (fun x26 H25 => pm_R d M_Mo_takes [.ref 55, .int (41 : Int32)] H25 (pm_i (fun x28 H27 => (¬ x28 = 0 → Q (some (.int x26)) ((pm_up H27.1 55 17 ((H27.1 55 17) - (1 : Int32))), H27.2)) ∧ (x28 = 0 → (0 ≤ (H27.1 55 16) → Q (some (.int (0 : Int32))) ((pm_up H27.1 55 16 (H27.1 55 16)), H27.2)) ∧ (¬ 0 ≤ (H27.1 55 16) → Q (some (.int (0 : Int32))) ((pm_up H27.1 55 16 (H27.1 55 14)), H27.2)))))))) ∧ ((H1.1 55 17) = (6 : Int32) → (0 ≤ (H1.1 55 16) → Q (some (.int (0 : Int32))) ((pm_up H1.1 55 16 (H1.1 55 16)), H1.2)) ∧ (¬ 0 ≤ (H1.1 55 16) → Q (some (.int (0 : Int32))) ((pm_up H1.1 55 16 (H1.1 55 14)), H1.2))))))))) ∧ (¬ (H.1 55 16) < 0 → Q (some (.int (0 : Int32))) H)) : pm_R (d + 1) M_Mo_one [.ref 55] H Q :=
  pm_walk (n := 62) ok_Mo_one tk_Mo_one rfl (Nat.le_of_ble_eq_true rfl) (show ((H.1 55 16) < 0 → pm_R d M_Mo_byteAt [.ref 55] H (pm_i (fun x2 H1 => (x2 = (33 : Int32) → (¬ (H1.1 55 17) = (6 : Int32) → (¬ x2 = (40 : Int32) → pm_R d M_Mo_one [.ref 55] ((pm_up (pm_up H1.1 55 17 ((H1.1 55 17) + (1 : Int32))) 55 14 ((H1.1 55 14) + (1 : Int32))), H1.2) (pm_i (fun x4 H3 => (¬ x2 = (40 : Int32) → (¬ x2 = (40 : Int32) → (¬ x2 = (45 : Int32) → (¬ x4 = 0 → Q (some (.int (0 : Int32))) ((pm_up H3.1 55 17 ((H3.1 55 17) - (1 : Int32))), H3.2)) ∧ (x4 = 0 → Q (some (.int (1 : Int32))) ((pm_up H3.1 55 17 ((H3.1 55 17) - (1 : Int32))), H3.2))) ∧ (x2 = (45 : Int32) → Q (some (.int (-x4))) ((pm_up H3.1 55 17 ((H3.1 55 17) - (1 : Int32))), H3.2))) ∧ (x2 = (40 : Int32) → Q (some (.int x4)) ((pm_up H3.1 55 17 ((H3.1 55 17) - (1 : Int32))), H3.2))) ∧ (x2 = (40 : Int32) → pm_R d M_Mo_takes [.ref 55, .int (41 : Int32)] H3 (pm_i (fun x6 H5 => (¬ x6 = 0 → (¬ x2 = (40 : Int32) → (¬ x2 = (45 : Int32) → (¬ x4 = 0 → Q (some (.int (0 : Int32))) ((pm_up H5.1 55 17 ((H5.1 55 17) - (1 : Int32))), H5.2)) ∧ (x4 = 0 → Q (some (.int (1 : Int32))) ((pm_up H5.1 55 17 ((H5.1 55 17) - (1 : Int32))), H5.2))) ∧ (x2 = (45 : Int32) → Q (some (.int (-x4))) ((pm_up H5.1 55 17 ((H5.1 55 17) - (1 : Int32))), H5.2))) ∧ (x2 = (40 : Int32) → Q (some (.int x4)) ((pm_up H5.1 55 17 ((H5.1 55 17) - (1 : Int32))), H5.2))) ∧ (x6 = 0 → pm_R d M_Mo_wrongAt [.ref 55] H5 (pm_i (fun x8 H7 => Q (some (.int x8)) H7))))))))) ∧ (x2 = (40 : Int32) → pm_R d M_Mo_either [.ref 55] ((pm_up (pm_up H1.1 55 17 ((H1.1 55 17) + (1 : Int32))) 55 14 ((H1.1 55 14) + (1 : Int32))), H1.2) (pm_i (fun x10 H9 => (¬ x2 = (40 : Int32) → (¬ x2 = (40 : Int32) → (¬ x2 = (45 : Int32) → (¬ x10 = 0 → Q (some (.int (0 : Int32))) ((pm_up H9.1 55 17 ((H9.1 55 17) - (1 : Int32))), H9.2)) ∧ (x10 = 0 → Q (some (.int (1 : Int32))) ((pm_up H9.1 55 17 ((H9.1 55 17) - (1 : Int32))), H9.2))) ∧ (x2 = (45 : Int32) → Q (some (.int (-x10))) ((pm_up H9.1 55 17 ((H9.1 55 17) - (1 : Int32))), H9.2))) ∧ (x2 = (40 : Int32) → Q (some (.int x10)) ((pm_up H9.1 55 17 ((H9.1 55 17) - (1 : Int32))), H9.2))) ∧ (x2 = (40 : Int32) → pm_R d M_Mo_takes [.ref 55, .int (41 : Int32)] H9 (pm_i (fun x12 H11 => (¬ x12 = 0 → (¬ x2 = (40 : Int32) → (¬ x2 = (45 : Int32) → (¬ x10 = 0 → Q (some (.int (0 : Int32))) ((pm_up H11.1 55 17 ((H11.1 55 17) - (1 : Int32))), H11.2)) ∧ (x10 = 0 → Q (some (.int (1 : Int32))) ((pm_up H11.1 55 17 ((H11.1 55 17) - (1 : Int32))), H11.2))) ∧ (x2 = (45 : Int32) → Q (some (.int (-x10))) ((pm_up H11.1 55 17 ((H11.1 55 17) - (1 : Int32))), H11.2))) ∧ (x2 = (40 : Int32) → Q (some (.int x10)) ((pm_up H11.1 55 17 ((H11.1 55 17) - (1 : Int32))), H11.2))) ∧ (x12 = 0 → pm_R d M_Mo_wrongAt [.ref 55] H11 (pm_i (fun x14 H13 => Q (some (.int x14)) H13)))))))))) ∧ ((H1.1 55 17) = (6 : Int32) → pm_R d M_Mo_wrongAt [.ref 55] H1 (pm_i (fun x16 H15 => Q (some (.int x16)) H15)))) ∧ (¬ x2 = (33 : Int32) → (x2 = (45 : Int32) → (¬ (H1.1 55 17) = (6 : Int32) → (¬ x2 = (40 : Int32) → pm_R d M_Mo_one [.ref 55] ((pm_up (pm_up H1.1 55 17 ((H1.1 55 17) + (1 : Int32))) 55 14 ((H1.1 55 14) + (1 : Int32))), H1.2) (pm_i (fun x18 H17 => (¬ x2 = (40 : Int32) → (¬ x2 = (40 : Int32) → (¬ x2 = (45 : Int32) → (¬ x18 = 0 → Q (some (.int (0 : Int32))) ((pm_up H17.1 55 17 ((H17.1 55 17) - (1 : Int32))), H17.2)) ∧ (x18 = 0 → Q (some (.int (1 : Int32))) ((pm_up H17.1 55 17 ((H17.1 55 17) - (1 : Int32))), H17.2))) ∧ (x2 = (45 : Int32) → Q (some (.int (-x18))) ((pm_up H17.1 55 17 ((H17.1 55 17) - (1 : Int32))), H17.2))) ∧ (x2 = (40 : Int32) → Q (some (.int x18)) ((pm_up H17.1 55 17 ((H17.1 55 17) - (1 : Int32))), H17.2))) ∧ (x2 = (40 : Int32) → pm_R d M_Mo_takes [.ref 55, .int (41 : Int32)] H17 (pm_i (fun x20 H19 => (¬ x20 = 0 → (¬ x2 = (40 : Int32) → (¬ x2 = (45 : Int32) → (¬ x18 = 0 → Q (some (.int (0 : Int32))) ((pm_up H19.1 55 17 ((H19.1 55 17) - (1 : Int32))), H19.2)) ∧ (x18 = 0 → Q (some (.int (1 : Int32))) ((pm_up H19.1 55 17 ((H19.1 55 17) - (1 : Int32))), H19.2))) ∧ (x2 = (45 : Int32) → Q (some (.int (-x18))) ((pm_up H19.1 55 17 ((H19.1 55 17) - (1 : Int32))), H19.2))) ∧ (x2 = (40 : Int32) → Q (some (.int x18)) ((pm_up H19.1 55 17 ((H19.1 55 17) - (1 : Int32))), H19.2))) ∧ (x20 = 0 → pm_R d M_Mo_wrongAt [.ref 55] H19 (pm_i (fun x22 H21 => Q (some (.int x22)) H21))))))))) ∧ (x2 = (40 : Int32) → pm_R d M_Mo_either [.ref 55] ((pm_up (pm_up H1.1 55 17 ((H1.1 55 17) + (1 : Int32))) 55 14 ((H1.1 55 14) + (1 : Int32))), H1.2) (pm_i (fun x24 H23 => (¬ x2 = (40 : Int32) → (¬ x2 = (40 : Int32) → (¬ x2 = (45 : Int32) → (¬ x24 = 0 → Q (some (.int (0 : Int32))) ((pm_up H23.1 55 17 ((H23.1 55 17) - (1 : Int32))), H23.2)) ∧ (x24 = 0 → Q (some (.int (1 : Int32))) ((pm_up H23.1 55 17 ((H23.1 55 17) - (1 : Int32))), H23.2))) ∧ (x2 = (45 : Int32) → Q (some (.int (-x24))) ((pm_up H23.1 55 17 ((H23.1 55 17) - (1 : Int32))), H23.2))) ∧ (x2 = (40 : Int32) → Q (some (.int x24)) ((pm_up H23.1 55 17 ((H23.1 55 17) - (1 : Int32))), H23.2))) ∧ (x2 = (40 : Int32) → pm_R d M_Mo_takes [.ref 55, .int (41 : Int32)] H23 (pm_i (fun x26 H25 => (¬ x26 = 0 → (¬ x2 = (40 : Int32) → (¬ x2 = (45 : Int32) → (¬ x24 = 0 → Q (some (.int (0 : Int32))) ((pm_up H25.1 55 17 ((H25.1 55 17) - (1 : Int32))), H25.2)) ∧ (x24 = 0 → Q (some (.int (1 : Int32))) ((pm_up H25.1 55 17 ((H25.1 55 17) - (1 : Int32))), H25.2))) ∧ (x2 = (45 : Int32) → Q (some (.int (-x24))) ((pm_up H25.1 55 17 ((H25.1 55 17) - (1 : Int32))), H25.2))) ∧ (x2 = (40 : Int32) → Q (some (.int x24)) ((pm_up H25.1 55 17 ((H25.1 55 17) - (1 : Int32))), H25.2))) ∧ (x26 = 0 → pm_R d M_Mo_wrongAt [.ref 55] H25 (pm_i (fun x28 H27 => Q (some (.int x28)) H27)))))))))) ∧ ((H1.1 55 17) = (6 : Int32) → pm_R d M_Mo_wrongAt [.ref 55] H1 (pm_i (fun x30 H29 => Q (some (.int x30)) H29)))) ∧ (¬ x2 = (45 : Int32) → (¬ x2 = (40 : Int32) → pm_R d M_Mo_nameOf [.int x2] H1 (pm_i (fun x32 H31 => (x32 < 0 → pm_RW none (d + 1) M_Mo_one Q 176 [(0, .ref 55), (3, .int (0 : Int32)), (4, .int (0 : Int32))] [] H31) ∧ (¬ x32 < 0 → vp_in x32 6 ∧ (Q (some (.int (H31.1 64 x32.toNatClampNeg))) ((pm_up H31.1 55 14 ((H31.1 55 14) + (1 : Int32))), H31.2)))))) ∧ (x2 = (40 : Int32) → (¬ (H1.1 55 17) = (6 : Int32) → (¬ x2 = (40 : Int32) → pm_R d M_Mo_one [.ref 55] ((pm_up (pm_up H1.1 55 17 ((H1.1 55 17) + (1 : Int32))) 55 14 ((H1.1 55 14) + (1 : Int32))), H1.2) (pm_i (fun x34 H33 => (¬ x2 = (40 : Int32) → (¬ x2 = (40 : Int32) → (¬ x2 = (45 : Int32) → (¬ x34 = 0 → Q (some (.int (0 : Int32))) ((pm_up H33.1 55 17 ((H33.1 55 17) - (1 : Int32))), H33.2)) ∧ (x34 = 0 → Q (some (.int (1 : Int32))) ((pm_up H33.1 55 17 ((H33.1 55 17) - (1 : Int32))), H33.2))) ∧ (x2 = (45 : Int32) → Q (some (.int (-x34))) ((pm_up H33.1 55 17 ((H33.1 55 17) - (1 : Int32))), H33.2))) ∧ (x2 = (40 : Int32) → Q (some (.int x34)) ((pm_up H33.1 55 17 ((H33.1 55 17) - (1 : Int32))), H33.2))) ∧ (x2 = (40 : Int32) → pm_R d M_Mo_takes [.ref 55, .int (41 : Int32)] H33 (pm_i (fun x36 H35 => (¬ x36 = 0 → (¬ x2 = (40 : Int32) → (¬ x2 = (45 : Int32) → (¬ x34 = 0 → Q (some (.int (0 : Int32))) ((pm_up H35.1 55 17 ((H35.1 55 17) - (1 : Int32))), H35.2)) ∧ (x34 = 0 → Q (some (.int (1 : Int32))) ((pm_up H35.1 55 17 ((H35.1 55 17) - (1 : Int32))), H35.2))) ∧ (x2 = (45 : Int32) → Q (some (.int (-x34))) ((pm_up H35.1 55 17 ((H35.1 55 17) - (1 : Int32))), H35.2))) ∧ (x2 = (40 : Int32) → Q (some (.int x34)) ((pm_up H35.1 55 17 ((H35.1 55 17) - (1 : Int32))), H35.2))) ∧ (x36 = 0 → pm_R d M_Mo_wrongAt [.ref 55] H35 (pm_i (fun x38 H37 => Q (some (.int x38)) H37))))))))) ∧ (x2 = (40 : Int32) → pm_R d M_Mo_either [.ref 55] ((pm_up (pm_up H1.1 55 17 ((H1.1 55 17) + (1 : Int32))) 55 14 ((H1.1 55 14) + (1 : Int32))), H1.2) (pm_i (fun x40 H39 => (¬ x2 = (40 : Int32) → (¬ x2 = (40 : Int32) → (¬ x2 = (45 : Int32) → (¬ x40 = 0 → Q (some (.int (0 : Int32))) ((pm_up H39.1 55 17 ((H39.1 55 17) - (1 : Int32))), H39.2)) ∧ (x40 = 0 → Q (some (.int (1 : Int32))) ((pm_up H39.1 55 17 ((H39.1 55 17) - (1 : Int32))), H39.2))) ∧ (x2 = (45 : Int32) → Q (some (.int (-x40))) ((pm_up H39.1 55 17 ((H39.1 55 17) - (1 : Int32))), H39.2))) ∧ (x2 = (40 : Int32) → Q (some (.int x40)) ((pm_up H39.1 55 17 ((H39.1 55 17) - (1 : Int32))), H39.2))) ∧ (x2 = (40 : Int32) → pm_R d M_Mo_takes [.ref 55, .int (41 : Int32)] H39 (pm_i (fun x42 H41 => (¬ x42 = 0 → (¬ x2 = (40 : Int32) → (¬ x2 = (45 : Int32) → (¬ x40 = 0 → Q (some (.int (0 : Int32))) ((pm_up H41.1 55 17 ((H41.1 55 17) - (1 : Int32))), H41.2)) ∧ (x40 = 0 → Q (some (.int (1 : Int32))) ((pm_up H41.1 55 17 ((H41.1 55 17) - (1 : Int32))), H41.2))) ∧ (x2 = (45 : Int32) → Q (some (.int (-x40))) ((pm_up H41.1 55 17 ((H41.1 55 17) - (1 : Int32))), H41.2))) ∧ (x2 = (40 : Int32) → Q (some (.int x40)) ((pm_up H41.1 55 17 ((H41.1 55 17) - (1 : Int32))), H41.2))) ∧ (x42 = 0 → pm_R d M_Mo_wrongAt [.ref 55] H41 (pm_i (fun x44 H43 => Q (some (.int x44)) H43)))))))))) ∧ ((H1.1 55 17) = (6 : Int32) → pm_R d M_Mo_wrongAt [.ref 55] H1 (pm_i (fun x46 H45 => Q (some (.int x46)) H45))))))))) ∧ (¬ (H.1 55 16) < 0 → Q (some (.int (0 : Int32))) H) from ⟨fun q1 => pm_mi (h.1 q1) (fun x2 H1 z2 => ⟨fun q3 => ⟨fun q4 => ⟨fun _ => pm_mi ((z2.1 q3).1 q4) (fun x4 H3 z5 => ⟨fun _ => ⟨fun _ => ⟨fun _ => ⟨fun q6 => (z5.1 q6), fun q6 => (z5.2 q6)⟩, fun z => absurd z (fun z => absurd ((q3).symm.trans z) (by decide))⟩, fun z => absurd z (fun z => absurd ((q3).symm.trans z) (by decide))⟩, fun z => absurd z (fun z => absurd ((q3).symm.trans z) (by decide))⟩), fun z => absurd z (fun z => absurd ((q3).symm.trans z) (by decide))⟩, fun q4 => u_Mo_wrongAt  (⟨fun q7 => (((z2.1 q3).2 q4).1 q7), fun q7 => (((z2.1 q3).2 q4).2 q7)⟩)⟩, fun q3 => ⟨fun q8 => ⟨fun q9 => ⟨fun _ => pm_mi (((z2.2 q3).1 q8).1 q9) (fun x12 H11 z10 => ⟨fun _ => ⟨fun _ => ⟨fun z => absurd q8 z, fun _ => z10⟩, fun z => absurd z (fun z => absurd ((q8).symm.trans z) (by decide))⟩, fun z => absurd z (fun z => absurd ((q8).symm.trans z) (by decide))⟩), fun z => absurd z (fun z => absurd ((q8).symm.trans z) (by decide))⟩, fun q9 => u_Mo_wrongAt  (⟨fun q11 => ((((z2.2 q3).1 q8).2 q9).1 q11), fun q11 => ((((z2.2 q3).1 q8).2 q9).2 q11)⟩)⟩, fun q8 => ⟨fun q12 => pm_mi (((z2.2 q3).2 q8).1 q12) (fun x20 H19 z13 => ⟨fun q14 => (z13.1 q14), fun q14 => ⟨(z13.2 q14).1, (z13.2 q14).2⟩⟩), fun q12 => ⟨fun q15 => ⟨fun z => absurd q12 z, fun _ => pm_mi ((((z2.2 q3).2 q8).2 q12).1 q15) (fun x26 H25 z16 => ⟨fun z => absurd q12 z, fun _ => pm_mi z16 (fun x28 H27 z17 => ⟨fun q18 => ⟨fun z => absurd q12 z, fun _ => (z17.1 q18)⟩, fun q18 => u_Mo_wrongAt  (⟨fun q19 => ((z17.2 q18).1 q19), fun q19 => ((z17.2 q18).2 q19)⟩)⟩)⟩)⟩, fun q15 => u_Mo_wrongAt  (⟨fun q20 => (((((z2.2 q3).2 q8).2 q12).2 q15).1 q20), fun q20 => (((((z2.2 q3).2 q8).2 q12).2 q15).2 q20)⟩)⟩⟩⟩⟩), fun q1 => (h.2 q1)⟩)
set_option maxRecDepth 100000 in
set_option maxHeartbeats 4000000 in
theorem b_Mo_one_176 {d : Nat} {H : pmT} {Q : pmQ} (v3 : Int32) (v4 : Int32)
    (h : ((4 : Int32) ≤ v4 → (¬ v4 = 0 → Q (some (.int v3)) H) ∧ (v4 = 0 → (0 ≤ (H.1 55 16) → Q (some (.int (0 : Int32))) ((pm_up H.1 55 16 (H.1 55 16)), H.2)) ∧ (¬ 0 ≤ (H.1 55 16) → Q (some (.int (0 : Int32))) ((pm_up H.1 55 16 (H.1 55 14)), H.2)))) ∧ (¬ (4 : Int32) ≤ v4 → pm_R d M_Mo_byteAt [.ref 55] H (pm_i (fun x2 H1 => (x2 < (48 : Int32) → (¬ v4 = 0 → Q (some (.int v3)) H1) ∧ (v4 = 0 → (0 ≤ (H1.1 55 16) → Q (some (.int (0 : Int32))) ((pm_up H1.1 55 16 (H1.1 55 16)), H1.2)) ∧ (¬ 0 ≤ (H1.1 55 16) → Q (some (.int (0 : Int32))) ((pm_up H1.1 55 16 (H1.1 55 14)), H1.2)))) ∧ (¬ x2 < (48 : Int32) → pm_R d M_Mo_byteAt [.ref 55] H1 (pm_i (fun x4 H3 => ((57 : Int32) < x4 → (¬ v4 = 0 → Q (some (.int v3)) H3) ∧ (v4 = 0 → (0 ≤ (H3.1 55 16) → Q (some (.int (0 : Int32))) ((pm_up H3.1 55 16 (H3.1 55 16)), H3.2)) ∧ (¬ 0 ≤ (H3.1 55 16) → Q (some (.int (0 : Int32))) ((pm_up H3.1 55 16 (H3.1 55 14)), H3.2)))) ∧ (¬ (57 : Int32) < x4 → pm_R d M_Mo_byteAt [.ref 55] H3 (pm_i (fun x6 H5 => pm_RW none (d + 1) M_Mo_one Q 176 [(0, .ref 55), (3, .int ((((10 : Int32) * v3) + x6) - (48 : Int32))), (4, .int (v4 + (1 : Int32)))] [] ((pm_up H5.1 55 14 ((H5.1 55 14) + (1 : Int32))), H5.2))))))))))) : pm_RW none (d + 1) M_Mo_one Q 176 [(0, .ref 55), (3, .int v3), (4, .int v4)] [] H :=
  pm_body tk_Mo_one 28 176 (show ((4 : Int32) ≤ v4 → (¬ v4 = 0 → Q (some (.int v3)) H) ∧ (v4 = 0 → pm_R d M_Mo_wrongAt [.ref 55] H (pm_i (fun x2 H1 => Q (some (.int x2)) H1)))) ∧ (¬ (4 : Int32) ≤ v4 → pm_R d M_Mo_byteAt [.ref 55] H (pm_i (fun x4 H3 => (x4 < (48 : Int32) → (¬ v4 = 0 → Q (some (.int v3)) H3) ∧ (v4 = 0 → pm_R d M_Mo_wrongAt [.ref 55] H3 (pm_i (fun x6 H5 => Q (some (.int x6)) H5)))) ∧ (¬ x4 < (48 : Int32) → pm_R d M_Mo_byteAt [.ref 55] H3 (pm_i (fun x8 H7 => ((57 : Int32) < x8 → (¬ v4 = 0 → Q (some (.int v3)) H7) ∧ (v4 = 0 → pm_R d M_Mo_wrongAt [.ref 55] H7 (pm_i (fun x10 H9 => Q (some (.int x10)) H9)))) ∧ (¬ (57 : Int32) < x8 → pm_R d M_Mo_byteAt [.ref 55] H7 (pm_i (fun x12 H11 => pm_RW none (d + 1) M_Mo_one Q 176 [(0, .ref 55), (3, .int ((((10 : Int32) * v3) + x12) - (48 : Int32))), (4, .int (v4 + (1 : Int32)))] [] ((pm_up H11.1 55 14 ((H11.1 55 14) + (1 : Int32))), H11.2)))))))))) from ⟨fun q1 => ⟨fun q2 => ((h.1 q1).1 q2), fun q2 => u_Mo_wrongAt  (⟨fun q3 => (((h.1 q1).2 q2).1 q3), fun q3 => (((h.1 q1).2 q2).2 q3)⟩)⟩, fun q1 => pm_mi (h.2 q1) (fun x2 H1 z4 => ⟨fun q5 => ⟨fun q6 => ((z4.1 q5).1 q6), fun q6 => u_Mo_wrongAt  (⟨fun q7 => (((z4.1 q5).2 q6).1 q7), fun q7 => (((z4.1 q5).2 q6).2 q7)⟩)⟩, fun q5 => pm_mi (z4.2 q5) (fun x4 H3 z8 => ⟨fun q9 => ⟨fun q10 => ((z8.1 q9).1 q10), fun q10 => u_Mo_wrongAt  (⟨fun q11 => (((z8.1 q9).2 q10).1 q11), fun q11 => (((z8.1 q9).2 q10).2 q11)⟩)⟩, fun q9 => (z8.2 q9)⟩)⟩)⟩)
def T_Mo_workOut : List pmE := [
  (0, [], .aload 0, 0, 0, 0),
  (1, [], .iload 1, 0, 0, 0),
  (2, [], .putfield 589, 0, 166, 991),
  (5, [], .aload 0, 0, 0, 0),
  (6, [], .iconst 0, 0, 0, 0),
  (7, [], .putfield 590, 0, 160, 992),
  (10, [], .aload 0, 0, 0, 0),
  (11, [], .iload 2, 0, 0, 0),
  (12, [], .putfield 591, 0, 163, 993),
  (15, [], .aload 0, 0, 0, 0),
  (16, [], .iconst (-1), 0, 0, 0),
  (17, [], .putfield 592, 0, 169, 994),
  (20, [], .aload 0, 0, 0, 0),
  (21, [], .iconst 0, 0, 0, 0),
  (22, [], .putfield 593, 0, 194, 995),
  (25, [], .iconst 0, 0, 0, 0),
  (26, [], .istore 3, 0, 0, 0),
  (27, [], .iconst 0, 0, 0, 0),
  (28, [], .istore 4, 1, 0, 0),
  (30, [], .iconst 1, 0, 0, 0),
  (31, [], .istore 5, 1, 0, 0),
  (33, [0, 3, 4, 5], .iload 5, 1, 0, 0),
  (35, [], .ifCond .eq 107, 0, 0, 0),
  (38, [], .aload 0, 0, 0, 0),
  (39, [], .invokeinterface 163 645, 0, 200, 1207),
  (42, [], .istore 6, 1, 0, 0),
  (44, [], .iconst 1, 0, 0, 0),
  (45, [], .istore 7, 1, 0, 0),
  (47, [], .aload 0, 0, 0, 0),
  (48, [], .iconst 63, 1, 0, 0),
  (50, [], .invokeinterface 162 649, 0, 179, 1239),
  (53, [], .ifCond .eq 74, 0, 0, 0),
  (56, [], .iload 6, 1, 0, 0),
  (58, [], .ifCond .eq 65, 0, 0, 0),
  (61, [], .iconst 1, 0, 0, 0),
  (62, [], .goto 66, 0, 0, 0),
  (65, [], .iconst 0, 0, 0, 0),
  (66, [], .istore 7, 1, 0, 0),
  (68, [], .aload 0, 0, 0, 0),
  (69, [], .invokeinterface 163 645, 0, 200, 1207),
  (72, [], .istore 6, 1, 0, 0),
  (74, [], .aload 0, 0, 0, 0),
  (75, [], .getfield 592, 0, 169, 994),
  (78, [], .ifCond .ge 96, 0, 0, 0),
  (81, [], .iload 7, 1, 0, 0),
  (83, [], .ifCond .eq 96, 0, 0, 0),
  (86, [], .iload 3, 0, 0, 0),
  (87, [], .ifCond .ne 96, 0, 0, 0),
  (90, [], .iconst 1, 0, 0, 0),
  (91, [], .istore 3, 0, 0, 0),
  (92, [], .iload 6, 1, 0, 0),
  (94, [], .istore 4, 1, 0, 0),
  (96, [], .aload 0, 0, 0, 0),
  (97, [], .iconst 59, 1, 0, 0),
  (99, [], .invokeinterface 162 649, 0, 179, 1239),
  (102, [], .istore 5, 1, 0, 0),
  (104, [], .goto 33, 0, 0, 0),
  (107, [], .aload 0, 0, 0, 0),
  (108, [], .getfield 592, 0, 169, 994),
  (111, [], .ifCond .ge 130, 0, 0, 0),
  (114, [], .aload 0, 0, 0, 0),
  (115, [], .getfield 590, 0, 160, 992),
  (118, [], .aload 0, 0, 0, 0),
  (119, [], .getfield 591, 0, 163, 993),
  (122, [], .if_icmp .ge 130, 0, 0, 0),
  (125, [], .aload 0, 0, 0, 0),
  (126, [], .invokeinterface 161 645, 0, 197, 1235),
  (129, [], .ireturn, 0, 0, 0),
  (130, [], .iload 4, 1, 0, 0),
  (132, [], .ireturn, 0, 0, 0)]
theorem tk_Mo_workOut : pm_okT M_Mo_workOut T_Mo_workOut = true := by decide +kernel
theorem ok_Mo_workOut : pm_okm M_Mo_workOut := pm_okm_of _ 1206 85 1205 31 (by decide +kernel)
set_option maxRecDepth 100000 in
set_option maxHeartbeats 4000000 in
theorem m_Mo_workOut {d : Nat} {H : pmT} {Q : pmQ} (a1 : Int32) (a2 : Int32)
    (h : pm_RW none (d + 1) M_Mo_workOut Q 33 [(0, .ref 55), (3, .int (0 : Int32)), (4, .int (0 : Int32)), (5, .int (1 : Int32))] [] ((pm_up (pm_up (pm_up (pm_up (pm_up H.1 55 13 a1) 55 14 (0 : Int32)) 55 15 a2) 55 16 (-1 : Int32)) 55 17 (0 : Int32)), H.2)) : pm_R (d + 1) M_Mo_workOut [.ref 55, .int a1, .int a2] H Q :=
  pm_walk (n := 22) ok_Mo_workOut tk_Mo_workOut rfl (Nat.le_of_ble_eq_true rfl) (show pm_RW none (d + 1) M_Mo_workOut Q 33 [(0, .ref 55), (3, .int (0 : Int32)), (4, .int (0 : Int32)), (5, .int (1 : Int32))] [] ((pm_up (pm_up (pm_up (pm_up (pm_up H.1 55 13 a1) 55 14 (0 : Int32)) 55 15 a2) 55 16 (-1 : Int32)) 55 17 (0 : Int32)), H.2) from h)
set_option maxRecDepth 100000 in
set_option maxHeartbeats 4000000 in
theorem b_Mo_workOut_33 {d : Nat} {H : pmT} {Q : pmQ} (v3 : Int32) (v4 : Int32) (v5 : Int32)
    (h : (v5 = 0 → (0 ≤ (H.1 55 16) → Q (some (.int v4)) H) ∧ (¬ 0 ≤ (H.1 55 16) → ((H.1 55 15) ≤ (H.1 55 14) → Q (some (.int v4)) H) ∧ (¬ (H.1 55 15) ≤ (H.1 55 14) → Q (some (.int (0 : Int32))) ((pm_up H.1 55 16 (H.1 55 14)), H.2)))) ∧ (¬ v5 = 0 → pm_R d M_Mo_either [.ref 55] H (pm_i (fun x2 H1 => pm_R d M_Mo_takes [.ref 55, .int (63 : Int32)] H1 (pm_i (fun x4 H3 => (x4 = 0 → (0 ≤ (H3.1 55 16) → pm_R d M_Mo_takes [.ref 55, .int (59 : Int32)] H3 (pm_i (fun x6 H5 => pm_RW none (d + 1) M_Mo_workOut Q 33 [(0, .ref 55), (3, .int v3), (4, .int v4), (5, .int x6)] [] H5))) ∧ (¬ 0 ≤ (H3.1 55 16) → (¬ v3 = 0 → pm_R d M_Mo_takes [.ref 55, .int (59 : Int32)] H3 (pm_i (fun x10 H9 => pm_RW none (d + 1) M_Mo_workOut Q 33 [(0, .ref 55), (3, .int v3), (4, .int v4), (5, .int x10)] [] H9))) ∧ (v3 = 0 → pm_R d M_Mo_takes [.ref 55, .int (59 : Int32)] H3 (pm_i (fun x12 H11 => pm_RW none (d + 1) M_Mo_workOut Q 33 [(0, .ref 55), (3, .int (1 : Int32)), (4, .int x2), (5, .int x12)] [] H11))))) ∧ (¬ x4 = 0 → (x2 = 0 → pm_R d M_Mo_either [.ref 55] H3 (pm_i (fun x14 H13 => (0 ≤ (H13.1 55 16) → pm_R d M_Mo_takes [.ref 55, .int (59 : Int32)] H13 (pm_i (fun x16 H15 => pm_RW none (d + 1) M_Mo_workOut Q 33 [(0, .ref 55), (3, .int v3), (4, .int v4), (5, .int x16)] [] H15))) ∧ (¬ 0 ≤ (H13.1 55 16) → pm_R d M_Mo_takes [.ref 55, .int (59 : Int32)] H13 (pm_i (fun x18 H17 => pm_RW none (d + 1) M_Mo_workOut Q 33 [(0, .ref 55), (3, .int v3), (4, .int v4), (5, .int x18)] [] H17)))))) ∧ (¬ x2 = 0 → pm_R d M_Mo_either [.ref 55] H3 (pm_i (fun x24 H23 => (0 ≤ (H23.1 55 16) → pm_R d M_Mo_takes [.ref 55, .int (59 : Int32)] H23 (pm_i (fun x26 H25 => pm_RW none (d + 1) M_Mo_workOut Q 33 [(0, .ref 55), (3, .int v3), (4, .int v4), (5, .int x26)] [] H25))) ∧ (¬ 0 ≤ (H23.1 55 16) → (¬ v3 = 0 → pm_R d M_Mo_takes [.ref 55, .int (59 : Int32)] H23 (pm_i (fun x30 H29 => pm_RW none (d + 1) M_Mo_workOut Q 33 [(0, .ref 55), (3, .int v3), (4, .int v4), (5, .int x30)] [] H29))) ∧ (v3 = 0 → pm_R d M_Mo_takes [.ref 55, .int (59 : Int32)] H23 (pm_i (fun x32 H31 => pm_RW none (d + 1) M_Mo_workOut Q 33 [(0, .ref 55), (3, .int (1 : Int32)), (4, .int x24), (5, .int x32)] [] H31)))))))))))))) : pm_RW none (d + 1) M_Mo_workOut Q 33 [(0, .ref 55), (3, .int v3), (4, .int v4), (5, .int v5)] [] H :=
  pm_body tk_Mo_workOut 35 33 (show (v5 = 0 → (0 ≤ (H.1 55 16) → Q (some (.int v4)) H) ∧ (¬ 0 ≤ (H.1 55 16) → ((H.1 55 15) ≤ (H.1 55 14) → Q (some (.int v4)) H) ∧ (¬ (H.1 55 15) ≤ (H.1 55 14) → pm_R d M_Mo_wrongAt [.ref 55] H (pm_i (fun x2 H1 => Q (some (.int x2)) H1))))) ∧ (¬ v5 = 0 → pm_R d M_Mo_either [.ref 55] H (pm_i (fun x4 H3 => pm_R d M_Mo_takes [.ref 55, .int (63 : Int32)] H3 (pm_i (fun x6 H5 => (x6 = 0 → (0 ≤ (H5.1 55 16) → pm_R d M_Mo_takes [.ref 55, .int (59 : Int32)] H5 (pm_i (fun x8 H7 => pm_RW none (d + 1) M_Mo_workOut Q 33 [(0, .ref 55), (3, .int v3), (4, .int v4), (5, .int x8)] [] H7))) ∧ (¬ 0 ≤ (H5.1 55 16) → ((1 : Int32) = 0 → pm_R d M_Mo_takes [.ref 55, .int (59 : Int32)] H5 (pm_i (fun x10 H9 => pm_RW none (d + 1) M_Mo_workOut Q 33 [(0, .ref 55), (3, .int v3), (4, .int v4), (5, .int x10)] [] H9))) ∧ (¬ (1 : Int32) = 0 → (¬ v3 = 0 → pm_R d M_Mo_takes [.ref 55, .int (59 : Int32)] H5 (pm_i (fun x12 H11 => pm_RW none (d + 1) M_Mo_workOut Q 33 [(0, .ref 55), (3, .int v3), (4, .int v4), (5, .int x12)] [] H11))) ∧ (v3 = 0 → pm_R d M_Mo_takes [.ref 55, .int (59 : Int32)] H5 (pm_i (fun x14 H13 => pm_RW none (d + 1) M_Mo_workOut Q 33 [(0, .ref 55), (3, .int (1 : Int32)), (4, .int x4), (5, .int x14)] [] H13)))))) ∧ (¬ x6 = 0 → (x4 = 0 → pm_R d M_Mo_either [.ref 55] H5 (pm_i (fun x16 H15 => (0 ≤ (H15.1 55 16) → pm_R d M_Mo_takes [.ref 55, .int (59 : Int32)] H15 (pm_i (fun x18 H17 => pm_RW none (d + 1) M_Mo_workOut Q 33 [(0, .ref 55), (3, .int v3), (4, .int v4), (5, .int x18)] [] H17))) ∧ (¬ 0 ≤ (H15.1 55 16) → ((0 : Int32) = 0 → pm_R d M_Mo_takes [.ref 55, .int (59 : Int32)] H15 (pm_i (fun x20 H19 => pm_RW none (d + 1) M_Mo_workOut Q 33 [(0, .ref 55), (3, .int v3), (4, .int v4), (5, .int x20)] [] H19))) ∧ (¬ (0 : Int32) = 0 → (¬ v3 = 0 → pm_R d M_Mo_takes [.ref 55, .int (59 : Int32)] H15 (pm_i (fun x22 H21 => pm_RW none (d + 1) M_Mo_workOut Q 33 [(0, .ref 55), (3, .int v3), (4, .int v4), (5, .int x22)] [] H21))) ∧ (v3 = 0 → pm_R d M_Mo_takes [.ref 55, .int (59 : Int32)] H15 (pm_i (fun x24 H23 => pm_RW none (d + 1) M_Mo_workOut Q 33 [(0, .ref 55), (3, .int (1 : Int32)), (4, .int x16), (5, .int x24)] [] H23)))))))) ∧ (¬ x4 = 0 → pm_R d M_Mo_either [.ref 55] H5 (pm_i (fun x26 H25 => (0 ≤ (H25.1 55 16) → pm_R d M_Mo_takes [.ref 55, .int (59 : Int32)] H25 (pm_i (fun x28 H27 => pm_RW none (d + 1) M_Mo_workOut Q 33 [(0, .ref 55), (3, .int v3), (4, .int v4), (5, .int x28)] [] H27))) ∧ (¬ 0 ≤ (H25.1 55 16) → ((1 : Int32) = 0 → pm_R d M_Mo_takes [.ref 55, .int (59 : Int32)] H25 (pm_i (fun x30 H29 => pm_RW none (d + 1) M_Mo_workOut Q 33 [(0, .ref 55), (3, .int v3), (4, .int v4), (5, .int x30)] [] H29))) ∧ (¬ (1 : Int32) = 0 → (¬ v3 = 0 → pm_R d M_Mo_takes [.ref 55, .int (59 : Int32)] H25 (pm_i (fun x32 H31 => pm_RW none (d + 1) M_Mo_workOut Q 33 [(0, .ref 55), (3, .int v3), (4, .int v4), (5, .int x32)] [] H31))) ∧ (v3 = 0 → pm_R d M_Mo_takes [.ref 55, .int (59 : Int32)] H25 (pm_i (fun x34 H33 => pm_RW none (d + 1) M_Mo_workOut Q 33 [(0, .ref 55), (3, .int (1 : Int32)), (4, .int x26), (5, .int x34)] [] H33)))))))))))))) from ⟨fun q1 => ⟨fun q2 => ((h.1 q1).1 q2), fun q2 => ⟨fun q3 => (((h.1 q1).2 q2).1 q3), fun q3 => u_Mo_wrongAt  (⟨fun z => absurd z q2, fun _ => (((h.1 q1).2 q2).2 q3)⟩)⟩⟩, fun q1 => pm_mi (h.2 q1) (fun x2 H1 z4 => pm_mi z4 (fun x4 H3 z5 => ⟨fun q6 => ⟨fun q7 => ((z5.1 q6).1 q7), fun q7 => ⟨fun z => absurd z (by decide), fun _ => ⟨fun q9 => (((z5.1 q6).2 q7).1 q9), fun q9 => (((z5.1 q6).2 q7).2 q9)⟩⟩⟩, fun q6 => ⟨fun q12 => pm_mi ((z5.2 q6).1 q12) (fun x14 H13 z13 => ⟨fun q14 => (z13.1 q14), fun q14 => ⟨fun _ => (z13.2 q14), fun z => absurd (by decide) z⟩⟩), fun q12 => pm_mi ((z5.2 q6).2 q12) (fun x24 H23 z17 => ⟨fun q18 => (z17.1 q18), fun q18 => ⟨fun z => absurd z (by decide), fun _ => ⟨fun q20 => ((z17.2 q18).1 q20), fun q20 => ((z17.2 q18).2 q20)⟩⟩⟩)⟩⟩))⟩)
def T_Mo_law : List pmE := [
  (0, [], .aload 0, 0, 0, 0),
  (1, [], .iconst (-1), 0, 0, 0),
  (2, [], .aload 0, 0, 0, 0),
  (3, [], .getfield 586, 0, 157, 988),
  (6, [], .invokeinterface 170 653, 0, 206, 1203),
  (9, [], .istore 1, 0, 0, 0),
  (10, [], .aload 0, 0, 0, 0),
  (11, [], .getfield 586, 0, 157, 988),
  (14, [], .istore 2, 0, 0, 0),
  (15, [], .aload 0, 0, 0, 0),
  (16, [], .iconst 0, 0, 0, 0),
  (17, [], .putfield 586, 0, 157, 988),
  (20, [], .aload 0, 0, 0, 0),
  (21, [], .getfield 592, 0, 169, 994),
  (24, [], .ifCond .lt 35, 0, 0, 0),
  (27, [], .iconst (-100), 1, 0, 0),
  (29, [], .aload 0, 0, 0, 0),
  (30, [], .getfield 592, 0, 169, 994),
  (33, [], .isub, 0, 0, 0),
  (34, [], .ireturn, 0, 0, 0),
  (35, [], .iconst 0, 0, 0, 0),
  (36, [], .istore 3, 0, 0, 0),
  (37, [0, 2, 3], .iload 3, 0, 0, 0),
  (38, [], .iload 2, 0, 0, 0),
  (39, [], .if_icmp .ge 60, 0, 0, 0),
  (42, [], .aload 0, 0, 0, 0),
  (43, [], .getfield 587, 0, 33, 989),
  (46, [], .iload 3, 0, 0, 0),
  (47, [], .aload 0, 0, 0, 0),
  (48, [], .getfield 585, 0, 30, 987),
  (51, [], .iload 3, 0, 0, 0),
  (52, [], .iaload, 0, 0, 0),
  (53, [], .iastore, 0, 0, 0),
  (54, [], .iinc 3 1, 0, 0, 0),
  (57, [], .goto 37, 0, 0, 0),
  (60, [], .aload 0, 0, 0, 0),
  (61, [], .iload 2, 0, 0, 0),
  (62, [], .putfield 588, 0, 101, 990),
  (65, [], .iconst 1, 0, 0, 0),
  (66, [], .ireturn, 0, 0, 0)]
theorem tk_Mo_law : pm_okT M_Mo_law T_Mo_law = true := by decide +kernel
theorem ok_Mo_law : pm_okm M_Mo_law := pm_okm_of _ 1202 85 1200 1201 (by decide +kernel)
set_option maxRecDepth 100000 in
set_option maxHeartbeats 4000000 in
theorem m_Mo_law {d : Nat} {H : pmT} {Q : pmQ} 
    (h : pm_R d M_Mo_workOut [.ref 55, .int (-1 : Int32), .int (H.1 55 10)] H (pm_i (fun x2 H1 => ((H1.1 55 16) < 0 → pm_RW none (d + 1) M_Mo_law Q 37 [(0, .ref 55), (2, .int (H1.1 55 10)), (3, .int (0 : Int32))] [] ((pm_up H1.1 55 10 (0 : Int32)), H1.2)) ∧ (¬ (H1.1 55 16) < 0 → Q (some (.int ((-100 : Int32) - (H1.1 55 16)))) ((pm_up H1.1 55 10 (0 : Int32)), H1.2))))) : pm_R (d + 1) M_Mo_law [.ref 55] H Q :=
  pm_walk (n := 20) ok_Mo_law tk_Mo_law rfl (Nat.le_of_ble_eq_true rfl) (show pm_R d M_Mo_workOut [.ref 55, .int (-1 : Int32), .int (H.1 55 10)] H (pm_i (fun x2 H1 => ((H1.1 55 16) < 0 → pm_RW none (d + 1) M_Mo_law Q 37 [(0, .ref 55), (2, .int (H1.1 55 10)), (3, .int (0 : Int32))] [] ((pm_up H1.1 55 10 (0 : Int32)), H1.2)) ∧ (¬ (H1.1 55 16) < 0 → Q (some (.int ((-100 : Int32) - (H1.1 55 16)))) ((pm_up H1.1 55 10 (0 : Int32)), H1.2)))) from pm_mi h (fun x2 H1 z1 => ⟨fun q2 => (z1.1 q2), fun q2 => (z1.2 q2)⟩))
set_option maxRecDepth 100000 in
set_option maxHeartbeats 4000000 in
theorem b_Mo_law_37 {d : Nat} {H : pmT} {Q : pmQ} (v2 : Int32) (v3 : Int32)
    (h : (v2 ≤ v3 → Q (some (.int (1 : Int32))) ((pm_up H.1 55 12 v2), H.2)) ∧ (¬ v2 ≤ v3 → vp_in v3 120 ∧ (pm_RW none (d + 1) M_Mo_law Q 37 [(0, .ref 55), (2, .int v2), (3, .int (v3 + (1 : Int32)))] [] ((pm_up H.1 63 v3.toNatClampNeg (H.1 62 v3.toNatClampNeg)), H.2)))) : pm_RW none (d + 1) M_Mo_law Q 37 [(0, .ref 55), (2, .int v2), (3, .int v3)] [] H :=
  pm_body tk_Mo_law 13 37 (show (v2 ≤ v3 → Q (some (.int (1 : Int32))) ((pm_up H.1 55 12 v2), H.2)) ∧ (¬ v2 ≤ v3 → vp_in v3 120 ∧ (vp_in v3 120 ∧ (pm_RW none (d + 1) M_Mo_law Q 37 [(0, .ref 55), (2, .int v2), (3, .int (v3 + (1 : Int32)))] [] ((pm_up H.1 63 v3.toNatClampNeg (H.1 62 v3.toNatClampNeg)), H.2)))) from ⟨fun q1 => (h.1 q1), fun q1 => ⟨(h.2 q1).1, ⟨(h.2 q1).1, (h.2 q1).2⟩⟩⟩)
def T_Mo_begins1 : List pmE := [
  (0, [], .iconst 0, 0, 0, 0),
  (1, [], .istore 1, 0, 0, 0),
  (2, [0, 1], .iload 1, 0, 0, 0),
  (3, [], .aload 0, 0, 0, 0),
  (4, [], .getfield 582, 0, 111, 984),
  (7, [], .if_icmp .ge 21, 0, 0, 0),
  (10, [], .aload 0, 0, 0, 0),
  (11, [], .iload 1, 0, 0, 0),
  (12, [], .invokeinterface 173 648, 0, 209, 1254),
  (15, [], .iinc 1 1, 0, 0, 0),
  (18, [], .goto 2, 0, 0, 0),
  (21, [], .aload 0, 0, 0, 0),
  (22, [], .aload 0, 0, 0, 0),
  (23, [], .getfield 576, 0, 11, 978),
  (26, [], .iconst 38, 1, 0, 0),
  (28, [], .iaload, 0, 0, 0),
  (29, [], .putfield 599, 0, 213, 1001),
  (32, [], .return_, 0, 0, 0)]
theorem tk_Mo_begins1 : pm_okT M_Mo_begins1 T_Mo_begins1 = true := by decide +kernel
theorem ok_Mo_begins1 : pm_okm M_Mo_begins1 := pm_okm_of _ 1253 85 1252 41 (by decide +kernel)
set_option maxRecDepth 100000 in
set_option maxHeartbeats 4000000 in
theorem m_Mo_begins1 {d : Nat} {H : pmT} {Q : pmQ} 
    (h : pm_RW none (d + 1) M_Mo_begins1 Q 2 [(0, .ref 55), (1, .int (0 : Int32))] [] H) : pm_R (d + 1) M_Mo_begins1 [.ref 55] H Q :=
  pm_walk (n := 3) ok_Mo_begins1 tk_Mo_begins1 rfl (Nat.le_of_ble_eq_true rfl) (show pm_RW none (d + 1) M_Mo_begins1 Q 2 [(0, .ref 55), (1, .int (0 : Int32))] [] H from h)
set_option maxRecDepth 100000 in
set_option maxHeartbeats 4000000 in
theorem b_Mo_begins1_2 {d : Nat} {H : pmT} {Q : pmQ} (v1 : Int32)
    (h : ((H.1 55 6) ≤ v1 → Q none ((pm_up H.1 55 23 (H.1 56 38)), H.2)) ∧ (¬ (H.1 55 6) ≤ v1 → vp_in v1 41 ∧ (vp_in v1 12 ∧ (vp_in ((12 : Int32) + v1) 41 ∧ (pm_RW none (d + 1) M_Mo_begins1 Q 2 [(0, .ref 55), (1, .int (v1 + (1 : Int32)))] [] ((pm_up (pm_up (pm_up (pm_up H.1 65 v1.toNatClampNeg (H.1 56 v1.toNatClampNeg)) 66 v1.toNatClampNeg (H.1 56 (((12 : Int32) + v1).toNatClampNeg))) 67 v1.toNatClampNeg (H.1 60 v1.toNatClampNeg)) 68 v1.toNatClampNeg (H.1 61 v1.toNatClampNeg)), H.2)))))) : pm_RW none (d + 1) M_Mo_begins1 Q 2 [(0, .ref 55), (1, .int v1)] [] H :=
  pm_body tk_Mo_begins1 10 2 (show ((H.1 55 6) ≤ v1 → vp_in (38 : Int32) 41 ∧ (Q none ((pm_up H.1 55 23 (H.1 56 38)), H.2))) ∧ (¬ (H.1 55 6) ≤ v1 → pm_R d M_Mo_beginsBar [.ref 55, .int v1] H (pm_v (fun H1 => pm_RW none (d + 1) M_Mo_begins1 Q 2 [(0, .ref 55), (1, .int (v1 + (1 : Int32)))] [] H1))) from ⟨fun q1 => ⟨(pm_ik rfl), (h.1 q1)⟩, fun q1 => u_Mo_beginsBar v1 (⟨(h.2 q1).1, ⟨(h.2 q1).2.1, ⟨(h.2 q1).2.2.1, ⟨(h.2 q1).2.1, ⟨(h.2 q1).2.1, ⟨(h.2 q1).2.1, ⟨(h.2 q1).2.1, ⟨(h.2 q1).2.1, (h.2 q1).2.2.2⟩⟩⟩⟩⟩⟩⟩⟩)⟩)
def T_Mo_comesRight : List pmE := [
  (0, [], .iload 2, 0, 0, 0),
  (1, [], .iconst 1, 0, 0, 0),
  (2, [], .if_icmp .ne 15, 0, 0, 0),
  (5, [], .aload 0, 0, 0, 0),
  (6, [], .getfield 576, 0, 11, 978),
  (9, [], .iconst 36, 1, 0, 0),
  (11, [], .iaload, 0, 0, 0),
  (12, [], .goto 16, 0, 0, 0),
  (15, [], .iconst 0, 0, 0, 0),
  (16, [], .istore 3, 0, 0, 0),
  (17, [], .iload 3, 0, 0, 0),
  (18, [], .aload 0, 0, 0, 0),
  (19, [], .getfield 576, 0, 11, 978),
  (22, [], .iconst 24, 1, 0, 0),
  (24, [], .iload 1, 0, 0, 0),
  (25, [], .iadd, 0, 0, 0),
  (26, [], .iaload, 0, 0, 0),
  (27, [], .iconst 1, 0, 0, 0),
  (28, [], .if_icmp .ne 41, 0, 0, 0),
  (31, [], .aload 0, 0, 0, 0),
  (32, [], .getfield 576, 0, 11, 978),
  (35, [], .iconst 37, 1, 0, 0),
  (37, [], .iaload, 0, 0, 0),
  (38, [], .goto 42, 0, 0, 0),
  (41, [], .iconst 0, 0, 0, 0),
  (42, [], .iadd, 0, 0, 0),
  (43, [], .istore 3, 0, 0, 0),
  (44, [], .aload 0, 0, 0, 0),
  (45, [], .getfield 595, 0, 39, 997),
  (48, [], .iload 1, 0, 0, 0),
  (49, [], .iaload, 0, 0, 0),
  (50, [], .iload 3, 0, 0, 0),
  (51, [], .iadd, 0, 0, 0),
  (52, [], .aload 0, 0, 0, 0),
  (53, [], .getfield 596, 0, 42, 998),
  (56, [], .iload 1, 0, 0, 0),
  (57, [], .iaload, 0, 0, 0),
  (58, [], .if_icmp .le 65, 0, 0, 0),
  (61, [], .iconst 1, 0, 0, 0),
  (62, [], .goto 66, 0, 0, 0),
  (65, [], .iconst 0, 0, 0, 0),
  (66, [], .areturn, 0, 0, 0)]
theorem tk_Mo_comesRight : pm_okT M_Mo_comesRight T_Mo_comesRight = true := by decide +kernel
theorem ok_Mo_comesRight : pm_okm M_Mo_comesRight := pm_okm_of _ 1261 85 1260 43 (by decide +kernel)
set_option maxRecDepth 100000 in
set_option maxHeartbeats 4000000 in
theorem m_Mo_comesRight {d : Nat} {H : pmT} {Q : pmQ} (a1 : Int32) (a2 : Int32)
    (h : (¬ a2 = (1 : Int32) → vp_in ((24 : Int32) + a1) 41 ∧ ((¬ (H.1 56 (((24 : Int32) + a1).toNatClampNeg)) = (1 : Int32) → vp_in a1 12 ∧ ((((H.1 65 a1.toNatClampNeg) + ((0 : Int32) + (0 : Int32))) ≤ (H.1 66 a1.toNatClampNeg) → Q (some (.int (0 : Int32))) H) ∧ (¬ ((H.1 65 a1.toNatClampNeg) + ((0 : Int32) + (0 : Int32))) ≤ (H.1 66 a1.toNatClampNeg) → Q (some (.int (1 : Int32))) H))) ∧ ((H.1 56 (((24 : Int32) + a1).toNatClampNeg)) = (1 : Int32) → vp_in a1 12 ∧ ((((H.1 65 a1.toNatClampNeg) + ((0 : Int32) + (H.1 56 37))) ≤ (H.1 66 a1.toNatClampNeg) → Q (some (.int (0 : Int32))) H) ∧ (¬ ((H.1 65 a1.toNatClampNeg) + ((0 : Int32) + (H.1 56 37))) ≤ (H.1 66 a1.toNatClampNeg) → Q (some (.int (1 : Int32))) H))))) ∧ (a2 = (1 : Int32) → vp_in ((24 : Int32) + a1) 41 ∧ ((¬ (H.1 56 (((24 : Int32) + a1).toNatClampNeg)) = (1 : Int32) → vp_in a1 12 ∧ ((((H.1 65 a1.toNatClampNeg) + ((H.1 56 36) + (0 : Int32))) ≤ (H.1 66 a1.toNatClampNeg) → Q (some (.int (0 : Int32))) H) ∧ (¬ ((H.1 65 a1.toNatClampNeg) + ((H.1 56 36) + (0 : Int32))) ≤ (H.1 66 a1.toNatClampNeg) → Q (some (.int (1 : Int32))) H))) ∧ ((H.1 56 (((24 : Int32) + a1).toNatClampNeg)) = (1 : Int32) → vp_in a1 12 ∧ ((((H.1 65 a1.toNatClampNeg) + ((H.1 56 36) + (H.1 56 37))) ≤ (H.1 66 a1.toNatClampNeg) → Q (some (.int (0 : Int32))) H) ∧ (¬ ((H.1 65 a1.toNatClampNeg) + ((H.1 56 36) + (H.1 56 37))) ≤ (H.1 66 a1.toNatClampNeg) → Q (some (.int (1 : Int32))) H)))))) : pm_R d M_Mo_comesRight [.ref 55, .int a1, .int a2] H Q :=
  pm_walk (n := 39) ok_Mo_comesRight tk_Mo_comesRight rfl (Nat.le_of_ble_eq_true rfl) (show (¬ a2 = (1 : Int32) → vp_in ((24 : Int32) + a1) 41 ∧ ((¬ (H.1 56 (((24 : Int32) + a1).toNatClampNeg)) = (1 : Int32) → vp_in a1 12 ∧ (vp_in a1 12 ∧ ((((H.1 65 a1.toNatClampNeg) + ((0 : Int32) + (0 : Int32))) ≤ (H.1 66 a1.toNatClampNeg) → ((0 : Int32) = 0 ∨ (0 : Int32) = 1) ∧ (Q (some (.int (0 : Int32))) H)) ∧ (¬ ((H.1 65 a1.toNatClampNeg) + ((0 : Int32) + (0 : Int32))) ≤ (H.1 66 a1.toNatClampNeg) → ((1 : Int32) = 0 ∨ (1 : Int32) = 1) ∧ (Q (some (.int (1 : Int32))) H))))) ∧ ((H.1 56 (((24 : Int32) + a1).toNatClampNeg)) = (1 : Int32) → vp_in (37 : Int32) 41 ∧ (vp_in a1 12 ∧ (vp_in a1 12 ∧ ((((H.1 65 a1.toNatClampNeg) + ((0 : Int32) + (H.1 56 37))) ≤ (H.1 66 a1.toNatClampNeg) → ((0 : Int32) = 0 ∨ (0 : Int32) = 1) ∧ (Q (some (.int (0 : Int32))) H)) ∧ (¬ ((H.1 65 a1.toNatClampNeg) + ((0 : Int32) + (H.1 56 37))) ≤ (H.1 66 a1.toNatClampNeg) → ((1 : Int32) = 0 ∨ (1 : Int32) = 1) ∧ (Q (some (.int (1 : Int32))) H)))))))) ∧ (a2 = (1 : Int32) → vp_in (36 : Int32) 41 ∧ (vp_in ((24 : Int32) + a1) 41 ∧ ((¬ (H.1 56 (((24 : Int32) + a1).toNatClampNeg)) = (1 : Int32) → vp_in a1 12 ∧ (vp_in a1 12 ∧ ((((H.1 65 a1.toNatClampNeg) + ((H.1 56 36) + (0 : Int32))) ≤ (H.1 66 a1.toNatClampNeg) → ((0 : Int32) = 0 ∨ (0 : Int32) = 1) ∧ (Q (some (.int (0 : Int32))) H)) ∧ (¬ ((H.1 65 a1.toNatClampNeg) + ((H.1 56 36) + (0 : Int32))) ≤ (H.1 66 a1.toNatClampNeg) → ((1 : Int32) = 0 ∨ (1 : Int32) = 1) ∧ (Q (some (.int (1 : Int32))) H))))) ∧ ((H.1 56 (((24 : Int32) + a1).toNatClampNeg)) = (1 : Int32) → vp_in (37 : Int32) 41 ∧ (vp_in a1 12 ∧ (vp_in a1 12 ∧ ((((H.1 65 a1.toNatClampNeg) + ((H.1 56 36) + (H.1 56 37))) ≤ (H.1 66 a1.toNatClampNeg) → ((0 : Int32) = 0 ∨ (0 : Int32) = 1) ∧ (Q (some (.int (0 : Int32))) H)) ∧ (¬ ((H.1 65 a1.toNatClampNeg) + ((H.1 56 36) + (H.1 56 37))) ≤ (H.1 66 a1.toNatClampNeg) → ((1 : Int32) = 0 ∨ (1 : Int32) = 1) ∧ (Q (some (.int (1 : Int32))) H))))))))) from ⟨fun q1 => ⟨(h.1 q1).1, ⟨fun q2 => ⟨((h.1 q1).2.1 q2).1, ⟨((h.1 q1).2.1 q2).1, ⟨fun q3 => ⟨Or.inl rfl, (((h.1 q1).2.1 q2).2.1 q3)⟩, fun q3 => ⟨Or.inr rfl, (((h.1 q1).2.1 q2).2.2 q3)⟩⟩⟩⟩, fun q2 => ⟨(pm_ik rfl), ⟨((h.1 q1).2.2 q2).1, ⟨((h.1 q1).2.2 q2).1, ⟨fun q4 => ⟨Or.inl rfl, (((h.1 q1).2.2 q2).2.1 q4)⟩, fun q4 => ⟨Or.inr rfl, (((h.1 q1).2.2 q2).2.2 q4)⟩⟩⟩⟩⟩⟩⟩, fun q1 => ⟨(pm_ik rfl), ⟨(h.2 q1).1, ⟨fun q5 => ⟨((h.2 q1).2.1 q5).1, ⟨((h.2 q1).2.1 q5).1, ⟨fun q6 => ⟨Or.inl rfl, (((h.2 q1).2.1 q5).2.1 q6)⟩, fun q6 => ⟨Or.inr rfl, (((h.2 q1).2.1 q5).2.2 q6)⟩⟩⟩⟩, fun q5 => ⟨(pm_ik rfl), ⟨((h.2 q1).2.2 q5).1, ⟨((h.2 q1).2.2 q5).1, ⟨fun q7 => ⟨Or.inl rfl, (((h.2 q1).2.2 q5).2.1 q7)⟩, fun q7 => ⟨Or.inr rfl, (((h.2 q1).2.2 q5).2.2 q7)⟩⟩⟩⟩⟩⟩⟩⟩⟩)
def T_Mo_addsFor : List pmE := [
  (0, [], .iload 3, 0, 0, 0),
  (1, [], .ifCond .eq 8, 0, 0, 0),
  (4, [], .iconst 1, 0, 0, 0),
  (5, [], .goto 9, 0, 0, 0),
  (8, [], .iconst 0, 0, 0, 0),
  (9, [], .istore 4, 1, 0, 0),
  (11, [], .iconst 6, 1, 0, 0),
  (13, [], .iconst 2, 0, 0, 0),
  (14, [], .iload 4, 1, 0, 0),
  (16, [], .imul, 0, 0, 0),
  (17, [], .iadd, 0, 0, 0),
  (18, [], .iconst 2, 0, 0, 0),
  (19, [], .iload 2, 0, 0, 0),
  (20, [], .imul, 0, 0, 0),
  (21, [], .isub, 0, 0, 0),
  (22, [], .aload 0, 0, 0, 0),
  (23, [], .getfield 597, 0, 45, 999),
  (26, [], .iload 1, 0, 0, 0),
  (27, [], .iaload, 0, 0, 0),
  (28, [], .isub, 0, 0, 0),
  (29, [], .istore 5, 1, 0, 0),
  (31, [], .iload 5, 1, 0, 0),
  (33, [], .iconst 1, 0, 0, 0),
  (34, [], .if_icmp .ge 41, 0, 0, 0),
  (37, [], .iconst 1, 0, 0, 0),
  (38, [], .goto 43, 0, 0, 0),
  (41, [], .iload 5, 1, 0, 0),
  (43, [], .istore 5, 1, 0, 0),
  (45, [], .aload 0, 0, 0, 0),
  (46, [], .getfield 588, 0, 101, 990),
  (49, [], .ifCond .lt 129, 0, 0, 0),
  (52, [], .aload 0, 0, 0, 0),
  (53, [], .getfield 594, 0, 36, 996),
  (56, [], .iconst 0, 0, 0, 0),
  (57, [], .aload 0, 0, 0, 0),
  (58, [], .getfield 595, 0, 39, 997),
  (61, [], .iload 1, 0, 0, 0),
  (62, [], .iaload, 0, 0, 0),
  (63, [], .iastore, 0, 0, 0),
  (64, [], .aload 0, 0, 0, 0),
  (65, [], .getfield 594, 0, 36, 996),
  (68, [], .iconst 1, 0, 0, 0),
  (69, [], .aload 0, 0, 0, 0),
  (70, [], .getfield 596, 0, 42, 998),
  (73, [], .iload 1, 0, 0, 0),
  (74, [], .iaload, 0, 0, 0),
  (75, [], .iastore, 0, 0, 0),
  (76, [], .aload 0, 0, 0, 0),
  (77, [], .getfield 594, 0, 36, 996),
  (80, [], .iconst 2, 0, 0, 0),
  (81, [], .iload 4, 1, 0, 0),
  (83, [], .iastore, 0, 0, 0),
  (84, [], .aload 0, 0, 0, 0),
  (85, [], .getfield 594, 0, 36, 996),
  (88, [], .iconst 3, 0, 0, 0),
  (89, [], .iload 2, 0, 0, 0),
  (90, [], .iastore, 0, 0, 0),
  (91, [], .aload 0, 0, 0, 0),
  (92, [], .getfield 594, 0, 36, 996),
  (95, [], .iconst 4, 0, 0, 0),
  (96, [], .aload 0, 0, 0, 0),
  (97, [], .getfield 576, 0, 11, 978),
  (100, [], .iconst 24, 1, 0, 0),
  (102, [], .iload 1, 0, 0, 0),
  (103, [], .iadd, 0, 0, 0),
  (104, [], .iaload, 0, 0, 0),
  (105, [], .iastore, 0, 0, 0),
  (106, [], .aload 0, 0, 0, 0),
  (107, [], .getfield 594, 0, 36, 996),
  (110, [], .iconst 5, 0, 0, 0),
  (111, [], .aload 0, 0, 0, 0),
  (112, [], .getfield 597, 0, 45, 999),
  (115, [], .iload 1, 0, 0, 0),
  (116, [], .iaload, 0, 0, 0),
  (117, [], .iastore, 0, 0, 0),
  (118, [], .aload 0, 0, 0, 0),
  (119, [], .iconst 0, 0, 0, 0),
  (120, [], .aload 0, 0, 0, 0),
  (121, [], .getfield 588, 0, 101, 990),
  (124, [], .invokeinterface 170 653, 0, 206, 1203),
  (127, [], .istore 5, 1, 0, 0),
  (129, [], .iload 5, 1, 0, 0),
  (131, [], .ifCond .ge 138, 0, 0, 0),
  (134, [], .iconst 0, 0, 0, 0),
  (135, [], .goto 152, 0, 0, 0),
  (138, [], .iload 5, 1, 0, 0),
  (140, [], .iconst 99, 1, 0, 0),
  (142, [], .if_icmp .le 150, 0, 0, 0),
  (145, [], .iconst 99, 1, 0, 0),
  (147, [], .goto 152, 0, 0, 0),
  (150, [], .iload 5, 1, 0, 0),
  (152, [], .ireturn, 0, 0, 0)]
theorem tk_Mo_addsFor : pm_okT M_Mo_addsFor T_Mo_addsFor = true := by decide +kernel
theorem ok_Mo_addsFor : pm_okm M_Mo_addsFor := pm_okm_of _ 1265 85 1264 44 (by decide +kernel)
set_option maxRecDepth 100000 in
set_option maxHeartbeats 4000000 in
theorem m_Mo_addsFor {d : Nat} {H : pmT} {Q : pmQ} (a1 : Int32) (a2 : Int32) (a3 : Int32)
    (h : (a3 = 0 → vp_in a1 12 ∧ (((1 : Int32) ≤ ((((6 : Int32) + ((2 : Int32) * (0 : Int32))) - ((2 : Int32) * a2)) - (H.1 67 a1.toNatClampNeg)) → ((H.1 55 12) < 0 → (0 ≤ ((((6 : Int32) + ((2 : Int32) * (0 : Int32))) - ((2 : Int32) * a2)) - (H.1 67 a1.toNatClampNeg)) → (((((6 : Int32) + ((2 : Int32) * (0 : Int32))) - ((2 : Int32) * a2)) - (H.1 67 a1.toNatClampNeg)) ≤ (99 : Int32) → Q (some (.int ((((6 : Int32) + ((2 : Int32) * (0 : Int32))) - ((2 : Int32) * a2)) - (H.1 67 a1.toNatClampNeg)))) H) ∧ (¬ ((((6 : Int32) + ((2 : Int32) * (0 : Int32))) - ((2 : Int32) * a2)) - (H.1 67 a1.toNatClampNeg)) ≤ (99 : Int32) → Q (some (.int (99 : Int32))) H)) ∧ (¬ 0 ≤ ((((6 : Int32) + ((2 : Int32) * (0 : Int32))) - ((2 : Int32) * a2)) - (H.1 67 a1.toNatClampNeg)) → Q (some (.int (0 : Int32))) H)) ∧ (¬ (H.1 55 12) < 0 → vp_in ((24 : Int32) + a1) 41 ∧ (pm_R d M_Mo_workOut [.ref 55, .int (0 : Int32), .int (H.1 55 12)] ((pm_up (pm_up (pm_up (pm_up (pm_up (pm_up H.1 64 0 (H.1 65 a1.toNatClampNeg)) 64 1 (H.1 66 a1.toNatClampNeg)) 64 2 (0 : Int32)) 64 3 a2) 64 4 (H.1 56 (((24 : Int32) + a1).toNatClampNeg))) 64 5 (H.1 67 a1.toNatClampNeg)), H.2) (pm_i (fun x2 H1 => (0 ≤ x2 → (x2 ≤ (99 : Int32) → Q (some (.int x2)) H1) ∧ (¬ x2 ≤ (99 : Int32) → Q (some (.int (99 : Int32))) H1)) ∧ (¬ 0 ≤ x2 → Q (some (.int (0 : Int32))) H1)))))) ∧ (¬ (1 : Int32) ≤ ((((6 : Int32) + ((2 : Int32) * (0 : Int32))) - ((2 : Int32) * a2)) - (H.1 67 a1.toNatClampNeg)) → ((H.1 55 12) < 0 → Q (some (.int (1 : Int32))) H) ∧ (¬ (H.1 55 12) < 0 → vp_in ((24 : Int32) + a1) 41 ∧ (pm_R d M_Mo_workOut [.ref 55, .int (0 : Int32), .int (H.1 55 12)] ((pm_up (pm_up (pm_up (pm_up (pm_up (pm_up H.1 64 0 (H.1 65 a1.toNatClampNeg)) 64 1 (H.1 66 a1.toNatClampNeg)) 64 2 (0 : Int32)) 64 3 a2) 64 4 (H.1 56 (((24 : Int32) + a1).toNatClampNeg))) 64 5 (H.1 67 a1.toNatClampNeg)), H.2) (pm_i (fun x4 H3 => (0 ≤ x4 → (x4 ≤ (99 : Int32) → Q (some (.int x4)) H3) ∧ (¬ x4 ≤ (99 : Int32) → Q (some (.int (99 : Int32))) H3)) ∧ (¬ 0 ≤ x4 → Q (some (.int (0 : Int32))) H3)))))))) ∧ (¬ a3 = 0 → vp_in a1 12 ∧ (((1 : Int32) ≤ ((((6 : Int32) + ((2 : Int32) * (1 : Int32))) - ((2 : Int32) * a2)) - (H.1 67 a1.toNatClampNeg)) → ((H.1 55 12) < 0 → (0 ≤ ((((6 : Int32) + ((2 : Int32) * (1 : Int32))) - ((2 : Int32) * a2)) - (H.1 67 a1.toNatClampNeg)) → (((((6 : Int32) + ((2 : Int32) * (1 : Int32))) - ((2 : Int32) * a2)) - (H.1 67 a1.toNatClampNeg)) ≤ (99 : Int32) → Q (some (.int ((((6 : Int32) + ((2 : Int32) * (1 : Int32))) - ((2 : Int32) * a2)) - (H.1 67 a1.toNatClampNeg)))) H) ∧ (¬ ((((6 : Int32) + ((2 : Int32) * (1 : Int32))) - ((2 : Int32) * a2)) - (H.1 67 a1.toNatClampNeg)) ≤ (99 : Int32) → Q (some (.int (99 : Int32))) H)) ∧ (¬ 0 ≤ ((((6 : Int32) + ((2 : Int32) * (1 : Int32))) - ((2 : Int32) * a2)) - (H.1 67 a1.toNatClampNeg)) → Q (some (.int (0 : Int32))) H)) ∧ (¬ (H.1 55 12) < 0 → vp_in ((24 : Int32) + a1) 41 ∧ (pm_R d M_Mo_workOut [.ref 55, .int (0 : Int32), .int (H.1 55 12)] ((pm_up (pm_up (pm_up (pm_up (pm_up (pm_up H.1 64 0 (H.1 65 a1.toNatClampNeg)) 64 1 (H.1 66 a1.toNatClampNeg)) 64 2 (1 : Int32)) 64 3 a2) 64 4 (H.1 56 (((24 : Int32) + a1).toNatClampNeg))) 64 5 (H.1 67 a1.toNatClampNeg)), H.2) (pm_i (fun x6 H5 => (0 ≤ x6 → (x6 ≤ (99 : Int32) → Q (some (.int x6)) H5) ∧ (¬ x6 ≤ (99 : Int32) → Q (some (.int (99 : Int32))) H5)) ∧ (¬ 0 ≤ x6 → Q (some (.int (0 : Int32))) H5)))))) ∧ (¬ (1 : Int32) ≤ ((((6 : Int32) + ((2 : Int32) * (1 : Int32))) - ((2 : Int32) * a2)) - (H.1 67 a1.toNatClampNeg)) → ((H.1 55 12) < 0 → Q (some (.int (1 : Int32))) H) ∧ (¬ (H.1 55 12) < 0 → vp_in ((24 : Int32) + a1) 41 ∧ (pm_R d M_Mo_workOut [.ref 55, .int (0 : Int32), .int (H.1 55 12)] ((pm_up (pm_up (pm_up (pm_up (pm_up (pm_up H.1 64 0 (H.1 65 a1.toNatClampNeg)) 64 1 (H.1 66 a1.toNatClampNeg)) 64 2 (1 : Int32)) 64 3 a2) 64 4 (H.1 56 (((24 : Int32) + a1).toNatClampNeg))) 64 5 (H.1 67 a1.toNatClampNeg)), H.2) (pm_i (fun x8 H7 => (0 ≤ x8 → (x8 ≤ (99 : Int32) → Q (some (.int x8)) H7) ∧ (¬ x8 ≤ (99 : Int32) → Q (some (.int (99 : Int32))) H7)) ∧ (¬ 0 ≤ x8 → Q (some (.int (0 : Int32))) H7))))))))) : pm_R (d + 1) M_Mo_addsFor [.ref 55, .int a1, .int a2, .int a3] H Q :=
  pm_walk (n := 87) ok_Mo_addsFor tk_Mo_addsFor rfl (Nat.le_of_ble_eq_true rfl) (show (a3 = 0 → vp_in a1 12 ∧ (((1 : Int32) ≤ ((((6 : Int32) + ((2 : Int32) * (0 : Int32))) - ((2 : Int32) * a2)) - (H.1 67 a1.toNatClampNeg)) → ((H.1 55 12) < 0 → (0 ≤ ((((6 : Int32) + ((2 : Int32) * (0 : Int32))) - ((2 : Int32) * a2)) - (H.1 67 a1.toNatClampNeg)) → (((((6 : Int32) + ((2 : Int32) * (0 : Int32))) - ((2 : Int32) * a2)) - (H.1 67 a1.toNatClampNeg)) ≤ (99 : Int32) → Q (some (.int ((((6 : Int32) + ((2 : Int32) * (0 : Int32))) - ((2 : Int32) * a2)) - (H.1 67 a1.toNatClampNeg)))) H) ∧ (¬ ((((6 : Int32) + ((2 : Int32) * (0 : Int32))) - ((2 : Int32) * a2)) - (H.1 67 a1.toNatClampNeg)) ≤ (99 : Int32) → Q (some (.int (99 : Int32))) H)) ∧ (¬ 0 ≤ ((((6 : Int32) + ((2 : Int32) * (0 : Int32))) - ((2 : Int32) * a2)) - (H.1 67 a1.toNatClampNeg)) → Q (some (.int (0 : Int32))) H)) ∧ (¬ (H.1 55 12) < 0 → vp_in a1 12 ∧ (vp_in (0 : Int32) 6 ∧ (vp_in a1 12 ∧ (vp_in (1 : Int32) 6 ∧ (vp_in (2 : Int32) 6 ∧ (vp_in (3 : Int32) 6 ∧ (vp_in ((24 : Int32) + a1) 41 ∧ (vp_in (4 : Int32) 6 ∧ (vp_in a1 12 ∧ (vp_in (5 : Int32) 6 ∧ (pm_R d M_Mo_workOut [.ref 55, .int (0 : Int32), .int (H.1 55 12)] ((pm_up (pm_up (pm_up (pm_up (pm_up (pm_up H.1 64 0 (H.1 65 a1.toNatClampNeg)) 64 1 (H.1 66 a1.toNatClampNeg)) 64 2 (0 : Int32)) 64 3 a2) 64 4 (H.1 56 (((24 : Int32) + a1).toNatClampNeg))) 64 5 (H.1 67 a1.toNatClampNeg)), H.2) (pm_i (fun x2 H1 => (0 ≤ x2 → (x2 ≤ (99 : Int32) → Q (some (.int x2)) H1) ∧ (¬ x2 ≤ (99 : Int32) → Q (some (.int (99 : Int32))) H1)) ∧ (¬ 0 ≤ x2 → Q (some (.int (0 : Int32))) H1))))))))))))))) ∧ (¬ (1 : Int32) ≤ ((((6 : Int32) + ((2 : Int32) * (0 : Int32))) - ((2 : Int32) * a2)) - (H.1 67 a1.toNatClampNeg)) → ((H.1 55 12) < 0 → (0 ≤ (1 : Int32) → ((1 : Int32) ≤ (99 : Int32) → Q (some (.int (1 : Int32))) H) ∧ (¬ (1 : Int32) ≤ (99 : Int32) → Q (some (.int (99 : Int32))) H)) ∧ (¬ 0 ≤ (1 : Int32) → Q (some (.int (0 : Int32))) H)) ∧ (¬ (H.1 55 12) < 0 → vp_in a1 12 ∧ (vp_in (0 : Int32) 6 ∧ (vp_in a1 12 ∧ (vp_in (1 : Int32) 6 ∧ (vp_in (2 : Int32) 6 ∧ (vp_in (3 : Int32) 6 ∧ (vp_in ((24 : Int32) + a1) 41 ∧ (vp_in (4 : Int32) 6 ∧ (vp_in a1 12 ∧ (vp_in (5 : Int32) 6 ∧ (pm_R d M_Mo_workOut [.ref 55, .int (0 : Int32), .int (H.1 55 12)] ((pm_up (pm_up (pm_up (pm_up (pm_up (pm_up H.1 64 0 (H.1 65 a1.toNatClampNeg)) 64 1 (H.1 66 a1.toNatClampNeg)) 64 2 (0 : Int32)) 64 3 a2) 64 4 (H.1 56 (((24 : Int32) + a1).toNatClampNeg))) 64 5 (H.1 67 a1.toNatClampNeg)), H.2) (pm_i (fun x4 H3 => (0 ≤ x4 → (x4 ≤ (99 : Int32) → Q (some (.int x4)) H3) ∧ (¬ x4 ≤ (99 : Int32) → Q (some (.int (99 : Int32))) H3)) ∧ (¬ 0 ≤ x4 → Q (some (.int (0 : Int32))) H3))))))))))))))))) ∧ (¬ a3 = 0 → vp_in a1 12 ∧ (((1 : Int32) ≤ ((((6 : Int32) + ((2 : Int32) * (1 : Int32))) - ((2 : Int32) * a2)) - (H.1 67 a1.toNatClampNeg)) → ((H.1 55 12) < 0 → (0 ≤ ((((6 : Int32) + ((2 : Int32) * (1 : Int32))) - ((2 : Int32) * a2)) - (H.1 67 a1.toNatClampNeg)) → (((((6 : Int32) + ((2 : Int32) * (1 : Int32))) - ((2 : Int32) * a2)) - (H.1 67 a1.toNatClampNeg)) ≤ (99 : Int32) → Q (some (.int ((((6 : Int32) + ((2 : Int32) * (1 : Int32))) - ((2 : Int32) * a2)) - (H.1 67 a1.toNatClampNeg)))) H) ∧ (¬ ((((6 : Int32) + ((2 : Int32) * (1 : Int32))) - ((2 : Int32) * a2)) - (H.1 67 a1.toNatClampNeg)) ≤ (99 : Int32) → Q (some (.int (99 : Int32))) H)) ∧ (¬ 0 ≤ ((((6 : Int32) + ((2 : Int32) * (1 : Int32))) - ((2 : Int32) * a2)) - (H.1 67 a1.toNatClampNeg)) → Q (some (.int (0 : Int32))) H)) ∧ (¬ (H.1 55 12) < 0 → vp_in a1 12 ∧ (vp_in (0 : Int32) 6 ∧ (vp_in a1 12 ∧ (vp_in (1 : Int32) 6 ∧ (vp_in (2 : Int32) 6 ∧ (vp_in (3 : Int32) 6 ∧ (vp_in ((24 : Int32) + a1) 41 ∧ (vp_in (4 : Int32) 6 ∧ (vp_in a1 12 ∧ (vp_in (5 : Int32) 6 ∧ (pm_R d M_Mo_workOut [.ref 55, .int (0 : Int32), .int (H.1 55 12)] ((pm_up (pm_up (pm_up (pm_up (pm_up (pm_up H.1 64 0 (H.1 65 a1.toNatClampNeg)) 64 1 (H.1 66 a1.toNatClampNeg)) 64 2 (1 : Int32)) 64 3 a2) 64 4 (H.1 56 (((24 : Int32) + a1).toNatClampNeg))) 64 5 (H.1 67 a1.toNatClampNeg)), H.2) (pm_i (fun x6 H5 => (0 ≤ x6 → (x6 ≤ (99 : Int32) → Q (some (.int x6)) H5) ∧ (¬ x6 ≤ (99 : Int32) → Q (some (.int (99 : Int32))) H5)) ∧ (¬ 0 ≤ x6 → Q (some (.int (0 : Int32))) H5))))))))))))))) ∧ (¬ (1 : Int32) ≤ ((((6 : Int32) + ((2 : Int32) * (1 : Int32))) - ((2 : Int32) * a2)) - (H.1 67 a1.toNatClampNeg)) → ((H.1 55 12) < 0 → (0 ≤ (1 : Int32) → ((1 : Int32) ≤ (99 : Int32) → Q (some (.int (1 : Int32))) H) ∧ (¬ (1 : Int32) ≤ (99 : Int32) → Q (some (.int (99 : Int32))) H)) ∧ (¬ 0 ≤ (1 : Int32) → Q (some (.int (0 : Int32))) H)) ∧ (¬ (H.1 55 12) < 0 → vp_in a1 12 ∧ (vp_in (0 : Int32) 6 ∧ (vp_in a1 12 ∧ (vp_in (1 : Int32) 6 ∧ (vp_in (2 : Int32) 6 ∧ (vp_in (3 : Int32) 6 ∧ (vp_in ((24 : Int32) + a1) 41 ∧ (vp_in (4 : Int32) 6 ∧ (vp_in a1 12 ∧ (vp_in (5 : Int32) 6 ∧ (pm_R d M_Mo_workOut [.ref 55, .int (0 : Int32), .int (H.1 55 12)] ((pm_up (pm_up (pm_up (pm_up (pm_up (pm_up H.1 64 0 (H.1 65 a1.toNatClampNeg)) 64 1 (H.1 66 a1.toNatClampNeg)) 64 2 (1 : Int32)) 64 3 a2) 64 4 (H.1 56 (((24 : Int32) + a1).toNatClampNeg))) 64 5 (H.1 67 a1.toNatClampNeg)), H.2) (pm_i (fun x8 H7 => (0 ≤ x8 → (x8 ≤ (99 : Int32) → Q (some (.int x8)) H7) ∧ (¬ x8 ≤ (99 : Int32) → Q (some (.int (99 : Int32))) H7)) ∧ (¬ 0 ≤ x8 → Q (some (.int (0 : Int32))) H7))))))))))))))))) from ⟨fun q1 => ⟨(h.1 q1).1, ⟨fun q2 => ⟨fun q3 => ⟨fun q4 => ⟨fun q5 => (((((h.1 q1).2.1 q2).1 q3).1 q4).1 q5), fun q5 => (((((h.1 q1).2.1 q2).1 q3).1 q4).2 q5)⟩, fun q4 => ((((h.1 q1).2.1 q2).1 q3).2 q4)⟩, fun q3 => ⟨(h.1 q1).1, ⟨(pm_ik rfl), ⟨(h.1 q1).1, ⟨(pm_ik rfl), ⟨(pm_ik rfl), ⟨(pm_ik rfl), ⟨(((h.1 q1).2.1 q2).2 q3).1, ⟨(pm_ik rfl), ⟨(h.1 q1).1, ⟨(pm_ik rfl), pm_mi (((h.1 q1).2.1 q2).2 q3).2 (fun x2 H1 z6 => ⟨fun q7 => ⟨fun q8 => ((z6.1 q7).1 q8), fun q8 => ((z6.1 q7).2 q8)⟩, fun q7 => (z6.2 q7)⟩)⟩⟩⟩⟩⟩⟩⟩⟩⟩⟩⟩, fun q2 => ⟨fun q9 => ⟨fun _ => ⟨fun _ => (((h.1 q1).2.2 q2).1 q9), fun z => absurd (by decide) z⟩, fun z => absurd (by decide) z⟩, fun q9 => ⟨(h.1 q1).1, ⟨(pm_ik rfl), ⟨(h.1 q1).1, ⟨(pm_ik rfl), ⟨(pm_ik rfl), ⟨(pm_ik rfl), ⟨(((h.1 q1).2.2 q2).2 q9).1, ⟨(pm_ik rfl), ⟨(h.1 q1).1, ⟨(pm_ik rfl), pm_mi (((h.1 q1).2.2 q2).2 q9).2 (fun x4 H3 z10 => ⟨fun q11 => ⟨fun q12 => ((z10.1 q11).1 q12), fun q12 => ((z10.1 q11).2 q12)⟩, fun q11 => (z10.2 q11)⟩)⟩⟩⟩⟩⟩⟩⟩⟩⟩⟩⟩⟩⟩, fun q1 => ⟨(h.2 q1).1, ⟨fun q13 => ⟨fun q14 => ⟨fun q15 => ⟨fun q16 => (((((h.2 q1).2.1 q13).1 q14).1 q15).1 q16), fun q16 => (((((h.2 q1).2.1 q13).1 q14).1 q15).2 q16)⟩, fun q15 => ((((h.2 q1).2.1 q13).1 q14).2 q15)⟩, fun q14 => ⟨(h.2 q1).1, ⟨(pm_ik rfl), ⟨(h.2 q1).1, ⟨(pm_ik rfl), ⟨(pm_ik rfl), ⟨(pm_ik rfl), ⟨(((h.2 q1).2.1 q13).2 q14).1, ⟨(pm_ik rfl), ⟨(h.2 q1).1, ⟨(pm_ik rfl), pm_mi (((h.2 q1).2.1 q13).2 q14).2 (fun x6 H5 z17 => ⟨fun q18 => ⟨fun q19 => ((z17.1 q18).1 q19), fun q19 => ((z17.1 q18).2 q19)⟩, fun q18 => (z17.2 q18)⟩)⟩⟩⟩⟩⟩⟩⟩⟩⟩⟩⟩, fun q13 => ⟨fun q20 => ⟨fun _ => ⟨fun _ => (((h.2 q1).2.2 q13).1 q20), fun z => absurd (by decide) z⟩, fun z => absurd (by decide) z⟩, fun q20 => ⟨(h.2 q1).1, ⟨(pm_ik rfl), ⟨(h.2 q1).1, ⟨(pm_ik rfl), ⟨(pm_ik rfl), ⟨(pm_ik rfl), ⟨(((h.2 q1).2.2 q13).2 q20).1, ⟨(pm_ik rfl), ⟨(h.2 q1).1, ⟨(pm_ik rfl), pm_mi (((h.2 q1).2.2 q13).2 q20).2 (fun x8 H7 z21 => ⟨fun q22 => ⟨fun q23 => ((z21.1 q22).1 q23), fun q23 => ((z21.1 q22).2 q23)⟩, fun q22 => (z21.2 q22)⟩)⟩⟩⟩⟩⟩⟩⟩⟩⟩⟩⟩⟩⟩⟩)
def T_Mo_gains : List pmE := [
  (0, [], .iload 2, 0, 0, 0),
  (1, [], .ifCond .eq 41, 0, 0, 0),
  (4, [], .aload 0, 0, 0, 0),
  (5, [], .getfield 595, 0, 39, 997),
  (8, [], .iload 1, 0, 0, 0),
  (9, [], .aload 0, 0, 0, 0),
  (10, [], .getfield 595, 0, 39, 997),
  (13, [], .iload 1, 0, 0, 0),
  (14, [], .iaload, 0, 0, 0),
  (15, [], .iload 3, 0, 0, 0),
  (16, [], .iadd, 0, 0, 0),
  (17, [], .iconst 999, 2, 0, 0),
  (20, [], .if_icmp .le 29, 0, 0, 0),
  (23, [], .iconst 999, 2, 0, 0),
  (26, [], .goto 37, 0, 0, 0),
  (29, [], .aload 0, 0, 0, 0),
  (30, [], .getfield 595, 0, 39, 997),
  (33, [], .iload 1, 0, 0, 0),
  (34, [], .iaload, 0, 0, 0),
  (35, [], .iload 3, 0, 0, 0),
  (36, [], .iadd, 0, 0, 0),
  (37, [], .iastore, 0, 0, 0),
  (38, [], .goto 75, 0, 0, 0),
  (41, [], .aload 0, 0, 0, 0),
  (42, [], .getfield 596, 0, 42, 998),
  (45, [], .iload 1, 0, 0, 0),
  (46, [], .aload 0, 0, 0, 0),
  (47, [], .getfield 596, 0, 42, 998),
  (50, [], .iload 1, 0, 0, 0),
  (51, [], .iaload, 0, 0, 0),
  (52, [], .iload 3, 0, 0, 0),
  (53, [], .iadd, 0, 0, 0),
  (54, [], .iconst 999, 2, 0, 0),
  (57, [], .if_icmp .le 66, 0, 0, 0),
  (60, [], .iconst 999, 2, 0, 0),
  (63, [], .goto 74, 0, 0, 0),
  (66, [], .aload 0, 0, 0, 0),
  (67, [], .getfield 596, 0, 42, 998),
  (70, [], .iload 1, 0, 0, 0),
  (71, [], .iaload, 0, 0, 0),
  (72, [], .iload 3, 0, 0, 0),
  (73, [], .iadd, 0, 0, 0),
  (74, [], .iastore, 0, 0, 0),
  (75, [], .return_, 0, 0, 0)]
theorem tk_Mo_gains : pm_okT M_Mo_gains T_Mo_gains = true := by decide +kernel
theorem ok_Mo_gains : pm_okm M_Mo_gains := pm_okm_of _ 1307 85 1306 53 (by decide +kernel)
set_option maxRecDepth 100000 in
set_option maxHeartbeats 4000000 in
theorem m_Mo_gains {d : Nat} {H : pmT} {Q : pmQ} (a1 : Int32) (a2 : Int32) (a3 : Int32)
    (h : (a2 = 0 → vp_in a1 12 ∧ ((((H.1 66 a1.toNatClampNeg) + a3) ≤ (999 : Int32) → Q none ((pm_up H.1 66 a1.toNatClampNeg ((H.1 66 a1.toNatClampNeg) + a3)), H.2)) ∧ (¬ ((H.1 66 a1.toNatClampNeg) + a3) ≤ (999 : Int32) → Q none ((pm_up H.1 66 a1.toNatClampNeg (999 : Int32)), H.2)))) ∧ (¬ a2 = 0 → vp_in a1 12 ∧ ((((H.1 65 a1.toNatClampNeg) + a3) ≤ (999 : Int32) → Q none ((pm_up H.1 65 a1.toNatClampNeg ((H.1 65 a1.toNatClampNeg) + a3)), H.2)) ∧ (¬ ((H.1 65 a1.toNatClampNeg) + a3) ≤ (999 : Int32) → Q none ((pm_up H.1 65 a1.toNatClampNeg (999 : Int32)), H.2))))) : pm_R d M_Mo_gains [.ref 55, .int a1, .int a2, .int a3] H Q :=
  pm_walk (n := 22) ok_Mo_gains tk_Mo_gains rfl (Nat.le_of_ble_eq_true rfl) (show (a2 = 0 → vp_in a1 12 ∧ ((((H.1 66 a1.toNatClampNeg) + a3) ≤ (999 : Int32) → vp_in a1 12 ∧ (vp_in a1 12 ∧ (Q none ((pm_up H.1 66 a1.toNatClampNeg ((H.1 66 a1.toNatClampNeg) + a3)), H.2)))) ∧ (¬ ((H.1 66 a1.toNatClampNeg) + a3) ≤ (999 : Int32) → vp_in a1 12 ∧ (Q none ((pm_up H.1 66 a1.toNatClampNeg (999 : Int32)), H.2))))) ∧ (¬ a2 = 0 → vp_in a1 12 ∧ ((((H.1 65 a1.toNatClampNeg) + a3) ≤ (999 : Int32) → vp_in a1 12 ∧ (vp_in a1 12 ∧ (Q none ((pm_up H.1 65 a1.toNatClampNeg ((H.1 65 a1.toNatClampNeg) + a3)), H.2)))) ∧ (¬ ((H.1 65 a1.toNatClampNeg) + a3) ≤ (999 : Int32) → vp_in a1 12 ∧ (Q none ((pm_up H.1 65 a1.toNatClampNeg (999 : Int32)), H.2))))) from ⟨fun q1 => ⟨(h.1 q1).1, ⟨fun q2 => ⟨(h.1 q1).1, ⟨(h.1 q1).1, ((h.1 q1).2.1 q2)⟩⟩, fun q2 => ⟨(h.1 q1).1, ((h.1 q1).2.2 q2)⟩⟩⟩, fun q1 => ⟨(h.2 q1).1, ⟨fun q3 => ⟨(h.2 q1).1, ⟨(h.2 q1).1, ((h.2 q1).2.1 q3)⟩⟩, fun q3 => ⟨(h.2 q1).1, ((h.2 q1).2.2 q3)⟩⟩⟩⟩)
def T_Mo_plays : List pmE := [
  (0, [], .aload 0, 0, 0, 0),
  (1, [], .iload 1, 0, 0, 0),
  (2, [], .iload 2, 0, 0, 0),
  (3, [], .invokeinterface 174 653, 0, 216, 1258),
  (6, [], .istore 3, 0, 0, 0),
  (7, [], .aload 0, 0, 0, 0),
  (8, [], .iload 1, 0, 0, 0),
  (9, [], .iload 3, 0, 0, 0),
  (10, [], .aload 0, 0, 0, 0),
  (11, [], .iload 1, 0, 0, 0),
  (12, [], .iload 2, 0, 0, 0),
  (13, [], .iload 3, 0, 0, 0),
  (14, [], .invokeinterface 175 657, 0, 220, 1262),
  (17, [], .invokeinterface 176 656, 0, 224, 1304),
  (20, [], .aload 0, 0, 0, 0),
  (21, [], .getfield 597, 0, 45, 999),
  (24, [], .iload 1, 0, 0, 0),
  (25, [], .dup2, 0, 0, 0),
  (26, [], .iaload, 0, 0, 0),
  (27, [], .iconst 1, 0, 0, 0),
  (28, [], .iadd, 0, 0, 0),
  (29, [], .iastore, 0, 0, 0),
  (30, [], .aload 0, 0, 0, 0),
  (31, [], .getfield 598, 0, 48, 1000),
  (34, [], .iload 1, 0, 0, 0),
  (35, [], .dup2, 0, 0, 0),
  (36, [], .iaload, 0, 0, 0),
  (37, [], .iload 3, 0, 0, 0),
  (38, [], .ifCond .eq 45, 0, 0, 0),
  (41, [], .iconst 1, 0, 0, 0),
  (42, [], .goto 46, 0, 0, 0),
  (45, [], .iconst 0, 0, 0, 0),
  (46, [], .iadd, 0, 0, 0),
  (47, [], .iastore, 0, 0, 0),
  (48, [], .iload 3, 0, 0, 0),
  (49, [], .areturn, 0, 0, 0)]
theorem tk_Mo_plays : pm_okT M_Mo_plays T_Mo_plays = true := by decide +kernel
theorem ok_Mo_plays : pm_okm M_Mo_plays := pm_okm_of _ 1303 85 1302 52 (by decide +kernel)
set_option maxRecDepth 100000 in
set_option maxHeartbeats 4000000 in
theorem m_Mo_plays {d : Nat} {H : pmT} {Q : pmQ} (a1 : Int32) (a2 : Int32)
    (h : pm_R d M_Mo_comesRight [.ref 55, .int a1, .int a2] H (pm_i (fun x2 H1 => pm_R d M_Mo_addsFor [.ref 55, .int a1, .int a2, .int x2] H1 (pm_i (fun x4 H3 => pm_R d M_Mo_gains [.ref 55, .int a1, .int x2, .int x4] H3 (pm_v (fun H5 => vp_in a1 12 ∧ ((x2 = 0 → (x2 = 0 ∨ x2 = 1) ∧ (Q (some (.int x2)) ((pm_up (pm_up H5.1 67 a1.toNatClampNeg ((H5.1 67 a1.toNatClampNeg) + (1 : Int32))) 68 a1.toNatClampNeg ((H5.1 68 a1.toNatClampNeg) + (0 : Int32))), H5.2))) ∧ (¬ x2 = 0 → (x2 = 0 ∨ x2 = 1) ∧ (Q (some (.int x2)) ((pm_up (pm_up H5.1 67 a1.toNatClampNeg ((H5.1 67 a1.toNatClampNeg) + (1 : Int32))) 68 a1.toNatClampNeg ((H5.1 68 a1.toNatClampNeg) + (1 : Int32))), H5.2))))))))))) : pm_R (d + 1) M_Mo_plays [.ref 55, .int a1, .int a2] H Q :=
  pm_walk (n := 35) ok_Mo_plays tk_Mo_plays rfl (Nat.le_of_ble_eq_true rfl) (show pm_R d M_Mo_comesRight [.ref 55, .int a1, .int a2] H (pm_i (fun x2 H1 => pm_R d M_Mo_addsFor [.ref 55, .int a1, .int a2, .int x2] H1 (pm_i (fun x4 H3 => pm_R d M_Mo_gains [.ref 55, .int a1, .int x2, .int x4] H3 (pm_v (fun H5 => vp_in a1 12 ∧ (vp_in a1 12 ∧ (vp_in a1 12 ∧ ((x2 = 0 → vp_in a1 12 ∧ ((x2 = 0 ∨ x2 = 1) ∧ (Q (some (.int x2)) ((pm_up (pm_up H5.1 67 a1.toNatClampNeg ((H5.1 67 a1.toNatClampNeg) + (1 : Int32))) 68 a1.toNatClampNeg ((H5.1 68 a1.toNatClampNeg) + (0 : Int32))), H5.2)))) ∧ (¬ x2 = 0 → vp_in a1 12 ∧ ((x2 = 0 ∨ x2 = 1) ∧ (Q (some (.int x2)) ((pm_up (pm_up H5.1 67 a1.toNatClampNeg ((H5.1 67 a1.toNatClampNeg) + (1 : Int32))) 68 a1.toNatClampNeg ((H5.1 68 a1.toNatClampNeg) + (1 : Int32))), H5.2))))))))))))) from pm_mi h (fun x2 H1 z1 => pm_mi z1 (fun x4 H3 z2 => pm_mv' z2 (fun H5 z3 => ⟨z3.1, ⟨z3.1, ⟨z3.1, ⟨fun q4 => ⟨z3.1, ⟨(z3.2.1 q4).1, (z3.2.1 q4).2⟩⟩, fun q4 => ⟨z3.1, ⟨(z3.2.2 q4).1, (z3.2.2 q4).2⟩⟩⟩⟩⟩⟩))))
def T_Mo_nightOf : List pmE := [
  (0, [], .aload 0, 0, 0, 0),
  (1, [], .getfield 595, 0, 39, 997),
  (4, [], .iload 1, 0, 0, 0),
  (5, [], .dup2, 0, 0, 0),
  (6, [], .iaload, 0, 0, 0),
  (7, [], .aload 0, 0, 0, 0),
  (8, [], .getfield 595, 0, 39, 997),
  (11, [], .iload 1, 0, 0, 0),
  (12, [], .iaload, 0, 0, 0),
  (13, [], .aload 0, 0, 0, 0),
  (14, [], .getfield 599, 0, 213, 1001),
  (17, [], .imul, 0, 0, 0),
  (18, [], .iconst 12, 1, 0, 0),
  (20, [], .idiv, 0, 0, 0),
  (21, [], .isub, 0, 0, 0),
  (22, [], .iastore, 0, 0, 0),
  (23, [], .aload 0, 0, 0, 0),
  (24, [], .getfield 596, 0, 42, 998),
  (27, [], .iload 1, 0, 0, 0),
  (28, [], .dup2, 0, 0, 0),
  (29, [], .iaload, 0, 0, 0),
  (30, [], .aload 0, 0, 0, 0),
  (31, [], .getfield 596, 0, 42, 998),
  (34, [], .iload 1, 0, 0, 0),
  (35, [], .iaload, 0, 0, 0),
  (36, [], .aload 0, 0, 0, 0),
  (37, [], .getfield 599, 0, 213, 1001),
  (40, [], .imul, 0, 0, 0),
  (41, [], .iconst 12, 1, 0, 0),
  (43, [], .idiv, 0, 0, 0),
  (44, [], .isub, 0, 0, 0),
  (45, [], .iastore, 0, 0, 0),
  (46, [], .aload 0, 0, 0, 0),
  (47, [], .getfield 596, 0, 42, 998),
  (50, [], .iload 1, 0, 0, 0),
  (51, [], .iaload, 0, 0, 0),
  (52, [], .aload 0, 0, 0, 0),
  (53, [], .getfield 576, 0, 11, 978),
  (56, [], .iconst 39, 1, 0, 0),
  (58, [], .iaload, 0, 0, 0),
  (59, [], .aload 0, 0, 0, 0),
  (60, [], .getfield 598, 0, 48, 1000),
  (63, [], .iload 1, 0, 0, 0),
  (64, [], .iaload, 0, 0, 0),
  (65, [], .imul, 0, 0, 0),
  (66, [], .iconst 2, 0, 0, 0),
  (67, [], .idiv, 0, 0, 0),
  (68, [], .iadd, 0, 0, 0),
  (69, [], .istore 2, 0, 0, 0),
  (70, [], .aload 0, 0, 0, 0),
  (71, [], .getfield 596, 0, 42, 998),
  (74, [], .iload 1, 0, 0, 0),
  (75, [], .iload 2, 0, 0, 0),
  (76, [], .iconst 999, 2, 0, 0),
  (79, [], .if_icmp .le 88, 0, 0, 0),
  (82, [], .iconst 999, 2, 0, 0),
  (85, [], .goto 89, 0, 0, 0),
  (88, [], .iload 2, 0, 0, 0),
  (89, [], .iastore, 0, 0, 0),
  (90, [], .aload 0, 0, 0, 0),
  (91, [], .getfield 597, 0, 45, 999),
  (94, [], .iload 1, 0, 0, 0),
  (95, [], .iconst 0, 0, 0, 0),
  (96, [], .iastore, 0, 0, 0),
  (97, [], .aload 0, 0, 0, 0),
  (98, [], .getfield 598, 0, 48, 1000),
  (101, [], .iload 1, 0, 0, 0),
  (102, [], .iconst 0, 0, 0, 0),
  (103, [], .iastore, 0, 0, 0),
  (104, [], .return_, 0, 0, 0)]
theorem tk_Mo_nightOf : pm_okT M_Mo_nightOf T_Mo_nightOf = true := by decide +kernel
theorem ok_Mo_nightOf : pm_okm M_Mo_nightOf := pm_okm_of _ 1299 85 1298 51 (by decide +kernel)
set_option maxRecDepth 100000 in
set_option maxHeartbeats 4000000 in
theorem m_Mo_nightOf {d : Nat} {H : pmT} {Q : pmQ} (a1 : Int32)
    (h : vp_in a1 12 ∧ (((((upd (H.1 66) a1.toNatClampNeg ((H.1 66 a1.toNatClampNeg) - (((H.1 66 a1.toNatClampNeg) * (H.1 55 23)) / (12 : Int32)))) a1.toNatClampNeg) + (((H.1 56 39) * (H.1 68 a1.toNatClampNeg)) / (2 : Int32))) ≤ (999 : Int32) → Q none ((pm_up (pm_up (pm_up (pm_up (pm_up H.1 65 a1.toNatClampNeg ((H.1 65 a1.toNatClampNeg) - (((H.1 65 a1.toNatClampNeg) * (H.1 55 23)) / (12 : Int32)))) 66 a1.toNatClampNeg ((H.1 66 a1.toNatClampNeg) - (((H.1 66 a1.toNatClampNeg) * (H.1 55 23)) / (12 : Int32)))) 66 a1.toNatClampNeg (((upd (H.1 66) a1.toNatClampNeg ((H.1 66 a1.toNatClampNeg) - (((H.1 66 a1.toNatClampNeg) * (H.1 55 23)) / (12 : Int32)))) a1.toNatClampNeg) + (((H.1 56 39) * (H.1 68 a1.toNatClampNeg)) / (2 : Int32)))) 67 a1.toNatClampNeg (0 : Int32)) 68 a1.toNatClampNeg (0 : Int32)), H.2)) ∧ (¬ (((upd (H.1 66) a1.toNatClampNeg ((H.1 66 a1.toNatClampNeg) - (((H.1 66 a1.toNatClampNeg) * (H.1 55 23)) / (12 : Int32)))) a1.toNatClampNeg) + (((H.1 56 39) * (H.1 68 a1.toNatClampNeg)) / (2 : Int32))) ≤ (999 : Int32) → Q none ((pm_up (pm_up (pm_up (pm_up (pm_up H.1 65 a1.toNatClampNeg ((H.1 65 a1.toNatClampNeg) - (((H.1 65 a1.toNatClampNeg) * (H.1 55 23)) / (12 : Int32)))) 66 a1.toNatClampNeg ((H.1 66 a1.toNatClampNeg) - (((H.1 66 a1.toNatClampNeg) * (H.1 55 23)) / (12 : Int32)))) 66 a1.toNatClampNeg (999 : Int32)) 67 a1.toNatClampNeg (0 : Int32)) 68 a1.toNatClampNeg (0 : Int32)), H.2)))) : pm_R d M_Mo_nightOf [.ref 55, .int a1] H Q :=
  pm_walk (n := 69) ok_Mo_nightOf tk_Mo_nightOf rfl (Nat.le_of_ble_eq_true rfl) (show vp_in a1 12 ∧ (vp_in a1 12 ∧ (¬ (12 : Int32) = 0 ∧ (vp_in a1 12 ∧ (vp_in a1 12 ∧ (vp_in a1 12 ∧ (¬ (12 : Int32) = 0 ∧ (vp_in a1 12 ∧ (vp_in a1 12 ∧ (vp_in (39 : Int32) 41 ∧ (vp_in a1 12 ∧ (¬ (2 : Int32) = 0 ∧ (((((upd (H.1 66) a1.toNatClampNeg ((H.1 66 a1.toNatClampNeg) - (((H.1 66 a1.toNatClampNeg) * (H.1 55 23)) / (12 : Int32)))) a1.toNatClampNeg) + (((H.1 56 39) * (H.1 68 a1.toNatClampNeg)) / (2 : Int32))) ≤ (999 : Int32) → vp_in a1 12 ∧ (vp_in a1 12 ∧ (vp_in a1 12 ∧ (Q none ((pm_up (pm_up (pm_up (pm_up (pm_up H.1 65 a1.toNatClampNeg ((H.1 65 a1.toNatClampNeg) - (((H.1 65 a1.toNatClampNeg) * (H.1 55 23)) / (12 : Int32)))) 66 a1.toNatClampNeg ((H.1 66 a1.toNatClampNeg) - (((H.1 66 a1.toNatClampNeg) * (H.1 55 23)) / (12 : Int32)))) 66 a1.toNatClampNeg (((upd (H.1 66) a1.toNatClampNeg ((H.1 66 a1.toNatClampNeg) - (((H.1 66 a1.toNatClampNeg) * (H.1 55 23)) / (12 : Int32)))) a1.toNatClampNeg) + (((H.1 56 39) * (H.1 68 a1.toNatClampNeg)) / (2 : Int32)))) 67 a1.toNatClampNeg (0 : Int32)) 68 a1.toNatClampNeg (0 : Int32)), H.2))))) ∧ (¬ (((upd (H.1 66) a1.toNatClampNeg ((H.1 66 a1.toNatClampNeg) - (((H.1 66 a1.toNatClampNeg) * (H.1 55 23)) / (12 : Int32)))) a1.toNatClampNeg) + (((H.1 56 39) * (H.1 68 a1.toNatClampNeg)) / (2 : Int32))) ≤ (999 : Int32) → vp_in a1 12 ∧ (vp_in a1 12 ∧ (vp_in a1 12 ∧ (Q none ((pm_up (pm_up (pm_up (pm_up (pm_up H.1 65 a1.toNatClampNeg ((H.1 65 a1.toNatClampNeg) - (((H.1 65 a1.toNatClampNeg) * (H.1 55 23)) / (12 : Int32)))) 66 a1.toNatClampNeg ((H.1 66 a1.toNatClampNeg) - (((H.1 66 a1.toNatClampNeg) * (H.1 55 23)) / (12 : Int32)))) 66 a1.toNatClampNeg (999 : Int32)) 67 a1.toNatClampNeg (0 : Int32)) 68 a1.toNatClampNeg (0 : Int32)), H.2))))))))))))))))) from ⟨h.1, ⟨h.1, ⟨(by decide), ⟨h.1, ⟨h.1, ⟨h.1, ⟨(by decide), ⟨h.1, ⟨h.1, ⟨(pm_ik rfl), ⟨h.1, ⟨(by decide), ⟨fun q1 => ⟨h.1, ⟨h.1, ⟨h.1, (h.2.1 q1)⟩⟩⟩, fun q1 => ⟨h.1, ⟨h.1, ⟨h.1, (h.2.2 q1)⟩⟩⟩⟩⟩⟩⟩⟩⟩⟩⟩⟩⟩⟩⟩⟩)
def T_Mo_playing : List pmE := [
  (0, [], .aload 0, 0, 0, 0),
  (1, [], .iload 1, 0, 0, 0),
  (2, [], .i2l, 0, 0, 0),
  (3, [], .invokeinterface 150 649, 0, 136, 1177),
  (6, [], .ifCond .eq 29, 0, 0, 0),
  (9, [], .iload 2, 0, 0, 0),
  (10, [], .i2l, 0, 0, 0),
  (11, [], .jsr 0, 0, 0, 0),
  (12, [], .jsr 1, 0, 0, 0),
  (13, [], .invokeinterface 143 13, 1, 114, 1152),
  (16, [], .ifCond .eq 29, 0, 0, 0),
  (19, [], .iload 3, 0, 0, 0),
  (20, [], .i2l, 0, 0, 0),
  (21, [], .jsr 0, 0, 0, 0),
  (22, [], .jsr 1, 0, 0, 0),
  (23, [], .invokeinterface 143 13, 1, 114, 1152),
  (26, [], .ifCond .ne 31, 0, 0, 0),
  (29, [], .iconst (-1), 0, 0, 0),
  (30, [], .ireturn, 0, 0, 0),
  (31, [], .aload 0, 0, 0, 0),
  (32, [], .invokeinterface 172 644, 0, 228, 1250),
  (35, [], .aload 0, 0, 0, 0),
  (36, [], .iload 1, 0, 0, 0),
  (37, [], .iload 2, 0, 0, 0),
  (38, [], .invokeinterface 174 653, 0, 216, 1258),
  (41, [], .istore 4, 1, 0, 0),
  (43, [], .iload 3, 0, 0, 0),
  (44, [], .iconst 1, 0, 0, 0),
  (45, [], .if_icmp .ne 59, 0, 0, 0),
  (48, [], .aload 0, 0, 0, 0),
  (49, [], .iload 1, 0, 0, 0),
  (50, [], .iload 2, 0, 0, 0),
  (51, [], .iload 4, 1, 0, 0),
  (53, [], .invokeinterface 175 657, 0, 220, 1262),
  (56, [], .goto 69, 0, 0, 0),
  (59, [], .iload 4, 1, 0, 0),
  (61, [], .ifCond .eq 68, 0, 0, 0),
  (64, [], .iconst 1, 0, 0, 0),
  (65, [], .goto 69, 0, 0, 0),
  (68, [], .iconst 0, 0, 0, 0),
  (69, [], .ireturn, 0, 0, 0)]
theorem tk_Mo_playing : pm_okT M_Mo_playing T_Mo_playing = true := by decide +kernel
theorem ok_Mo_playing : pm_okm M_Mo_playing := pm_okm_of _ 1249 85 1247 1248 (by decide +kernel)
set_option maxRecDepth 100000 in
set_option maxHeartbeats 4000000 in
theorem m_Mo_playing {d : Nat} {H : pmT} {Q : pmQ} (a1 : Int32) (a2 : Int32) (a3 : Int32)
    (h : ((lg_cmp a1.toInt64 (0 : Int64)) < 0 → Q (some (.int (-1 : Int32))) H) ∧ (¬ (lg_cmp a1.toInt64 (0 : Int64)) < 0 → (0 < (lg_cmp a1.toInt64 (((H.1 55 6) - (1 : Int32)).toInt64)) → Q (some (.int (-1 : Int32))) H) ∧ (¬ 0 < (lg_cmp a1.toInt64 (((H.1 55 6) - (1 : Int32)).toInt64)) → ((lg_cmp a2.toInt64 (0 : Int64)) < 0 → Q (some (.int (-1 : Int32))) H) ∧ (¬ (lg_cmp a2.toInt64 (0 : Int64)) < 0 → (0 < (lg_cmp a2.toInt64 (1 : Int64)) → Q (some (.int (-1 : Int32))) H) ∧ (¬ 0 < (lg_cmp a2.toInt64 (1 : Int64)) → ((lg_cmp a3.toInt64 (0 : Int64)) < 0 → Q (some (.int (-1 : Int32))) H) ∧ (¬ (lg_cmp a3.toInt64 (0 : Int64)) < 0 → (0 < (lg_cmp a3.toInt64 (1 : Int64)) → Q (some (.int (-1 : Int32))) H) ∧ (¬ 0 < (lg_cmp a3.toInt64 (1 : Int64)) → pm_R (d + 1) M_Mo_begins1 [.ref 55] H (pm_v (fun H131 => pm_R (d + 1) M_Mo_comesRight [.ref 55, .int a1, .int a2] H131 (pm_i (fun x133 H132 => (¬ a3 = (1 : Int32) → (x133 = 0 → Q (some (.int (0 : Int32))) H132) ∧ (¬ x133 = 0 → Q (some (.int (1 : Int32))) H132)) ∧ (a3 = (1 : Int32) → pm_R (d + 1) M_Mo_addsFor [.ref 55, .int a1, .int a2, .int x133] H132 (pm_i (fun x135 H134 => Q (some (.int x135)) H134)))))))))))))) : pm_R (d + 2) M_Mo_playing [.ref 55, .int a1, .int a2, .int a3] H Q :=
  pm_walk (n := 34) ok_Mo_playing tk_Mo_playing rfl (Nat.le_of_ble_eq_true rfl) (show pm_R (d + 1) M_Mo_isBar [.ref 55, .long a1.toInt64] H (pm_i (fun x2 H1 => (x2 = 0 → Q (some (.int (-1 : Int32))) H1) ∧ (¬ x2 = 0 → pm_R (d + 1) M_Mo_within [.long a2.toInt64, .long (0 : Int64), .long (1 : Int64)] H1 (pm_i (fun x4 H3 => (x4 = 0 → Q (some (.int (-1 : Int32))) H3) ∧ (¬ x4 = 0 → pm_R (d + 1) M_Mo_within [.long a3.toInt64, .long (0 : Int64), .long (1 : Int64)] H3 (pm_i (fun x6 H5 => (¬ x6 = 0 → pm_R (d + 1) M_Mo_begins1 [.ref 55] H5 (pm_v (fun H7 => pm_R (d + 1) M_Mo_comesRight [.ref 55, .int a1, .int a2] H7 (pm_i (fun x9 H8 => (¬ a3 = (1 : Int32) → (x9 = 0 → Q (some (.int (0 : Int32))) H8) ∧ (¬ x9 = 0 → Q (some (.int (1 : Int32))) H8)) ∧ (a3 = (1 : Int32) → pm_R (d + 1) M_Mo_addsFor [.ref 55, .int a1, .int a2, .int x9] H8 (pm_i (fun x11 H10 => Q (some (.int x11)) H10)))))))) ∧ (x6 = 0 → Q (some (.int (-1 : Int32))) H5))))))))) from u_Mo_isBar a1.toInt64 (u_Mo_within a1.toInt64 (0 : Int64) (((H.1 55 6) - (1 : Int32)).toInt64) (⟨fun q1 => ⟨Or.inl rfl, ⟨Or.inl rfl, ⟨fun _ => (h.1 q1), fun z => absurd (by decide) z⟩⟩⟩, fun q1 => ⟨fun q2 => ⟨Or.inl rfl, ⟨Or.inl rfl, ⟨fun _ => ((h.2 q1).1 q2), fun z => absurd (by decide) z⟩⟩⟩, fun q2 => ⟨Or.inr rfl, ⟨Or.inr rfl, ⟨fun z => absurd z (by decide), fun _ => u_Mo_within a2.toInt64 (0 : Int64) (1 : Int64) (⟨fun q3 => ⟨Or.inl rfl, ⟨fun _ => (((h.2 q1).2 q2).1 q3), fun z => absurd (by decide) z⟩⟩, fun q3 => ⟨fun q4 => ⟨Or.inl rfl, ⟨fun _ => ((((h.2 q1).2 q2).2 q3).1 q4), fun z => absurd (by decide) z⟩⟩, fun q4 => ⟨Or.inr rfl, ⟨fun z => absurd z (by decide), fun _ => u_Mo_within a3.toInt64 (0 : Int64) (1 : Int64) (⟨fun q5 => ⟨Or.inl rfl, ⟨fun z => absurd (by decide) z, fun _ => (((((h.2 q1).2 q2).2 q3).2 q4).1 q5)⟩⟩, fun q5 => ⟨fun q6 => ⟨Or.inl rfl, ⟨fun z => absurd (by decide) z, fun _ => ((((((h.2 q1).2 q2).2 q3).2 q4).2 q5).1 q6)⟩⟩, fun q6 => ⟨Or.inr rfl, ⟨fun _ => pm_mv' ((((((h.2 q1).2 q2).2 q3).2 q4).2 q5).2 q6) (fun H131 z7 => pm_mi z7 (fun x133 H132 z8 => ⟨fun q9 => ⟨fun q10 => ((z8.1 q9).1 q10), fun q10 => ((z8.1 q9).2 q10)⟩, fun q9 => (z8.2 q9)⟩)), fun z => absurd z (by decide)⟩⟩⟩⟩)⟩⟩⟩⟩)⟩⟩⟩⟩⟩)))
def T_Mo_isPlan : List pmE := [
  (0, [], .lload 1, 0, 0, 0),
  (1, [], .jsr 60, 1, 231, 1286),
  (4, [], .lcmp, 0, 0, 0),
  (5, [], .ifCond .eq 36, 0, 0, 0),
  (8, [], .aload 0, 0, 0, 0),
  (9, [], .lload 1, 0, 0, 0),
  (10, [], .invokeinterface 150 649, 0, 136, 1177),
  (13, [], .ifCond .ne 36, 0, 0, 0),
  (16, [], .lload 1, 0, 0, 0),
  (17, [], .jsr 20, 1, 233, 1287),
  (20, [], .lcmp, 0, 0, 0),
  (21, [], .ifCond .lt 40, 0, 0, 0),
  (24, [], .aload 0, 0, 0, 0),
  (25, [], .lload 1, 0, 0, 0),
  (26, [], .jsr 20, 1, 233, 1287),
  (29, [], .lsub, 0, 0, 0),
  (30, [], .invokeinterface 150 649, 0, 136, 1177),
  (33, [], .ifCond .eq 40, 0, 0, 0),
  (36, [], .iconst 1, 0, 0, 0),
  (37, [], .goto 41, 0, 0, 0),
  (40, [], .iconst 0, 0, 0, 0),
  (41, [], .areturn, 0, 0, 0)]
theorem tk_Mo_isPlan : pm_okT M_Mo_isPlan T_Mo_isPlan = true := by decide +kernel
theorem ok_Mo_isPlan : pm_okm M_Mo_isPlan := pm_okm_of _ 1285 85 1284 48 (by decide +kernel)
set_option maxRecDepth 100000 in
set_option maxHeartbeats 4000000 in
theorem m_Mo_isPlan {d : Nat} {H : pmT} {Q : pmQ} (a1 : Int64)
    (h : ((lg_cmp a1 (60 : Int64)) = 0 → Q (some (.int (1 : Int32))) H) ∧ (¬ (lg_cmp a1 (60 : Int64)) = 0 → ((lg_cmp a1 (0 : Int64)) < 0 → ((lg_cmp a1 (20 : Int64)) < 0 → Q (some (.int (0 : Int32))) H) ∧ (¬ (lg_cmp a1 (20 : Int64)) < 0 → ((lg_cmp (a1 - (20 : Int64)) (0 : Int64)) < 0 → Q (some (.int (0 : Int32))) H) ∧ (¬ (lg_cmp (a1 - (20 : Int64)) (0 : Int64)) < 0 → (0 < (lg_cmp (a1 - (20 : Int64)) (((H.1 55 6) - (1 : Int32)).toInt64)) → Q (some (.int (0 : Int32))) H) ∧ (¬ 0 < (lg_cmp (a1 - (20 : Int64)) (((H.1 55 6) - (1 : Int32)).toInt64)) → Q (some (.int (1 : Int32))) H)))) ∧ (¬ (lg_cmp a1 (0 : Int64)) < 0 → (0 < (lg_cmp a1 (((H.1 55 6) - (1 : Int32)).toInt64)) → ((lg_cmp a1 (20 : Int64)) < 0 → Q (some (.int (0 : Int32))) H) ∧ (¬ (lg_cmp a1 (20 : Int64)) < 0 → ((lg_cmp (a1 - (20 : Int64)) (0 : Int64)) < 0 → Q (some (.int (0 : Int32))) H) ∧ (¬ (lg_cmp (a1 - (20 : Int64)) (0 : Int64)) < 0 → (0 < (lg_cmp (a1 - (20 : Int64)) (((H.1 55 6) - (1 : Int32)).toInt64)) → Q (some (.int (0 : Int32))) H) ∧ (¬ 0 < (lg_cmp (a1 - (20 : Int64)) (((H.1 55 6) - (1 : Int32)).toInt64)) → Q (some (.int (1 : Int32))) H)))) ∧ (¬ 0 < (lg_cmp a1 (((H.1 55 6) - (1 : Int32)).toInt64)) → Q (some (.int (1 : Int32))) H)))) : pm_R (d + 2) M_Mo_isPlan [.ref 55, .long a1] H Q :=
  pm_walk (n := 21) ok_Mo_isPlan tk_Mo_isPlan rfl (Nat.le_of_ble_eq_true rfl) (show ((lg_cmp a1 (60 : Int64)) = 0 → ((1 : Int32) = 0 ∨ (1 : Int32) = 1) ∧ (Q (some (.int (1 : Int32))) H)) ∧ (¬ (lg_cmp a1 (60 : Int64)) = 0 → pm_R (d + 1) M_Mo_isBar [.ref 55, .long a1] H (pm_i (fun x2 H1 => (¬ x2 = 0 → ((1 : Int32) = 0 ∨ (1 : Int32) = 1) ∧ (Q (some (.int (1 : Int32))) H1)) ∧ (x2 = 0 → ((lg_cmp a1 (20 : Int64)) < 0 → ((0 : Int32) = 0 ∨ (0 : Int32) = 1) ∧ (Q (some (.int (0 : Int32))) H1)) ∧ (¬ (lg_cmp a1 (20 : Int64)) < 0 → pm_R (d + 1) M_Mo_isBar [.ref 55, .long (a1 - (20 : Int64))] H1 (pm_i (fun x4 H3 => (x4 = 0 → ((0 : Int32) = 0 ∨ (0 : Int32) = 1) ∧ (Q (some (.int (0 : Int32))) H3)) ∧ (¬ x4 = 0 → ((1 : Int32) = 0 ∨ (1 : Int32) = 1) ∧ (Q (some (.int (1 : Int32))) H3))))))))) from ⟨fun q1 => ⟨Or.inr rfl, (h.1 q1)⟩, fun q1 => u_Mo_isBar a1 (u_Mo_within a1 (0 : Int64) (((H.1 55 6) - (1 : Int32)).toInt64) (⟨fun q2 => ⟨Or.inl rfl, ⟨Or.inl rfl, ⟨fun z => absurd (by decide) z, fun _ => ⟨fun q3 => ⟨Or.inl rfl, (((h.2 q1).1 q2).1 q3)⟩, fun q3 => u_Mo_isBar (a1 - (20 : Int64)) (u_Mo_within (a1 - (20 : Int64)) (0 : Int64) (((H.1 55 6) - (1 : Int32)).toInt64) (⟨fun q4 => ⟨Or.inl rfl, ⟨Or.inl rfl, ⟨fun _ => ⟨Or.inl rfl, ((((h.2 q1).1 q2).2 q3).1 q4)⟩, fun z => absurd (by decide) z⟩⟩⟩, fun q4 => ⟨fun q5 => ⟨Or.inl rfl, ⟨Or.inl rfl, ⟨fun _ => ⟨Or.inl rfl, (((((h.2 q1).1 q2).2 q3).2 q4).1 q5)⟩, fun z => absurd (by decide) z⟩⟩⟩, fun q5 => ⟨Or.inr rfl, ⟨Or.inr rfl, ⟨fun z => absurd z (by decide), fun _ => ⟨Or.inr rfl, (((((h.2 q1).1 q2).2 q3).2 q4).2 q5)⟩⟩⟩⟩⟩⟩))⟩⟩⟩⟩, fun q2 => ⟨fun q6 => ⟨Or.inl rfl, ⟨Or.inl rfl, ⟨fun z => absurd (by decide) z, fun _ => ⟨fun q7 => ⟨Or.inl rfl, ((((h.2 q1).2 q2).1 q6).1 q7)⟩, fun q7 => u_Mo_isBar (a1 - (20 : Int64)) (u_Mo_within (a1 - (20 : Int64)) (0 : Int64) (((H.1 55 6) - (1 : Int32)).toInt64) (⟨fun q8 => ⟨Or.inl rfl, ⟨Or.inl rfl, ⟨fun _ => ⟨Or.inl rfl, (((((h.2 q1).2 q2).1 q6).2 q7).1 q8)⟩, fun z => absurd (by decide) z⟩⟩⟩, fun q8 => ⟨fun q9 => ⟨Or.inl rfl, ⟨Or.inl rfl, ⟨fun _ => ⟨Or.inl rfl, ((((((h.2 q1).2 q2).1 q6).2 q7).2 q8).1 q9)⟩, fun z => absurd (by decide) z⟩⟩⟩, fun q9 => ⟨Or.inr rfl, ⟨Or.inr rfl, ⟨fun z => absurd z (by decide), fun _ => ⟨Or.inr rfl, ((((((h.2 q1).2 q2).1 q6).2 q7).2 q8).2 q9)⟩⟩⟩⟩⟩⟩))⟩⟩⟩⟩, fun q6 => ⟨Or.inr rfl, ⟨Or.inr rfl, ⟨fun _ => ⟨Or.inr rfl, (((h.2 q1).2 q2).2 q6)⟩, fun z => absurd z (by decide)⟩⟩⟩⟩⟩))⟩)
def T_Mo_does : List pmE := [
  (0, [], .iload 1, 0, 0, 0),
  (1, [], .iconst 60, 1, 0, 0),
  (3, [], .if_icmp .ne 30, 0, 0, 0),
  (6, [], .iconst 0, 0, 0, 0),
  (7, [], .istore 2, 0, 0, 0),
  (8, [0, 2], .iload 2, 0, 0, 0),
  (9, [], .aload 0, 0, 0, 0),
  (10, [], .getfield 582, 0, 111, 984),
  (13, [], .if_icmp .ge 27, 0, 0, 0),
  (16, [], .aload 0, 0, 0, 0),
  (17, [], .iload 2, 0, 0, 0),
  (18, [], .invokeinterface 178 648, 0, 235, 1296),
  (21, [], .iinc 2 1, 0, 0, 0),
  (24, [], .goto 8, 0, 0, 0),
  (27, [], .iconst (-2), 1, 0, 0),
  (29, [], .ireturn, 0, 0, 0),
  (30, [], .aload 0, 0, 0, 0),
  (31, [], .iload 1, 0, 0, 0),
  (32, [], .iconst 20, 1, 0, 0),
  (34, [], .if_icmp .lt 44, 0, 0, 0),
  (37, [], .iload 1, 0, 0, 0),
  (38, [], .iconst 20, 1, 0, 0),
  (40, [], .isub, 0, 0, 0),
  (41, [], .goto 45, 0, 0, 0),
  (44, [], .iload 1, 0, 0, 0),
  (45, [], .iload 1, 0, 0, 0),
  (46, [], .iconst 20, 1, 0, 0),
  (48, [], .if_icmp .lt 55, 0, 0, 0),
  (51, [], .iconst 1, 0, 0, 0),
  (52, [], .goto 56, 0, 0, 0),
  (55, [], .iconst 0, 0, 0, 0),
  (56, [], .invokeinterface 177 653, 0, 238, 1300),
  (59, [], .ifCond .eq 66, 0, 0, 0),
  (62, [], .iconst 1, 0, 0, 0),
  (63, [], .goto 67, 0, 0, 0),
  (66, [], .iconst 0, 0, 0, 0),
  (67, [], .ireturn, 0, 0, 0)]
theorem tk_Mo_does : pm_okT M_Mo_does T_Mo_does = true := by decide +kernel
theorem ok_Mo_does : pm_okm M_Mo_does := pm_okm_of _ 1295 85 1294 50 (by decide +kernel)
set_option maxRecDepth 100000 in
set_option maxHeartbeats 4000000 in
theorem m_Mo_does {d : Nat} {H : pmT} {Q : pmQ} (a1 : Int32)
    (h : (¬ a1 = (60 : Int32) → (a1 < (20 : Int32) → pm_R d M_Mo_plays [.ref 55, .int a1, .int (0 : Int32)] H (pm_i (fun x2 H1 => (x2 = 0 → Q (some (.int (0 : Int32))) H1) ∧ (¬ x2 = 0 → Q (some (.int (1 : Int32))) H1)))) ∧ (¬ a1 < (20 : Int32) → pm_R d M_Mo_plays [.ref 55, .int (a1 - (20 : Int32)), .int (1 : Int32)] H (pm_i (fun x8 H7 => (x8 = 0 → Q (some (.int (0 : Int32))) H7) ∧ (¬ x8 = 0 → Q (some (.int (1 : Int32))) H7))))) ∧ (a1 = (60 : Int32) → pm_RW none (d + 1) M_Mo_does Q 8 [(0, .ref 55), (2, .int (0 : Int32))] [] H)) : pm_R (d + 1) M_Mo_does [.ref 55, .int a1] H Q :=
  pm_walk (n := 21) ok_Mo_does tk_Mo_does rfl (Nat.le_of_ble_eq_true rfl) (show (¬ a1 = (60 : Int32) → (a1 < (20 : Int32) → (a1 < (20 : Int32) → pm_R d M_Mo_plays [.ref 55, .int a1, .int (0 : Int32)] H (pm_i (fun x2 H1 => (x2 = 0 → Q (some (.int (0 : Int32))) H1) ∧ (¬ x2 = 0 → Q (some (.int (1 : Int32))) H1)))) ∧ (¬ a1 < (20 : Int32) → pm_R d M_Mo_plays [.ref 55, .int a1, .int (1 : Int32)] H (pm_i (fun x4 H3 => (x4 = 0 → Q (some (.int (0 : Int32))) H3) ∧ (¬ x4 = 0 → Q (some (.int (1 : Int32))) H3))))) ∧ (¬ a1 < (20 : Int32) → (a1 < (20 : Int32) → pm_R d M_Mo_plays [.ref 55, .int (a1 - (20 : Int32)), .int (0 : Int32)] H (pm_i (fun x6 H5 => (x6 = 0 → Q (some (.int (0 : Int32))) H5) ∧ (¬ x6 = 0 → Q (some (.int (1 : Int32))) H5)))) ∧ (¬ a1 < (20 : Int32) → pm_R d M_Mo_plays [.ref 55, .int (a1 - (20 : Int32)), .int (1 : Int32)] H (pm_i (fun x8 H7 => (x8 = 0 → Q (some (.int (0 : Int32))) H7) ∧ (¬ x8 = 0 → Q (some (.int (1 : Int32))) H7)))))) ∧ (a1 = (60 : Int32) → pm_RW none (d + 1) M_Mo_does Q 8 [(0, .ref 55), (2, .int (0 : Int32))] [] H) from ⟨fun q1 => ⟨fun q2 => ⟨fun _ => pm_mi ((h.1 q1).1 q2) (fun x2 H1 z3 => ⟨fun q4 => (z3.1 q4), fun q4 => (z3.2 q4)⟩), fun z => absurd q2 z⟩, fun q2 => ⟨fun z => absurd z q2, fun _ => pm_mi ((h.1 q1).2 q2) (fun x8 H7 z5 => ⟨fun q6 => (z5.1 q6), fun q6 => (z5.2 q6)⟩)⟩⟩, fun q1 => (h.2 q1)⟩)
set_option maxRecDepth 100000 in
set_option maxHeartbeats 4000000 in
theorem b_Mo_does_8 {d : Nat} {H : pmT} {Q : pmQ} (v2 : Int32)
    (h : ((H.1 55 6) ≤ v2 → Q (some (.int (-2 : Int32))) H) ∧ (¬ (H.1 55 6) ≤ v2 → pm_R d M_Mo_nightOf [.ref 55, .int v2] H (pm_v (fun H1 => pm_RW none (d + 1) M_Mo_does Q 8 [(0, .ref 55), (2, .int (v2 + (1 : Int32)))] [] H1)))) : pm_RW none (d + 1) M_Mo_does Q 8 [(0, .ref 55), (2, .int v2)] [] H :=
  pm_body tk_Mo_does 9 8 (show ((H.1 55 6) ≤ v2 → Q (some (.int (-2 : Int32))) H) ∧ (¬ (H.1 55 6) ≤ v2 → pm_R d M_Mo_nightOf [.ref 55, .int v2] H (pm_v (fun H1 => pm_RW none (d + 1) M_Mo_does Q 8 [(0, .ref 55), (2, .int (v2 + (1 : Int32)))] [] H1))) from ⟨fun q1 => (h.1 q1), fun q1 => (h.2 q1)⟩)
def T_Mo_planMany : List pmE := [
  (0, [], .iconst 0, 0, 0, 0),
  (1, [], .istore 2, 0, 0, 0),
  (2, [0, 1, 2], .iload 2, 0, 0, 0),
  (3, [], .iconst 60, 1, 0, 0),
  (5, [], .if_icmp .ge 37, 0, 0, 0),
  (8, [], .iload 2, 0, 0, 0),
  (9, [], .aload 0, 0, 0, 0),
  (10, [], .getfield 625, 0, 91, 1027),
  (13, [], .iload 1, 0, 0, 0),
  (14, [], .iaload, 0, 0, 0),
  (15, [], .if_icmp .ge 37, 0, 0, 0),
  (18, [], .aload 0, 0, 0, 0),
  (19, [], .aload 0, 0, 0, 0),
  (20, [], .iload 1, 0, 0, 0),
  (21, [], .iload 2, 0, 0, 0),
  (22, [], .invokeinterface 182 654, 0, 241, 1278),
  (25, [], .invokeinterface 183 649, 0, 245, 1282),
  (28, [], .ifCond .eq 37, 0, 0, 0),
  (31, [], .iinc 2 1, 0, 0, 0),
  (34, [], .goto 2, 0, 0, 0),
  (37, [], .iload 2, 0, 0, 0),
  (38, [], .ireturn, 0, 0, 0)]
theorem tk_Mo_planMany : pm_okT M_Mo_planMany T_Mo_planMany = true := by decide +kernel
theorem ok_Mo_planMany : pm_okm M_Mo_planMany := pm_okm_of _ 1277 85 1276 46 (by decide +kernel)
set_option maxRecDepth 100000 in
set_option maxHeartbeats 4000000 in
theorem m_Mo_planMany {d : Nat} {H : pmT} {Q : pmQ} (a1 : Int32)
    (h : pm_RW none (d + 1) M_Mo_planMany Q 2 [(0, .ref 55), (1, .int a1), (2, .int (0 : Int32))] [] H) : pm_R (d + 1) M_Mo_planMany [.ref 55, .int a1] H Q :=
  pm_walk (n := 3) ok_Mo_planMany tk_Mo_planMany rfl (Nat.le_of_ble_eq_true rfl) (show pm_RW none (d + 1) M_Mo_planMany Q 2 [(0, .ref 55), (1, .int a1), (2, .int (0 : Int32))] [] H from h)
set_option maxRecDepth 100000 in
set_option maxHeartbeats 4000000 in
theorem b_Mo_planMany_2 {d : Nat} {H : pmT} {Q : pmQ} (v1 : Int32) (v2 : Int32)
    (h : ((60 : Int32) ≤ v2 → Q (some (.int v2)) H) ∧ (¬ (60 : Int32) ≤ v2 → vp_in v1 6 ∧ (((H.1 82 v1.toNatClampNeg) ≤ v2 → Q (some (.int v2)) H) ∧ (¬ (H.1 82 v1.toNatClampNeg) ≤ v2 → vp_in (((60 : Int32) * v1) + v2) 360 ∧ (pm_R d M_Mo_isPlan [.ref 55, .long (H.2.1 83 ((((60 : Int32) * v1) + v2).toNatClampNeg))] H (pm_i (fun x2 H1 => (x2 = 0 → Q (some (.int v2)) H1) ∧ (¬ x2 = 0 → pm_RW none (d + 1) M_Mo_planMany Q 2 [(0, .ref 55), (1, .int v1), (2, .int (v2 + (1 : Int32)))] [] H1)))))))) : pm_RW none (d + 1) M_Mo_planMany Q 2 [(0, .ref 55), (1, .int v1), (2, .int v2)] [] H :=
  pm_body tk_Mo_planMany 18 2 (show ((60 : Int32) ≤ v2 → Q (some (.int v2)) H) ∧ (¬ (60 : Int32) ≤ v2 → vp_in v1 6 ∧ (((H.1 82 v1.toNatClampNeg) ≤ v2 → Q (some (.int v2)) H) ∧ (¬ (H.1 82 v1.toNatClampNeg) ≤ v2 → pm_R d M_Mo_itemAt [.ref 55, .int v1, .int v2] H (pm_l (fun x2 H1 => pm_R d M_Mo_isPlan [.ref 55, .long x2] H1 (pm_i (fun x4 H3 => (x4 = 0 → Q (some (.int v2)) H3) ∧ (¬ x4 = 0 → pm_RW none (d + 1) M_Mo_planMany Q 2 [(0, .ref 55), (1, .int v1), (2, .int (v2 + (1 : Int32)))] [] H3)))))))) from ⟨fun q1 => (h.1 q1), fun q1 => ⟨(h.2 q1).1, ⟨fun q2 => ((h.2 q1).2.1 q2), fun q2 => u_Mo_itemAt v1 v2 (⟨((h.2 q1).2.2 q2).1, pm_mi ((h.2 q1).2.2 q2).2 (fun x2 H1 z3 => ⟨fun q4 => (z3.1 q4), fun q4 => (z3.2 q4)⟩)⟩)⟩⟩⟩)
def T_Mo_doesPlan : List pmE := [
  (0, [], .aload 0, 0, 0, 0),
  (1, [], .invokeinterface 172 644, 0, 228, 1250),
  (4, [], .iconst 0, 0, 0, 0),
  (5, [], .istore 3, 0, 0, 0),
  (6, [], .iconst 0, 0, 0, 0),
  (7, [], .istore 4, 1, 0, 0),
  (9, [0, 1, 2, 3, 4], .iload 4, 1, 0, 0),
  (11, [], .iload 2, 0, 0, 0),
  (12, [], .if_icmp .ge 45, 0, 0, 0),
  (15, [], .iload 3, 0, 0, 0),
  (16, [], .aload 0, 0, 0, 0),
  (17, [], .aload 0, 0, 0, 0),
  (18, [], .iload 1, 0, 0, 0),
  (19, [], .iload 4, 1, 0, 0),
  (21, [], .invokeinterface 182 654, 0, 241, 1278),
  (24, [], .l2i, 0, 0, 0),
  (25, [], .invokeinterface 184 649, 0, 248, 1292),
  (28, [], .iconst 1, 0, 0, 0),
  (29, [], .if_icmp .ne 36, 0, 0, 0),
  (32, [], .iconst 1, 0, 0, 0),
  (33, [], .goto 37, 0, 0, 0),
  (36, [], .iconst 0, 0, 0, 0),
  (37, [], .iadd, 0, 0, 0),
  (38, [], .istore 3, 0, 0, 0),
  (39, [], .iinc 4 1, 0, 0, 0),
  (42, [], .goto 9, 0, 0, 0),
  (45, [], .iload 3, 0, 0, 0),
  (46, [], .ireturn, 0, 0, 0)]
theorem tk_Mo_doesPlan : pm_okT M_Mo_doesPlan T_Mo_doesPlan = true := by decide +kernel
theorem ok_Mo_doesPlan : pm_okm M_Mo_doesPlan := pm_okm_of _ 1291 85 1290 49 (by decide +kernel)
set_option maxRecDepth 100000 in
set_option maxHeartbeats 4000000 in
theorem m_Mo_doesPlan {d : Nat} {H : pmT} {Q : pmQ} (a1 : Int32) (a2 : Int32)
    (h : pm_R d M_Mo_begins1 [.ref 55] H (pm_v (fun H1 => pm_RW none (d + 1) M_Mo_doesPlan Q 9 [(0, .ref 55), (1, .int a1), (2, .int a2), (3, .int (0 : Int32)), (4, .int (0 : Int32))] [] H1))) : pm_R (d + 1) M_Mo_doesPlan [.ref 55, .int a1, .int a2] H Q :=
  pm_walk (n := 7) ok_Mo_doesPlan tk_Mo_doesPlan rfl (Nat.le_of_ble_eq_true rfl) (show pm_R d M_Mo_begins1 [.ref 55] H (pm_v (fun H1 => pm_RW none (d + 1) M_Mo_doesPlan Q 9 [(0, .ref 55), (1, .int a1), (2, .int a2), (3, .int (0 : Int32)), (4, .int (0 : Int32))] [] H1)) from h)
set_option maxRecDepth 100000 in
set_option maxHeartbeats 4000000 in
theorem b_Mo_doesPlan_9 {d : Nat} {H : pmT} {Q : pmQ} (v1 : Int32) (v2 : Int32) (v3 : Int32) (v4 : Int32)
    (h : (v2 ≤ v4 → Q (some (.int v3)) H) ∧ (¬ v2 ≤ v4 → vp_in (((60 : Int32) * v1) + v4) 360 ∧ (pm_R d M_Mo_does [.ref 55, .int ((H.2.1 83 ((((60 : Int32) * v1) + v4).toNatClampNeg)).toInt32)] H (pm_i (fun x2 H1 => (¬ x2 = (1 : Int32) → pm_RW none (d + 1) M_Mo_doesPlan Q 9 [(0, .ref 55), (1, .int v1), (2, .int v2), (3, .int (v3 + (0 : Int32))), (4, .int (v4 + (1 : Int32)))] [] H1) ∧ (x2 = (1 : Int32) → pm_RW none (d + 1) M_Mo_doesPlan Q 9 [(0, .ref 55), (1, .int v1), (2, .int v2), (3, .int (v3 + (1 : Int32))), (4, .int (v4 + (1 : Int32)))] [] H1)))))) : pm_RW none (d + 1) M_Mo_doesPlan Q 9 [(0, .ref 55), (1, .int v1), (2, .int v2), (3, .int v3), (4, .int v4)] [] H :=
  pm_body tk_Mo_doesPlan 19 9 (show (v2 ≤ v4 → Q (some (.int v3)) H) ∧ (¬ v2 ≤ v4 → pm_R d M_Mo_itemAt [.ref 55, .int v1, .int v4] H (pm_l (fun x2 H1 => pm_R d M_Mo_does [.ref 55, .int x2.toInt32] H1 (pm_i (fun x4 H3 => (¬ x4 = (1 : Int32) → pm_RW none (d + 1) M_Mo_doesPlan Q 9 [(0, .ref 55), (1, .int v1), (2, .int v2), (3, .int (v3 + (0 : Int32))), (4, .int (v4 + (1 : Int32)))] [] H3) ∧ (x4 = (1 : Int32) → pm_RW none (d + 1) M_Mo_doesPlan Q 9 [(0, .ref 55), (1, .int v1), (2, .int v2), (3, .int (v3 + (1 : Int32))), (4, .int (v4 + (1 : Int32)))] [] H3)))))) from ⟨fun q1 => (h.1 q1), fun q1 => u_Mo_itemAt v1 v4 (⟨(h.2 q1).1, pm_mi (h.2 q1).2 (fun x2 H1 z2 => ⟨fun q3 => (z2.1 q3), fun q3 => (z2.2 q3)⟩)⟩)⟩)
def T_Mo_plan : List pmE := [
  (0, [], .aload 0, 0, 0, 0),
  (1, [], .iload 1, 0, 0, 0),
  (2, [], .invokeinterface 181 649, 0, 251, 1270),
  (5, [], .iconst (-1), 0, 0, 0),
  (6, [], .if_icmp .eq 28, 0, 0, 0),
  (9, [], .aload 0, 0, 0, 0),
  (10, [], .iload 2, 0, 0, 0),
  (11, [], .i2l, 0, 0, 0),
  (12, [], .invokeinterface 150 649, 0, 136, 1177),
  (15, [], .ifCond .eq 28, 0, 0, 0),
  (18, [], .iload 3, 0, 0, 0),
  (19, [], .i2l, 0, 0, 0),
  (20, [], .jsr 0, 0, 0, 0),
  (21, [], .jsr 1, 0, 0, 0),
  (22, [], .invokeinterface 143 13, 1, 114, 1152),
  (25, [], .ifCond .ne 30, 0, 0, 0),
  (28, [], .iconst (-1), 0, 0, 0),
  (29, [], .ireturn, 0, 0, 0),
  (30, [], .aload 0, 0, 0, 0),
  (31, [], .iload 1, 0, 0, 0),
  (32, [], .invokeinterface 181 649, 0, 251, 1270),
  (35, [], .ifCond .ge 44, 0, 0, 0),
  (38, [], .aload 0, 0, 0, 0),
  (39, [], .iload 1, 0, 0, 0),
  (40, [], .invokeinterface 181 649, 0, 251, 1270),
  (43, [], .ireturn, 0, 0, 0),
  (44, [], .aload 0, 0, 0, 0),
  (45, [], .iload 1, 0, 0, 0),
  (46, [], .aload 0, 0, 0, 0),
  (47, [], .iload 1, 0, 0, 0),
  (48, [], .invokeinterface 185 649, 0, 254, 1274),
  (51, [], .invokeinterface 186 653, 0, 257, 1288),
  (54, [], .pop, 0, 0, 0),
  (55, [], .iload 3, 0, 0, 0),
  (56, [], .ifCond .ne 68, 0, 0, 0),
  (59, [], .aload 0, 0, 0, 0),
  (60, [], .getfield 595, 0, 39, 997),
  (63, [], .iload 2, 0, 0, 0),
  (64, [], .iaload, 0, 0, 0),
  (65, [], .goto 74, 0, 0, 0),
  (68, [], .aload 0, 0, 0, 0),
  (69, [], .getfield 596, 0, 42, 998),
  (72, [], .iload 2, 0, 0, 0),
  (73, [], .iaload, 0, 0, 0),
  (74, [], .ireturn, 0, 0, 0)]
theorem tk_Mo_plan : pm_okT M_Mo_plan T_Mo_plan = true := by decide +kernel
theorem ok_Mo_plan : pm_okm M_Mo_plan := pm_okm_of _ 1269 85 1267 1268 (by decide +kernel)
set_option maxRecDepth 100000 in
set_option maxHeartbeats 4000000 in
theorem m_Mo_plan {d : Nat} {H : pmT} {Q : pmQ} (a1 : Int32) (a2 : Int32) (a3 : Int32)
    (h : ((lg_cmp a1.toInt64 (0 : Int64)) < 0 → Q (some (.int (-1 : Int32))) H) ∧ (¬ (lg_cmp a1.toInt64 (0 : Int64)) < 0 → (0 < (lg_cmp a1.toInt64 (5 : Int64)) → Q (some (.int (-1 : Int32))) H) ∧ (¬ 0 < (lg_cmp a1.toInt64 (5 : Int64)) → vp_in a1 6 ∧ ((0 ≤ (H.1 81 a1.toNatClampNeg) → (¬ (H.1 81 a1.toNatClampNeg) = (50 : Int32) → ((lg_cmp a2.toInt64 (0 : Int64)) < 0 → Q (some (.int (-1 : Int32))) H) ∧ (¬ (lg_cmp a2.toInt64 (0 : Int64)) < 0 → (0 < (lg_cmp a2.toInt64 (((H.1 55 6) - (1 : Int32)).toInt64)) → Q (some (.int (-1 : Int32))) H) ∧ (¬ 0 < (lg_cmp a2.toInt64 (((H.1 55 6) - (1 : Int32)).toInt64)) → ((lg_cmp a3.toInt64 (0 : Int64)) < 0 → Q (some (.int (-1 : Int32))) H) ∧ (¬ (lg_cmp a3.toInt64 (0 : Int64)) < 0 → (0 < (lg_cmp a3.toInt64 (1 : Int64)) → Q (some (.int (-1 : Int32))) H) ∧ (¬ 0 < (lg_cmp a3.toInt64 (1 : Int64)) → Q (some (.int (-12 : Int32))) H))))) ∧ ((H.1 81 a1.toNatClampNeg) = (50 : Int32) → ((lg_cmp a2.toInt64 (0 : Int64)) < 0 → Q (some (.int (-1 : Int32))) H) ∧ (¬ (lg_cmp a2.toInt64 (0 : Int64)) < 0 → (0 < (lg_cmp a2.toInt64 (((H.1 55 6) - (1 : Int32)).toInt64)) → Q (some (.int (-1 : Int32))) H) ∧ (¬ 0 < (lg_cmp a2.toInt64 (((H.1 55 6) - (1 : Int32)).toInt64)) → ((lg_cmp a3.toInt64 (0 : Int64)) < 0 → Q (some (.int (-1 : Int32))) H) ∧ (¬ (lg_cmp a3.toInt64 (0 : Int64)) < 0 → (0 < (lg_cmp a3.toInt64 (1 : Int64)) → Q (some (.int (-1 : Int32))) H) ∧ (¬ 0 < (lg_cmp a3.toInt64 (1 : Int64)) → pm_R (d + 2) M_Mo_planMany [.ref 55, .int a1] H (pm_i (fun x4310 H4309 => pm_R (d + 2) M_Mo_doesPlan [.ref 55, .int a1, .int x4310] H4309 (pm_i (fun x4312 H4311 => (¬ a3 = 0 → vp_in a2 12 ∧ (Q (some (.int (H4311.1 66 a2.toNatClampNeg))) H4311)) ∧ (a3 = 0 → vp_in a2 12 ∧ (Q (some (.int (H4311.1 65 a2.toNatClampNeg))) H4311)))))))))))) ∧ (¬ 0 ≤ (H.1 81 a1.toNatClampNeg) → ((lg_cmp a2.toInt64 (0 : Int64)) < 0 → Q (some (.int (-1 : Int32))) H) ∧ (¬ (lg_cmp a2.toInt64 (0 : Int64)) < 0 → (0 < (lg_cmp a2.toInt64 (((H.1 55 6) - (1 : Int32)).toInt64)) → Q (some (.int (-1 : Int32))) H) ∧ (¬ 0 < (lg_cmp a2.toInt64 (((H.1 55 6) - (1 : Int32)).toInt64)) → ((lg_cmp a3.toInt64 (0 : Int64)) < 0 → Q (some (.int (-1 : Int32))) H) ∧ (¬ (lg_cmp a3.toInt64 (0 : Int64)) < 0 → (0 < (lg_cmp a3.toInt64 (1 : Int64)) → Q (some (.int (-1 : Int32))) H) ∧ (¬ 0 < (lg_cmp a3.toInt64 (1 : Int64)) → Q (some (.int (-11 : Int32))) H))))))))) : pm_R (d + 3) M_Mo_plan [.ref 55, .int a1, .int a2, .int a3] H Q :=
  pm_walk (n := 35) ok_Mo_plan tk_Mo_plan rfl (Nat.le_of_ble_eq_true rfl) (show pm_R (d + 2) M_Mo_bytesIs [.ref 55, .int a1] H (pm_i (fun x2 H1 => (x2 = (-1 : Int32) → Q (some (.int (-1 : Int32))) H1) ∧ (¬ x2 = (-1 : Int32) → pm_R (d + 2) M_Mo_isBar [.ref 55, .long a2.toInt64] H1 (pm_i (fun x4 H3 => (x4 = 0 → Q (some (.int (-1 : Int32))) H3) ∧ (¬ x4 = 0 → pm_R (d + 2) M_Mo_within [.long a3.toInt64, .long (0 : Int64), .long (1 : Int64)] H3 (pm_i (fun x6 H5 => (¬ x6 = 0 → pm_R (d + 2) M_Mo_bytesIs [.ref 55, .int a1] H5 (pm_i (fun x8 H7 => (0 ≤ x8 → pm_R (d + 2) M_Mo_planMany [.ref 55, .int a1] H7 (pm_i (fun x10 H9 => pm_R (d + 2) M_Mo_doesPlan [.ref 55, .int a1, .int x10] H9 (pm_i (fun x12 H11 => (¬ a3 = 0 → vp_in a2 12 ∧ (Q (some (.int (H11.1 66 a2.toNatClampNeg))) H11)) ∧ (a3 = 0 → vp_in a2 12 ∧ (Q (some (.int (H11.1 65 a2.toNatClampNeg))) H11))))))) ∧ (¬ 0 ≤ x8 → pm_R (d + 2) M_Mo_bytesIs [.ref 55, .int a1] H7 (pm_i (fun x14 H13 => Q (some (.int x14)) H13)))))) ∧ (x6 = 0 → Q (some (.int (-1 : Int32))) H5))))))))) from u_Mo_bytesIs a1 (u_Mo_isShelf a1 (u_Mo_within a1.toInt64 (0 : Int64) (5 : Int64) (⟨fun q1 => ⟨Or.inl rfl, ⟨Or.inl rfl, ⟨fun z => absurd (by decide) z, fun _ => ⟨fun _ => (h.1 q1), fun z => absurd (by decide) z⟩⟩⟩⟩, fun q1 => ⟨fun q2 => ⟨Or.inl rfl, ⟨Or.inl rfl, ⟨fun z => absurd (by decide) z, fun _ => ⟨fun _ => ((h.2 q1).1 q2), fun z => absurd (by decide) z⟩⟩⟩⟩, fun q2 => ⟨Or.inr rfl, ⟨Or.inr rfl, ⟨fun _ => ⟨((h.2 q1).2 q2).1, ⟨fun q3 => ⟨((h.2 q1).2 q2).1, ⟨fun q4 => ⟨fun z => absurd z (by decide), fun _ => u_Mo_isBar a2.toInt64 (u_Mo_within a2.toInt64 (0 : Int64) (((H.1 55 6) - (1 : Int32)).toInt64) (⟨fun q5 => ⟨Or.inl rfl, ⟨Or.inl rfl, ⟨fun _ => (((((h.2 q1).2 q2).2.1 q3).1 q4).1 q5), fun z => absurd (by decide) z⟩⟩⟩, fun q5 => ⟨fun q6 => ⟨Or.inl rfl, ⟨Or.inl rfl, ⟨fun _ => ((((((h.2 q1).2 q2).2.1 q3).1 q4).2 q5).1 q6), fun z => absurd (by decide) z⟩⟩⟩, fun q6 => ⟨Or.inr rfl, ⟨Or.inr rfl, ⟨fun z => absurd z (by decide), fun _ => u_Mo_within a3.toInt64 (0 : Int64) (1 : Int64) (⟨fun q7 => ⟨Or.inl rfl, ⟨fun z => absurd (by decide) z, fun _ => (((((((h.2 q1).2 q2).2.1 q3).1 q4).2 q5).2 q6).1 q7)⟩⟩, fun q7 => ⟨fun q8 => ⟨Or.inl rfl, ⟨fun z => absurd (by decide) z, fun _ => ((((((((h.2 q1).2 q2).2.1 q3).1 q4).2 q5).2 q6).2 q7).1 q8)⟩⟩, fun q8 => ⟨Or.inr rfl, ⟨fun _ => u_Mo_bytesIs a1 (u_Mo_isShelf a1 (u_Mo_within a1.toInt64 (0 : Int64) (5 : Int64) (⟨fun z => absurd z q1, fun _ => ⟨fun z => absurd z q2, fun _ => ⟨Or.inr rfl, ⟨Or.inr rfl, ⟨fun _ => ⟨((h.2 q1).2 q2).1, ⟨fun _ => ⟨((h.2 q1).2 q2).1, ⟨fun _ => ⟨fun z => absurd z (by decide), fun _ => u_Mo_bytesIs a1 (u_Mo_isShelf a1 (u_Mo_within a1.toInt64 (0 : Int64) (5 : Int64) (⟨fun z => absurd z q1, fun _ => ⟨fun z => absurd z q2, fun _ => ⟨Or.inr rfl, ⟨Or.inr rfl, ⟨fun _ => ⟨((h.2 q1).2 q2).1, ⟨fun _ => ⟨((h.2 q1).2 q2).1, ⟨fun _ => ((((((((h.2 q1).2 q2).2.1 q3).1 q4).2 q5).2 q6).2 q7).2 q8), fun z => absurd z q4⟩⟩, fun z => absurd q3 z⟩⟩, fun z => absurd z (by decide)⟩⟩⟩⟩⟩)))⟩, fun z => absurd z q4⟩⟩, fun z => absurd q3 z⟩⟩, fun z => absurd z (by decide)⟩⟩⟩⟩⟩))), fun z => absurd z (by decide)⟩⟩⟩⟩)⟩⟩⟩⟩⟩))⟩, fun q4 => ⟨fun z => absurd z (by decide), fun _ => u_Mo_isBar a2.toInt64 (u_Mo_within a2.toInt64 (0 : Int64) (((H.1 55 6) - (1 : Int32)).toInt64) (⟨fun q9 => ⟨Or.inl rfl, ⟨Or.inl rfl, ⟨fun _ => (((((h.2 q1).2 q2).2.1 q3).2 q4).1 q9), fun z => absurd (by decide) z⟩⟩⟩, fun q9 => ⟨fun q10 => ⟨Or.inl rfl, ⟨Or.inl rfl, ⟨fun _ => ((((((h.2 q1).2 q2).2.1 q3).2 q4).2 q9).1 q10), fun z => absurd (by decide) z⟩⟩⟩, fun q10 => ⟨Or.inr rfl, ⟨Or.inr rfl, ⟨fun z => absurd z (by decide), fun _ => u_Mo_within a3.toInt64 (0 : Int64) (1 : Int64) (⟨fun q11 => ⟨Or.inl rfl, ⟨fun z => absurd (by decide) z, fun _ => (((((((h.2 q1).2 q2).2.1 q3).2 q4).2 q9).2 q10).1 q11)⟩⟩, fun q11 => ⟨fun q12 => ⟨Or.inl rfl, ⟨fun z => absurd (by decide) z, fun _ => ((((((((h.2 q1).2 q2).2.1 q3).2 q4).2 q9).2 q10).2 q11).1 q12)⟩⟩, fun q12 => ⟨Or.inr rfl, ⟨fun _ => u_Mo_bytesIs a1 (u_Mo_isShelf a1 (u_Mo_within a1.toInt64 (0 : Int64) (5 : Int64) (⟨fun z => absurd z q1, fun _ => ⟨fun z => absurd z q2, fun _ => ⟨Or.inr rfl, ⟨Or.inr rfl, ⟨fun _ => ⟨((h.2 q1).2 q2).1, ⟨fun _ => ⟨((h.2 q1).2 q2).1, ⟨fun z => absurd q4 z, fun _ => ⟨fun _ => pm_mi ((((((((h.2 q1).2 q2).2.1 q3).2 q4).2 q9).2 q10).2 q11).2 q12) (fun x4310 H4309 z13 => pm_mi z13 (fun x4312 H4311 z14 => ⟨fun q15 => ⟨(z14.1 q15).1, (z14.1 q15).2⟩, fun q15 => ⟨(z14.2 q15).1, (z14.2 q15).2⟩⟩)), fun z => absurd (by decide) z⟩⟩⟩, fun z => absurd q3 z⟩⟩, fun z => absurd z (by decide)⟩⟩⟩⟩⟩))), fun z => absurd z (by decide)⟩⟩⟩⟩)⟩⟩⟩⟩⟩))⟩⟩⟩, fun q3 => ⟨fun z => absurd z (by decide), fun _ => u_Mo_isBar a2.toInt64 (u_Mo_within a2.toInt64 (0 : Int64) (((H.1 55 6) - (1 : Int32)).toInt64) (⟨fun q16 => ⟨Or.inl rfl, ⟨Or.inl rfl, ⟨fun _ => ((((h.2 q1).2 q2).2.2 q3).1 q16), fun z => absurd (by decide) z⟩⟩⟩, fun q16 => ⟨fun q17 => ⟨Or.inl rfl, ⟨Or.inl rfl, ⟨fun _ => (((((h.2 q1).2 q2).2.2 q3).2 q16).1 q17), fun z => absurd (by decide) z⟩⟩⟩, fun q17 => ⟨Or.inr rfl, ⟨Or.inr rfl, ⟨fun z => absurd z (by decide), fun _ => u_Mo_within a3.toInt64 (0 : Int64) (1 : Int64) (⟨fun q18 => ⟨Or.inl rfl, ⟨fun z => absurd (by decide) z, fun _ => ((((((h.2 q1).2 q2).2.2 q3).2 q16).2 q17).1 q18)⟩⟩, fun q18 => ⟨fun q19 => ⟨Or.inl rfl, ⟨fun z => absurd (by decide) z, fun _ => (((((((h.2 q1).2 q2).2.2 q3).2 q16).2 q17).2 q18).1 q19)⟩⟩, fun q19 => ⟨Or.inr rfl, ⟨fun _ => u_Mo_bytesIs a1 (u_Mo_isShelf a1 (u_Mo_within a1.toInt64 (0 : Int64) (5 : Int64) (⟨fun z => absurd z q1, fun _ => ⟨fun z => absurd z q2, fun _ => ⟨Or.inr rfl, ⟨Or.inr rfl, ⟨fun _ => ⟨((h.2 q1).2 q2).1, ⟨fun z => absurd z q3, fun _ => ⟨fun z => absurd z (by decide), fun _ => u_Mo_bytesIs a1 (u_Mo_isShelf a1 (u_Mo_within a1.toInt64 (0 : Int64) (5 : Int64) (⟨fun z => absurd z q1, fun _ => ⟨fun z => absurd z q2, fun _ => ⟨Or.inr rfl, ⟨Or.inr rfl, ⟨fun _ => ⟨((h.2 q1).2 q2).1, ⟨fun z => absurd z q3, fun _ => (((((((h.2 q1).2 q2).2.2 q3).2 q16).2 q17).2 q18).2 q19)⟩⟩, fun z => absurd z (by decide)⟩⟩⟩⟩⟩)))⟩⟩⟩, fun z => absurd z (by decide)⟩⟩⟩⟩⟩))), fun z => absurd z (by decide)⟩⟩⟩⟩)⟩⟩⟩⟩⟩))⟩⟩⟩, fun z => absurd z (by decide)⟩⟩⟩⟩⟩))))
